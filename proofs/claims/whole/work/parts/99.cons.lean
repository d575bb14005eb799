/-! constructors -/
def a_I (A : Nat → va_E) (h0 z i : Nat) (σ0 σ : a_S) (o : va_E) : Prop := σ h0 = some o ∧ (∀ j, j < i → σ (z + j) = some (A j)) ∧ ∀ q, q < z → q ≠ h0 → σ q = σ0 q
section AI
variable {A A2 : Nat → va_E} {h0 z i m9 J : Nat} {σ0 σ σ2 : a_S} {o o2 b x : va_E}
theorem a_I.nil (h : σ h0 = some o) : a_I A h0 z 0 σ σ o := ⟨h, fun j hj => absurd hj (Nat.not_lt_zero _), fun _ _ _ => rfl⟩
theorem a_I.new (hh : h0 < z) (h : a_I A h0 z i σ0 σ o) (hx : A i = x) : a_I A h0 z (i + 1) σ0 (a_up σ (z + i) x) o := by
  refine ⟨(a_up_ne (by omega)).trans h.1, fun j hj => ?_, fun q hq hn => (a_up_ne (by omega)).trans (h.2.2 q hq hn)⟩
  by_cases e : j = i
  · subst e
    rw [a_up_at, hx]
  · rw [a_up_ne (by omega)]
    exact h.2.1 j (by omega)
theorem a_I.put (hh : h0 < z) (h : a_I A h0 z i σ0 σ o) : a_I A h0 z i σ0 (a_up σ h0 o2) o2 :=
  ⟨a_up_at _ _ _, fun j hj => (a_up_ne (by omega)).trans (h.2.1 j hj), fun q hq hn => (a_up_ne hn).trans (h.2.2 q hq hn)⟩
theorem a_I.cong (h : a_I A h0 z i σ0 σ o) (hA : ∀ j, j < i → A j = A2 j) : a_I A2 h0 z i σ0 σ o := ⟨h.1, fun j hj => (h.2.1 j hj).trans (congrArg some (hA j hj)), h.2.2⟩
theorem a_I.arr (hh : h0 < z) (h : a_I A h0 z i σ0 σ o) : a_I (fun j => if j = J then x else A j) h0 z i σ0 (a_up σ (z + J) x) o := by
  refine ⟨(a_up_ne (by omega)).trans h.1, fun j hj => ?_, fun q hq hn => (a_up_ne (by omega)).trans (h.2.2 q hq hn)⟩
  by_cases e : j = J
  · subst e
    rw [a_up_at]
    exact (congrArg some (if_pos rfl)).symm
  · rw [a_up_ne (by omega)]
    exact (h.2.1 j hj).trans (congrArg some (if_neg e)).symm
theorem a_I.sub (hh : h0 < z) (h : a_I A h0 z i σ0 σ o) (h2 : a_I A2 (z + i) (z + (i + 1)) m9 (a_up σ (z + i) b) σ2 o2) (hA : A i = o2) (hA2 : ∀ j, j < m9 → A (i + 1 + j) = A2 j) : a_I A h0 z (i + 1 + m9) σ0 σ2 o := by
  refine ⟨?_, fun j hj => ?_, fun q hq hn => ?_⟩
  · rw [h2.2.2 h0 (by omega) (by omega), a_up_ne (by omega)]
    exact h.1
  · by_cases e1 : j < i
    · rw [h2.2.2 _ (by omega) (by omega), a_up_ne (by omega)]
      exact h.2.1 j e1
    · by_cases e2 : j = i
      · subst e2
        rw [hA]
        exact h2.1
      · have := h2.2.1 (j - i - 1) (by omega)
        rw [← hA2 _ (by omega), show i + 1 + (j - i - 1) = j by omega, show z + (i + 1) + (j - i - 1) = z + j by omega] at this
        exact this
  · rw [h2.2.2 q (by omega) (by omega), a_up_ne (by omega)]
    exact h.2.2 q hq hn
variable {p : Program} {l : Launch} {e : Env} {s : State} {m : MethodId} {args : Array Value} {below : List Frame} {meth : Method} {c : Code} {D : va_G} {ca : Nat → ClassId} {R : Room} {Q : State → Prop} {z0 : Nat} {cc : ByteArray} {nL : Nat} {own : String} {ret : Option FieldType}
variable {pc : Nat} {ls : List (Option Value)} {rest : List Value} {n k : Nat}
theorem al_NA (hC : n_C p s m args meth c (aw D ca) cc nL own ret) (hin : meth.name = "<init>") {ci j t0 N index : Nat} {fs : List Value} {atype : ArrayType} {ty ty2 : FieldType} {v : Int32} {a0 : vp_A} {q : vw_C} (hh : h0 < z ∧ z0 ≤ h0) (hI : a_I A h0 z i σ0 σ (.inr (ci, fs))) (hv : ¬ v < 0 ∧ v.toNatClampNeg = N) (hA : A i = .inl (ca t0, a0)) (ha : ∀ cA : ClassId, vp_cell cA a0 = arrV cA N (fun _ => defaultValue ty))
    (harr : Cond.arrayClass (newarray.typeOf atype) ∈ n_tb) (hty : newarray.typeOf atype = ty) (hno : ∀ C, ty ≠ .object C) (ht : (n_tys ca)[t0]? = some (ca t0, ty)) (hbytes : N * componentBytes ty ≤ 536870912) (hcells : n + 1 ≤ R.cells) (hslots : k + N ≤ R.slots) (hd1 : decode cc pc = .ok (.newarray atype, 2))
    (hc : n_cls[ci]? = some q) (hj : j < q.2.2) (hw : Cond.fieldLink own index (q.2.1 j).1 (q.2.1 j).2.1 (q.2.1 j).2.2.1 ∈ n_tb) (hl : j < fs.length) (hfin : (q.2.1 j).2.2.2 = true) (hdecl : (q.2.1 j).1 = own) (hty2 : parseFieldDescriptor (q.2.1 j).2.2.1 = some ty2) (hn : narrow ty2 (.ref (z + i)) = .ref (z + i)) (hf : fits ty2 (.ref (z + i)) = true) (hd2 : decode cc (pc + 2) = .ok (.putfield index, 3))
    (kk : ∀ σ2, a_I A h0 z (i + 1) σ0 σ2 (.inr (ci, fs.set j (.ref (z + i)))) → ag_W p l e s m args below meth c R Q D z0 (pc + 5) ls rest (σ2, z + (i + 1), n + 1, k + N)) : ag_W p l e s m args below meth c R Q D z0 pc ls (.int v :: .ref h0 :: rest) (σ, z + i, n, k) := by
  have h2 := hI.new hh.1 hA
  refine al_newa (t0 := t0) hC harr hty hno ht ha hv.1 hv.2 hbytes hcells hslots hd1 ?_
  exact al_putF hC hin h2.1 hh.2 hc hj hw hl hfin hdecl hty2 hn hf hd2 (kk _ (h2.put hh.1))
theorem al_NR (hC : n_C p s m args meth c (aw D ca) cc nL own ret) (hN0 : a_N s) (hin : meth.name = "<init>") {ci j t0 N index ix2 : Nat} {fs : List Value} {C : String} {ty2 : FieldType} {v : Int32} {q : vw_C} (hh : h0 < z ∧ z0 ≤ h0) (hI : a_I A h0 z i σ0 σ (.inr (ci, fs))) (hv : ¬ v < 0 ∧ v.toNatClampNeg = N) (hA : A i = .inl (ca t0, N, .inr (.inr (.inr (.inr fun _ => none)))))
    (hC2 : C ∈ a_ovr) (hl2 : Cond.classLink own ix2 C ∈ n_tb) (ht : (n_tys ca)[t0]? = some (ca t0, .object C)) (hbytes : N * 4 ≤ 536870912) (hcells : n + 1 ≤ R.cells) (hslots : k + N ≤ R.slots) (hd1 : decode cc pc = .ok (.anewarray ix2, 3))
    (hc : n_cls[ci]? = some q) (hj : j < q.2.2) (hw : Cond.fieldLink own index (q.2.1 j).1 (q.2.1 j).2.1 (q.2.1 j).2.2.1 ∈ n_tb) (hl : j < fs.length) (hfin : (q.2.1 j).2.2.2 = true) (hdecl : (q.2.1 j).1 = own) (hty2 : parseFieldDescriptor (q.2.1 j).2.2.1 = some ty2) (hn : narrow ty2 (.ref (z + i)) = .ref (z + i)) (hf : fits ty2 (.ref (z + i)) = true) (hd2 : decode cc (pc + 3) = .ok (.putfield index, 3))
    (kk : ∀ σ2, a_I A h0 z (i + 1) σ0 σ2 (.inr (ci, fs.set j (.ref (z + i)))) → ag_W p l e s m args below meth c R Q D z0 (pc + 6) ls rest (σ2, z + (i + 1), n + 1, k + N)) : ag_W p l e s m args below meth c R Q D z0 pc ls (.int v :: .ref h0 :: rest) (σ, z + i, n, k) := by
  have h2 := hI.new hh.1 hA
  refine al_anew (t0 := t0) hC hN0 hC2 hl2 ht hv.1 hv.2 hbytes hcells hslots hd1 ?_
  exact al_putF hC hin h2.1 hh.2 hc hj hw hl hfin hdecl hty2 hn hf hd2 (kk _ (h2.put hh.1))
theorem al_PF (hC : n_C p s m args meth c (aw D ca) cc nL own ret) (hin : meth.name = "<init>") {ci j zz index : Nat} {fs : List Value} {v : Value} {q : vw_C} {ty : FieldType} (hh : h0 < z ∧ z0 ≤ h0) (hI : a_I A h0 z i σ0 σ (.inr (ci, fs))) (hc : n_cls[ci]? = some q) (hj : j < q.2.2) (hw : Cond.fieldLink own index (q.2.1 j).1 (q.2.1 j).2.1 (q.2.1 j).2.2.1 ∈ n_tb) (hl : j < fs.length)
    (hfin : (q.2.1 j).2.2.2 = true) (hdecl : (q.2.1 j).1 = own) (hty : parseFieldDescriptor (q.2.1 j).2.2.1 = some ty) (hn : narrow ty v = v) (hf : fits ty v = true) (hdg : decode cc pc = .ok (.putfield index, 3))
    (kk : ∀ σ2, a_I A h0 z i σ0 σ2 (.inr (ci, fs.set j v)) → ag_W p l e s m args below meth c R Q D z0 (pc + 3) ls rest (σ2, zz, n, k)) : ag_W p l e s m args below meth c R Q D z0 pc ls (v :: .ref h0 :: rest) (σ, zz, n, k) :=
  al_putF hC hin hI.1 hh.2 hc hj hw hl hfin hdecl hty hn hf hdg (kk _ (hI.put hh.1))
theorem al_PN (hC : n_C p s m args meth c (aw D ca) cc nL own ret) {ci j zz index : Nat} {fs : List Value} {v : Value} {q : vw_C} {ty : FieldType} (hh : h0 < z ∧ z0 ≤ h0) (hI : a_I A h0 z i σ0 σ (.inr (ci, fs))) (hc : n_cls[ci]? = some q) (hj : j < q.2.2) (hw : Cond.fieldLink own index (q.2.1 j).1 (q.2.1 j).2.1 (q.2.1 j).2.2.1 ∈ n_tb) (hl : j < fs.length)
    (hfin : (q.2.1 j).2.2.2 = false) (hty : parseFieldDescriptor (q.2.1 j).2.2.1 = some ty) (hn : narrow ty v = v) (hf : fits ty v = true) (hdg : decode cc pc = .ok (.putfield index, 3))
    (kk : ∀ σ2, a_I A h0 z i σ0 σ2 (.inr (ci, fs.set j v)) → ag_W p l e s m args below meth c R Q D z0 (pc + 3) ls rest (σ2, zz, n, k)) : ag_W p l e s m args below meth c R Q D z0 pc ls (v :: .ref h0 :: rest) (σ, zz, n, k) :=
  al_put hC hI.1 hh.2 hc hj hw hl hfin hty hn hf hdg (kk _ (hI.put hh.1))
theorem al_IA (hC : n_C p s m args meth c (aw D ca) cc nL own ret) {t0 N zz : Nat} {f : Nat → Int32} {j x : Int32} (hh : h0 < z ∧ z0 ≤ h0) (hI : a_I A h0 z i σ0 σ o) (hJ : J < i) (hA : A J = .inl (ca t0, N, .inl f)) (ht : (n_tys ca)[t0]? = some (ca t0, .int)) (hin : vp_in j N) (hdg : decode cc pc = .ok (.iastore, 1))
    (kk : ∀ σ2, a_I (fun i => if i = J then .inl (ca t0, N, .inl (upd f j.toNatClampNeg x)) else A i) h0 z i σ0 σ2 o → ag_W p l e s m args below meth c R Q D z0 (pc + 1) ls rest (σ2, zz, n, k)) : ag_W p l e s m args below meth c R Q D z0 pc ls (.int x :: .int j :: .ref (z + J) :: rest) (σ, zz, n, k) :=
  al_iast hC ((hI.2.1 J hJ).trans (congrArg some hA)) (by omega) ht hin hdg (kk _ (hI.arr hh.1))
theorem al_AA (hC : n_C p s m args meth c (aw D ca) cc nL own ret) {t0 N zz v ci : Nat} {q0 : vw_C} {fs : List Value} {f : Nat → Option Nat} {j : Int32} (hh : h0 < z ∧ z0 ≤ h0) (hI : a_I A h0 z i σ0 σ o) (hJ : J < i) (hA : A J = .inl (ca t0, N, .inr (.inr (.inr (.inr f))))) (hv : σ v = some (.inr (ci, fs))) (hc : n_cls[ci]? = some q0) (ht : (n_tys ca)[t0]? = some (ca t0, .object q0.1)) (hin : vp_in j N) (hdg : decode cc pc = .ok (.aastore, 1))
    (kk : ∀ σ2, a_I (fun i => if i = J then .inl (ca t0, N, .inr (.inr (.inr (.inr (va_up f j.toNatClampNeg (some v)))))) else A i) h0 z i σ0 σ2 o → ag_W p l e s m args below meth c R Q D z0 (pc + 1) ls rest (σ2, zz, n, k)) : ag_W p l e s m args below meth c R Q D z0 pc ls (.ref v :: .int j :: .ref (z + J) :: rest) (σ, zz, n, k) :=
  al_aast hC ((hI.2.1 J hJ).trans (congrArg some hA)) (by omega) hv hc ht hin hdg (kk _ (hI.arr hh.1))
theorem al_SC (hC : n_C p s m args meth c (aw D ca) cc nL own ret) (hN0 : a_N s) {np index maxL d' k2 : Nat} {y : MethodName} {bytes : ByteArray} {As : List Value} (hh : h0 < z ∧ z0 ≤ h0) (hI : a_I A h0 z i σ0 σ o)
    (hM : a_Ct l D ca z0 d' m9 k2 y bytes maxL (.ref (z + i) :: As) (a_up σ (z + i) b) (z + (i + 1)) (z + (i + 1) + m9) (fun σ' => a_I A2 (z + i) (z + (i + 1)) m9 (a_up σ (z + i) b) σ' o2)) (hA : A i = o2) (hA2 : ∀ j, j < m9 → A (i + 1 + j) = A2 j) (hd : d' + 1 ≤ R.frames ∧ 60 * d' + 60 ≤ R.locals) (hmx : maxL ≤ 41)
    (hw : Cond.methodLink own index y ∈ n_tb ∧ Cond.instanceMethod y ∈ n_tb ∧ Cond.initialized y.cls ∈ n_tb ∧ Cond.code y bytes maxL none ∈ n_tb) (hnm : y.name = "<init>")
    (hy : (y.cls ≠ "java/lang/invoke/MethodHandle" ∧ y.cls ≠ "java/lang/invoke/VarHandle") ∧ (parseMethodDescriptor y.desc).map (fun d => d.parameters.length) = some np) (hn : As.length = np) (hr : (rest.map fun v => v.category).sum ≤ 8) (hcells : n + m9 ≤ R.cells) (hslots : k + k2 ≤ R.slots) (hdg : decode cc pc = .ok (.invokespecial index, 3))
    (kk : ∀ σ2, a_I A h0 z (i + 1 + m9) σ0 σ2 o → ag_W p l e s m args below meth c R Q D z0 (pc + 3) ls rest (σ2, z + (i + 1 + m9), n + m9, k + k2)) : ag_W p l e s m args below meth c R Q D z0 pc ls (As.reverse ++ .ref (z + i) :: rest) (a_up σ (z + i) b, z + (i + 1), n, k) := by
  refine al_call hC hN0 hM hd hmx hw hnm hy hn hr hcells hslots hdg (fun σ2 h2 => ?_)
  have h3 := kk σ2 (hI.sub hh.1 h2 hA hA2)
  rw [show z + (i + 1 + m9) = z + (i + 1) + m9 by omega] at h3
  exact h3
theorem al_SCN (hC : n_C p s m args meth c (aw D ca) cc nL own ret) (hN0 : a_N s) {np index maxL d' k2 : Nat} {y : MethodName} {bytes : ByteArray} {As : List Value} (hh : h0 < z ∧ z0 ≤ h0) (hI : a_I A h0 z i σ0 σ o)
    (hM : a_Ct l D ca z0 d' m9 k2 y bytes maxL (.ref (z + i) :: As) (a_up σ (z + i) b) (z + (i + 1)) (z + (i + 1) + m9) (fun σ' => a_I A2 (z + i) (z + (i + 1)) m9 (a_up σ (z + i) b) σ' o2)) (hA : A i = o2) (hA2 : ∀ j, j < m9 → A (i + 1 + j) = A2 j) (hd : d' + 1 ≤ R.frames ∧ 60 * d' + 60 ≤ R.locals) (hmx : maxL ≤ 41)
    (hq : (own, index, y) ∈ a_nest) (hw : Cond.instanceMethod y ∈ n_tb ∧ Cond.initialized y.cls ∈ n_tb ∧ Cond.code y bytes maxL none ∈ n_tb) (hnm : y.name = "<init>")
    (hy : (y.cls ≠ "java/lang/invoke/MethodHandle" ∧ y.cls ≠ "java/lang/invoke/VarHandle") ∧ (parseMethodDescriptor y.desc).map (fun d => d.parameters.length) = some np) (hn : As.length = np) (hr : (rest.map fun v => v.category).sum ≤ 8) (hcells : n + m9 ≤ R.cells) (hslots : k + k2 ≤ R.slots) (hdg : decode cc pc = .ok (.invokespecial index, 3))
    (kk : ∀ σ2, a_I A h0 z (i + 1 + m9) σ0 σ2 o → ag_W p l e s m args below meth c R Q D z0 (pc + 3) ls rest (σ2, z + (i + 1 + m9), n + m9, k + k2)) : ag_W p l e s m args below meth c R Q D z0 pc ls (As.reverse ++ .ref (z + i) :: rest) (a_up σ (z + i) b, z + (i + 1), n, k) := by
  refine al_callN hC hN0 hM hd hmx hq hw hnm hy hn hr hcells hslots hdg (fun σ2 h2 => ?_)
  have h3 := kk σ2 (hI.sub hh.1 h2 hA hA2)
  rw [show z + (i + 1 + m9) = z + (i + 1) + m9 by omega] at h3
  exact h3
def aA_X1 (ca : Nat → ClassId) (z : Nat) : Nat → va_E := fun j => match j with
  | 0 => .inl (ca 0, 8, .inl fun _ => 0)
  | _ => .inl (ca 0, 8, .inl fun _ => 0)
abbrev aO_X1 (z : Nat) : va_E := .inr (0, [.ref (z + 0), .ref (z + 1), .int 0])
theorem a_X1_init (l : Launch) (D : va_G) (ca : Nat → ClassId) {z0 h0 z : Nat} {σ : a_S} (hb : σ h0 = some (.inr (0, [.null, .null, .int 0]))) (hh : h0 < z ∧ z0 ≤ h0) : a_Ct l D ca z0 1 2 16 yX1_init cX1_init 1 ([.ref h0]) σ z (z + 2) (fun σ' => a_I (aA_X1 ca z) h0 z 2 σ σ' (aO_X1 z)) := by
  refine a_ofW rfl rfl (Nat.le_of_ble_eq_true rfl) (fun p e s m below meth c hC hin hN => ?_)
  have hI : a_I (aA_X1 ca z) h0 z 0 σ σ (.inr (0, [.null, .null, .int 0])) := a_I.nil hb
  have key : ∀ σ1 : a_S, a_I (aA_X1 ca z) h0 z 0 σ σ1 (.inr (0, [.null, .null, .int 0])) → a_W p l e s m ([.ref h0] : List Value).toArray below meth c D z0 1 2 16 (fun σ' => a_I (aA_X1 ca z) h0 z 2 σ σ' (aO_X1 z)) (z + 2) 0 (n_l0 1 ([.ref h0])) [] (σ1, z + 0, 0, 0) := by
    intro σ1 hI
    refine jg_aload_n hC dX1_init_0 rfl rfl ?_
    refine al_obj hC wob_X1 dX1_init_1 ⟨Nat.le_of_ble_eq_true rfl, Nat.le_of_ble_eq_true rfl, Nat.le_of_ble_eq_true rfl⟩ ?_
    refine jg_aload_n hC dX1_init_4 rfl rfl ?_
    refine jg_bipush (v := 8) hC dX1_init_5 (by decide) ?_
    refine al_NA (atype := .int) (t0 := 0) (N := 8) (j := 0) (ty := .int) (ty2 := .array .int) hC hin hh hI ⟨by decide, by decide⟩ rfl (fun _ => rfl) wa_int rfl (fun _ h => by cases h) rfl (by decide) (Nat.le_of_ble_eq_true rfl) (Nat.le_of_ble_eq_true rfl) dX1_init_7 rfl (by decide) wfX1_9 (Nat.le_of_ble_eq_true rfl) rfl rfl (by decide +kernel) rfl rfl dX1_init_9 (fun σ hI => ?_)
    refine jg_aload_n hC dX1_init_12 rfl rfl ?_
    refine jg_bipush (v := 8) hC dX1_init_13 (by decide) ?_
    refine al_NA (atype := .int) (t0 := 0) (N := 8) (j := 1) (ty := .int) (ty2 := .array .int) hC hin hh hI ⟨by decide, by decide⟩ rfl (fun _ => rfl) wa_int rfl (fun _ h => by cases h) rfl (by decide) (Nat.le_of_ble_eq_true rfl) (Nat.le_of_ble_eq_true rfl) dX1_init_15 rfl (by decide) wfX1_15 (Nat.le_of_ble_eq_true rfl) rfl rfl (by decide +kernel) rfl rfl dX1_init_17 (fun σ hI => ?_)
    exact al_ret hC dX1_init_20 hI
  exact key σ hI
def aA_X5 (ca : Nat → ClassId) (z : Nat) : Nat → va_E := fun j => match j with
  | 0 => .inl (ca 7, 256, .inr (.inr (.inr (.inr fun _ => none))))
  | _ => .inl (ca 0, 256, .inl fun _ => 0)
abbrev aO_X5 (z : Nat) : va_E := .inr (3, [.ref (z + 0), .ref (z + 1), .int 0, .int 0])
theorem a_X5_init (l : Launch) (D : va_G) (ca : Nat → ClassId) {z0 h0 z : Nat} {σ : a_S} (hb : σ h0 = some (.inr (3, [.null, .null, .int 0, .int 0]))) (hh : h0 < z ∧ z0 ≤ h0) : a_Ct l D ca z0 1 2 512 yX5_init cX5_init 1 ([.ref h0]) σ z (z + 2) (fun σ' => a_I (aA_X5 ca z) h0 z 2 σ σ' (aO_X5 z)) := by
  refine a_ofW rfl rfl (Nat.le_of_ble_eq_true rfl) (fun p e s m below meth c hC hin hN => ?_)
  have hI : a_I (aA_X5 ca z) h0 z 0 σ σ (.inr (3, [.null, .null, .int 0, .int 0])) := a_I.nil hb
  have key : ∀ σ1 : a_S, a_I (aA_X5 ca z) h0 z 0 σ σ1 (.inr (3, [.null, .null, .int 0, .int 0])) → a_W p l e s m ([.ref h0] : List Value).toArray below meth c D z0 1 2 512 (fun σ' => a_I (aA_X5 ca z) h0 z 2 σ σ' (aO_X5 z)) (z + 2) 0 (n_l0 1 ([.ref h0])) [] (σ1, z + 0, 0, 0) := by
    intro σ1 hI
    refine jg_aload_n hC dX5_init_0 rfl rfl ?_
    refine al_obj hC wob_X5 dX5_init_1 ⟨Nat.le_of_ble_eq_true rfl, Nat.le_of_ble_eq_true rfl, Nat.le_of_ble_eq_true rfl⟩ ?_
    refine jg_aload_n hC dX5_init_4 rfl rfl ?_
    refine jg_sipush (v := 256) hC dX5_init_5 (by decide) ?_
    refine al_NR (t0 := 7) (N := 256) (j := 0) (C := "ShareMonitor$Op") (ty2 := .array (.object "ShareMonitor$Op")) hC hN hin hh hI ⟨by decide, by decide⟩ rfl (by decide) wk_X5_9 rfl (by decide) (Nat.le_of_ble_eq_true rfl) (Nat.le_of_ble_eq_true rfl) dX5_init_8 rfl (by decide) wfX5_11 (Nat.le_of_ble_eq_true rfl) rfl rfl (by decide +kernel) rfl rfl dX5_init_11 (fun σ hI => ?_)
    refine jg_aload_n hC dX5_init_14 rfl rfl ?_
    refine jg_sipush (v := 256) hC dX5_init_15 (by decide) ?_
    refine al_NA (atype := .int) (t0 := 0) (N := 256) (j := 1) (ty := .int) (ty2 := .array .int) hC hin hh hI ⟨by decide, by decide⟩ rfl (fun _ => rfl) wa_int rfl (fun _ h => by cases h) rfl (by decide) (Nat.le_of_ble_eq_true rfl) (Nat.le_of_ble_eq_true rfl) dX5_init_18 rfl (by decide) wfX5_17 (Nat.le_of_ble_eq_true rfl) rfl rfl (by decide +kernel) rfl rfl dX5_init_20 (fun σ hI => ?_)
    exact al_ret hC dX5_init_23 hI
  exact key σ hI
def aA_X7 (ca : Nat → ClassId) (z : Nat) : Nat → va_E := fun j => match j with
  | _ => .inl (ca 0, 12, .inl fun _ => 0)
abbrev aO_X7 (z : Nat) : va_E := .inr (5, [.ref (z + 0), .int 0])
theorem a_X7_init (l : Launch) (D : va_G) (ca : Nat → ClassId) {z0 h0 z : Nat} {σ : a_S} (hb : σ h0 = some (.inr (5, [.null, .int 0]))) (hh : h0 < z ∧ z0 ≤ h0) : a_Ct l D ca z0 1 1 12 yX7_init cX7_init 1 ([.ref h0]) σ z (z + 1) (fun σ' => a_I (aA_X7 ca z) h0 z 1 σ σ' (aO_X7 z)) := by
  refine a_ofW rfl rfl (Nat.le_of_ble_eq_true rfl) (fun p e s m below meth c hC hin hN => ?_)
  have hI : a_I (aA_X7 ca z) h0 z 0 σ σ (.inr (5, [.null, .int 0])) := a_I.nil hb
  have key : ∀ σ1 : a_S, a_I (aA_X7 ca z) h0 z 0 σ σ1 (.inr (5, [.null, .int 0])) → a_W p l e s m ([.ref h0] : List Value).toArray below meth c D z0 1 1 12 (fun σ' => a_I (aA_X7 ca z) h0 z 1 σ σ' (aO_X7 z)) (z + 1) 0 (n_l0 1 ([.ref h0])) [] (σ1, z + 0, 0, 0) := by
    intro σ1 hI
    refine jg_aload_n hC dX7_init_0 rfl rfl ?_
    refine al_obj hC wob_X7 dX7_init_1 ⟨Nat.le_of_ble_eq_true rfl, Nat.le_of_ble_eq_true rfl, Nat.le_of_ble_eq_true rfl⟩ ?_
    refine jg_aload_n hC dX7_init_4 rfl rfl ?_
    refine jg_bipush (v := 12) hC dX7_init_5 (by decide) ?_
    refine al_NA (atype := .int) (t0 := 0) (N := 12) (j := 0) (ty := .int) (ty2 := .array .int) hC hin hh hI ⟨by decide, by decide⟩ rfl (fun _ => rfl) wa_int rfl (fun _ h => by cases h) rfl (by decide) (Nat.le_of_ble_eq_true rfl) (Nat.le_of_ble_eq_true rfl) dX7_init_7 rfl (by decide) wfX7_9 (Nat.le_of_ble_eq_true rfl) rfl rfl (by decide +kernel) rfl rfl dX7_init_9 (fun σ hI => ?_)
    exact al_ret hC dX7_init_12 hI
  exact key σ hI
def aA_X8 (ca : Nat → ClassId) (z : Nat) : Nat → va_E := fun j => match j with
  | _ => .inl (ca 1, 8192, .inl fun _ => 0)
abbrev aO_X8 (z : Nat) : va_E := .inr (6, [.ref (z + 0), .int 0])
theorem a_X8_init (l : Launch) (D : va_G) (ca : Nat → ClassId) {z0 h0 z : Nat} {σ : a_S} (hb : σ h0 = some (.inr (6, [.null, .int 0]))) (hh : h0 < z ∧ z0 ≤ h0) : a_Ct l D ca z0 1 1 8192 yX8_init cX8_init 1 ([.ref h0]) σ z (z + 1) (fun σ' => a_I (aA_X8 ca z) h0 z 1 σ σ' (aO_X8 z)) := by
  refine a_ofW rfl rfl (Nat.le_of_ble_eq_true rfl) (fun p e s m below meth c hC hin hN => ?_)
  have hI : a_I (aA_X8 ca z) h0 z 0 σ σ (.inr (6, [.null, .int 0])) := a_I.nil hb
  have key : ∀ σ1 : a_S, a_I (aA_X8 ca z) h0 z 0 σ σ1 (.inr (6, [.null, .int 0])) → a_W p l e s m ([.ref h0] : List Value).toArray below meth c D z0 1 1 8192 (fun σ' => a_I (aA_X8 ca z) h0 z 1 σ σ' (aO_X8 z)) (z + 1) 0 (n_l0 1 ([.ref h0])) [] (σ1, z + 0, 0, 0) := by
    intro σ1 hI
    refine jg_aload_n hC dX8_init_0 rfl rfl ?_
    refine al_obj hC wob_X8 dX8_init_1 ⟨Nat.le_of_ble_eq_true rfl, Nat.le_of_ble_eq_true rfl, Nat.le_of_ble_eq_true rfl⟩ ?_
    refine jg_aload_n hC dX8_init_4 rfl rfl ?_
    refine jg_sipush (v := 8192) hC dX8_init_5 (by decide) ?_
    refine al_NA (atype := .byte) (t0 := 1) (N := 8192) (j := 0) (ty := .byte) (ty2 := .array .byte) hC hin hh hI ⟨by decide, by decide⟩ rfl (fun _ => rfl) wa_byte rfl (fun _ h => by cases h) rfl (by decide) (Nat.le_of_ble_eq_true rfl) (Nat.le_of_ble_eq_true rfl) dX8_init_8 rfl (by decide) wfX8_9 (Nat.le_of_ble_eq_true rfl) rfl rfl (by decide +kernel) rfl rfl dX8_init_10 (fun σ hI => ?_)
    exact al_ret hC dX8_init_13 hI
  exact key σ hI
def aA_X3 (ca : Nat → ClassId) (z : Nat) : Nat → va_E := fun j => match j with
  | 0 => .inl (ca 0, 1024, .inl fun _ => 0)
  | 1 => .inl (ca 0, 1024, .inl fun _ => 0)
  | _ => .inl (ca 0, 1024, .inl fun _ => 0)
abbrev aO_X3 (z : Nat) : va_E := .inr (2, [.ref (z + 0), .ref (z + 1), .ref (z + 2)])
def aB_X3 (ca : Nat → ClassId) (z : Nat) : Nat → va_E := fun j => if j = 2 then .inl (ca 0, 1024, .inl (upd (fun _ => 0) 0 1024)) else aA_X3 ca z j
theorem a_X3_init (l : Launch) (D : va_G) (ca : Nat → ClassId) {z0 h0 z : Nat} {σ : a_S} (hb : σ h0 = some (.inr (2, [.null, .null, .null]))) (hh : h0 < z ∧ z0 ≤ h0) : a_Ct l D ca z0 1 3 3072 yX3_init cX3_init 1 [.ref h0] σ z (z + 3) (fun σ' => a_I (aB_X3 ca z) h0 z 3 σ σ' (aO_X3 z)) := by
  refine a_ofW rfl rfl (Nat.le_of_ble_eq_true rfl) (fun p e s m below meth c hC hin hN => ?_)
  have hI : a_I (aA_X3 ca z) h0 z 0 σ σ (.inr (2, [.null, .null, .null])) := a_I.nil hb
  have key : ∀ σ1 : a_S, a_I (aA_X3 ca z) h0 z 0 σ σ1 (.inr (2, [.null, .null, .null])) → a_W p l e s m ([.ref h0] : List Value).toArray below meth c D z0 1 3 3072 (fun σ' => a_I (aB_X3 ca z) h0 z 3 σ σ' (aO_X3 z)) (z + 3) 0 (n_l0 1 [.ref h0]) [] (σ1, z + 0, 0, 0) := by
    intro σ1 hI
    refine jg_aload_n hC dX3_init_0 rfl rfl ?_
    refine al_obj hC wob_X3 dX3_init_1 ⟨Nat.le_of_ble_eq_true rfl, Nat.le_of_ble_eq_true rfl, Nat.le_of_ble_eq_true rfl⟩ ?_
    refine jg_aload_n hC dX3_init_4 rfl rfl ?_
    refine jg_sipush (v := 1024) hC dX3_init_5 (by decide) ?_
    refine al_NA (atype := .int) (t0 := 0) (N := 1024) (j := 0) (ty := .int) (ty2 := .array .int) hC hin hh hI ⟨by decide, by decide⟩ rfl (fun _ => rfl) wa_int rfl (fun _ h => by cases h) rfl (by decide) (Nat.le_of_ble_eq_true rfl) (Nat.le_of_ble_eq_true rfl) dX3_init_8 rfl (by decide) wfX3_9 (Nat.le_of_ble_eq_true rfl) rfl rfl (by decide +kernel) rfl rfl dX3_init_10 (fun σ hI => ?_)
    refine jg_aload_n hC dX3_init_13 rfl rfl ?_
    refine jg_sipush (v := 1024) hC dX3_init_14 (by decide) ?_
    refine al_NA (atype := .int) (t0 := 0) (N := 1024) (j := 1) (ty := .int) (ty2 := .array .int) hC hin hh hI ⟨by decide, by decide⟩ rfl (fun _ => rfl) wa_int rfl (fun _ h => by cases h) rfl (by decide) (Nat.le_of_ble_eq_true rfl) (Nat.le_of_ble_eq_true rfl) dX3_init_17 rfl (by decide) wfX3_15 (Nat.le_of_ble_eq_true rfl) rfl rfl (by decide +kernel) rfl rfl dX3_init_19 (fun σ hI => ?_)
    refine jg_aload_n hC dX3_init_22 rfl rfl ?_
    refine jg_sipush (v := 1024) hC dX3_init_23 (by decide) ?_
    refine al_NA (atype := .int) (t0 := 0) (N := 1024) (j := 2) (ty := .int) (ty2 := .array .int) hC hin hh hI ⟨by decide, by decide⟩ rfl (fun _ => rfl) wa_int rfl (fun _ h => by cases h) rfl (by decide) (Nat.le_of_ble_eq_true rfl) (Nat.le_of_ble_eq_true rfl) dX3_init_26 rfl (by decide) wfX3_18 (Nat.le_of_ble_eq_true rfl) rfl rfl (by decide +kernel) rfl rfl dX3_init_28 (fun σ hI => ?_)
    refine jg_aload_n hC dX3_init_31 rfl rfl ?_
    refine al_get (j := 2) hC hI.1 rfl (by decide) wfX3_18 rfl dX3_init_32 ?_
    refine jg_iconst (v := 0) hC dX3_init_35 (by decide) ?_
    refine jg_sipush (v := 1024) hC dX3_init_36 (by decide) ?_
    refine al_IA (J := 2) (t0 := 0) (N := 1024) (f := fun _ => 0) hC hh hI (by decide) rfl rfl (vp_in_nI (n := 0) (N := 1024) (by decide) (by decide)) dX3_init_39 (fun σ hI => ?_)
    exact al_ret hC dX3_init_40 hI
  exact key σ hI
def aA_X6 (ca : Nat → ClassId) (z : Nat) : Nat → va_E := fun j => match j with
  | 0 => .inl (ca 0, 32, .inl fun _ => 0)
  | 1 => .inl (ca 0, 32, .inl fun _ => 0)
  | 2 => .inl (ca 0, 32, .inl fun _ => 0)
  | 3 => .inl (ca 0, 256, .inl fun _ => 0)
  | _ => .inl (ca 0, 256, .inl fun _ => 0)
abbrev aO_X6 (tp : Nat) (z : Nat) : va_E := .inr (4, [.ref tp, .ref (z + 0), .ref (z + 1), .ref (z + 2), .int 0, .ref (z + 3), .ref (z + 4), .int 0, .int 0, .int 0, .int 0])
theorem a_X6_init (l : Launch) (D : va_G) (ca : Nat → ClassId) {z0 h0 z : Nat} {σ : a_S} (tp : Nat) (hb : σ h0 = some (.inr (4, [.null, .null, .null, .null, .int 0, .null, .null, .int 0, .int 0, .int 0, .int 0]))) (hh : h0 < z ∧ z0 ≤ h0) : a_Ct l D ca z0 1 5 608 yX6_init cX6_init 2 ([.ref h0, .ref tp]) σ z (z + 5) (fun σ' => a_I (aA_X6 ca z) h0 z 5 σ σ' (aO_X6 tp z)) := by
  refine a_ofW rfl rfl (Nat.le_of_ble_eq_true rfl) (fun p e s m below meth c hC hin hN => ?_)
  have hI : a_I (aA_X6 ca z) h0 z 0 σ σ (.inr (4, [.null, .null, .null, .null, .int 0, .null, .null, .int 0, .int 0, .int 0, .int 0])) := a_I.nil hb
  have key : ∀ σ1 : a_S, a_I (aA_X6 ca z) h0 z 0 σ σ1 (.inr (4, [.null, .null, .null, .null, .int 0, .null, .null, .int 0, .int 0, .int 0, .int 0])) → a_W p l e s m ([.ref h0, .ref tp] : List Value).toArray below meth c D z0 1 5 608 (fun σ' => a_I (aA_X6 ca z) h0 z 5 σ σ' (aO_X6 tp z)) (z + 5) 0 (n_l0 2 ([.ref h0, .ref tp])) [] (σ1, z + 0, 0, 0) := by
    intro σ1 hI
    refine jg_aload_n hC dX6_init_0 rfl rfl ?_
    refine al_obj hC wob_X6 dX6_init_1 ⟨Nat.le_of_ble_eq_true rfl, Nat.le_of_ble_eq_true rfl, Nat.le_of_ble_eq_true rfl⟩ ?_
    refine jg_aload_n hC dX6_init_4 rfl rfl ?_
    refine jg_bipush (v := 32) hC dX6_init_5 (by decide) ?_
    refine al_NA (atype := .int) (t0 := 0) (N := 32) (j := 1) (ty := .int) (ty2 := .array .int) hC hin hh hI ⟨by decide, by decide⟩ rfl (fun _ => rfl) wa_int rfl (fun _ h => by cases h) rfl (by decide) (Nat.le_of_ble_eq_true rfl) (Nat.le_of_ble_eq_true rfl) dX6_init_7 rfl (by decide) wfX6_9 (Nat.le_of_ble_eq_true rfl) rfl rfl (by decide +kernel) rfl rfl dX6_init_9 (fun σ hI => ?_)
    refine jg_aload_n hC dX6_init_12 rfl rfl ?_
    refine jg_bipush (v := 32) hC dX6_init_13 (by decide) ?_
    refine al_NA (atype := .int) (t0 := 0) (N := 32) (j := 2) (ty := .int) (ty2 := .array .int) hC hin hh hI ⟨by decide, by decide⟩ rfl (fun _ => rfl) wa_int rfl (fun _ h => by cases h) rfl (by decide) (Nat.le_of_ble_eq_true rfl) (Nat.le_of_ble_eq_true rfl) dX6_init_15 rfl (by decide) wfX6_15 (Nat.le_of_ble_eq_true rfl) rfl rfl (by decide +kernel) rfl rfl dX6_init_17 (fun σ hI => ?_)
    refine jg_aload_n hC dX6_init_20 rfl rfl ?_
    refine jg_bipush (v := 32) hC dX6_init_21 (by decide) ?_
    refine al_NA (atype := .int) (t0 := 0) (N := 32) (j := 3) (ty := .int) (ty2 := .array .int) hC hin hh hI ⟨by decide, by decide⟩ rfl (fun _ => rfl) wa_int rfl (fun _ h => by cases h) rfl (by decide) (Nat.le_of_ble_eq_true rfl) (Nat.le_of_ble_eq_true rfl) dX6_init_23 rfl (by decide) wfX6_18 (Nat.le_of_ble_eq_true rfl) rfl rfl (by decide +kernel) rfl rfl dX6_init_25 (fun σ hI => ?_)
    refine jg_aload_n hC dX6_init_28 rfl rfl ?_
    refine jg_sipush (v := 256) hC dX6_init_29 (by decide) ?_
    refine al_NA (atype := .int) (t0 := 0) (N := 256) (j := 5) (ty := .int) (ty2 := .array .int) hC hin hh hI ⟨by decide, by decide⟩ rfl (fun _ => rfl) wa_int rfl (fun _ h => by cases h) rfl (by decide) (Nat.le_of_ble_eq_true rfl) (Nat.le_of_ble_eq_true rfl) dX6_init_32 rfl (by decide) wfX6_21 (Nat.le_of_ble_eq_true rfl) rfl rfl (by decide +kernel) rfl rfl dX6_init_34 (fun σ hI => ?_)
    refine jg_aload_n hC dX6_init_37 rfl rfl ?_
    refine jg_sipush (v := 256) hC dX6_init_38 (by decide) ?_
    refine al_NA (atype := .int) (t0 := 0) (N := 256) (j := 6) (ty := .int) (ty2 := .array .int) hC hin hh hI ⟨by decide, by decide⟩ rfl (fun _ => rfl) wa_int rfl (fun _ h => by cases h) rfl (by decide) (Nat.le_of_ble_eq_true rfl) (Nat.le_of_ble_eq_true rfl) dX6_init_41 rfl (by decide) wfX6_24 (Nat.le_of_ble_eq_true rfl) rfl rfl (by decide +kernel) rfl rfl dX6_init_43 (fun σ hI => ?_)
    refine jg_aload_n hC dX6_init_46 rfl rfl ?_
    refine jg_aload_n hC dX6_init_47 rfl rfl ?_
    refine al_PF (j := 0) (ty := .object "ShareMonitor$Tape") hC hin hh hI rfl (by decide) wfX6_27 (Nat.le_of_ble_eq_true rfl) rfl rfl (by decide +kernel) rfl rfl dX6_init_48 (fun σ hI => ?_)
    exact al_ret hC dX6_init_51 hI
  exact key σ hI
def aA_X10 (ca : Nat → ClassId) (z : Nat) : Nat → va_E := fun j => match j with
  | _ => .inl (ca 0, 0, .inl fun _ => 0)
abbrev aO_X10 (dk : Nat) (z : Nat) : va_E := .inr (8, [.ref dk, .int 4])
theorem a_X10_init (l : Launch) (D : va_G) (ca : Nat → ClassId) {z0 h0 z : Nat} {σ : a_S} (dk : Nat) (hb : σ h0 = some (.inr (8, [.null, .int 0]))) (hh : h0 < z ∧ z0 ≤ h0) : a_Ct l D ca z0 1 0 0 yX10_init cX10_init 2 ([.ref h0, .ref dk]) σ z (z + 0) (fun σ' => a_I (aA_X10 ca z) h0 z 0 σ σ' (aO_X10 dk z)) := by
  refine a_ofW rfl rfl (Nat.le_of_ble_eq_true rfl) (fun p e s m below meth c hC hin hN => ?_)
  have hI : a_I (aA_X10 ca z) h0 z 0 σ σ (.inr (8, [.null, .int 0])) := a_I.nil hb
  have key : ∀ σ1 : a_S, a_I (aA_X10 ca z) h0 z 0 σ σ1 (.inr (8, [.null, .int 0])) → a_W p l e s m ([.ref h0, .ref dk] : List Value).toArray below meth c D z0 1 0 0 (fun σ' => a_I (aA_X10 ca z) h0 z 0 σ σ' (aO_X10 dk z)) (z + 0) 0 (n_l0 2 ([.ref h0, .ref dk])) [] (σ1, z + 0, 0, 0) := by
    intro σ1 hI
    refine jg_aload_n hC dX10_init_0 rfl rfl ?_
    refine al_obj hC wob_X10 dX10_init_1 ⟨Nat.le_of_ble_eq_true rfl, Nat.le_of_ble_eq_true rfl, Nat.le_of_ble_eq_true rfl⟩ ?_
    refine jg_aload_n hC dX10_init_4 rfl rfl ?_
    refine jg_iconst (v := 4) hC dX10_init_5 (by decide) ?_
    refine al_PN (j := 1) (ty := .int) hC hh hI rfl (by decide) wfX10_9 (Nat.le_of_ble_eq_true rfl) rfl (by decide +kernel) rfl rfl dX10_init_6 (fun σ hI => ?_)
    refine jg_aload_n hC dX10_init_9 rfl rfl ?_
    refine jg_aload_n hC dX10_init_10 rfl rfl ?_
    refine al_PF (j := 0) (ty := .object "ShareMonitor$Desk") hC hin hh hI rfl (by decide) wfX10_15 (Nat.le_of_ble_eq_true rfl) rfl rfl (by decide +kernel) rfl rfl dX10_init_11 (fun σ hI => ?_)
    exact al_ret hC dX10_init_14 hI
  exact key σ hI
theorem a_defX1 : ∀ j, j < 3 → defaultValue (tyX1 j) = vp_V [.null, .null, .int 0] j := by
  intro j hj
  match j, hj with
  | 0, _ => rfl
  | 1, _ => rfl
  | 2, _ => rfl
  | q + 3, h => exact absurd h (by omega)
theorem a_defX2 : ∀ j, j < 11 → defaultValue (tyX2 j) = vp_V [.null, .null, .null, .null, .null, .null, .null, .int 0, .int 0, .int 0, .int 0] j := by
  intro j hj
  match j, hj with
  | 0, _ => rfl
  | 1, _ => rfl
  | 2, _ => rfl
  | 3, _ => rfl
  | 4, _ => rfl
  | 5, _ => rfl
  | 6, _ => rfl
  | 7, _ => rfl
  | 8, _ => rfl
  | 9, _ => rfl
  | 10, _ => rfl
  | q + 11, h => exact absurd h (by omega)
theorem a_defX3 : ∀ j, j < 3 → defaultValue (tyX3 j) = vp_V [.null, .null, .null] j := by
  intro j hj
  match j, hj with
  | 0, _ => rfl
  | 1, _ => rfl
  | 2, _ => rfl
  | q + 3, h => exact absurd h (by omega)
theorem a_defX5 : ∀ j, j < 4 → defaultValue (tyX5 j) = vp_V [.null, .null, .int 0, .int 0] j := by
  intro j hj
  match j, hj with
  | 0, _ => rfl
  | 1, _ => rfl
  | 2, _ => rfl
  | 3, _ => rfl
  | q + 4, h => exact absurd h (by omega)
theorem a_defX6 : ∀ j, j < 11 → defaultValue (tyX6 j) = vp_V [.null, .null, .null, .null, .int 0, .null, .null, .int 0, .int 0, .int 0, .int 0] j := by
  intro j hj
  match j, hj with
  | 0, _ => rfl
  | 1, _ => rfl
  | 2, _ => rfl
  | 3, _ => rfl
  | 4, _ => rfl
  | 5, _ => rfl
  | 6, _ => rfl
  | 7, _ => rfl
  | 8, _ => rfl
  | 9, _ => rfl
  | 10, _ => rfl
  | q + 11, h => exact absurd h (by omega)
theorem a_defX7 : ∀ j, j < 2 → defaultValue (tyX7 j) = vp_V [.null, .int 0] j := by
  intro j hj
  match j, hj with
  | 0, _ => rfl
  | 1, _ => rfl
  | q + 2, h => exact absurd h (by omega)
theorem a_defX8 : ∀ j, j < 2 → defaultValue (tyX8 j) = vp_V [.null, .int 0] j := by
  intro j hj
  match j, hj with
  | 0, _ => rfl
  | 1, _ => rfl
  | q + 2, h => exact absurd h (by omega)
theorem a_defX9 : ∀ j, j < 16 → defaultValue (tyX9 j) = vp_V [.int 0, .null, .null, .null, .null, .int 0, .int 0, .int 0, .int 0, .int 0, .int 0, .null, .int 0, .int 0, .int 0, .int 0] j := by
  intro j hj
  match j, hj with
  | 0, _ => rfl
  | 1, _ => rfl
  | 2, _ => rfl
  | 3, _ => rfl
  | 4, _ => rfl
  | 5, _ => rfl
  | 6, _ => rfl
  | 7, _ => rfl
  | 8, _ => rfl
  | 9, _ => rfl
  | 10, _ => rfl
  | 11, _ => rfl
  | 12, _ => rfl
  | 13, _ => rfl
  | 14, _ => rfl
  | 15, _ => rfl
  | q + 16, h => exact absurd h (by omega)
theorem a_defX10 : ∀ j, j < 2 → defaultValue (tyX10 j) = vp_V [.null, .int 0] j := by
  intro j hj
  match j, hj with
  | 0, _ => rfl
  | 1, _ => rfl
  | q + 2, h => exact absurd h (by omega)
def aA_X9 (ca : Nat → ClassId) (z : Nat) : Nat → va_E := fun j => match j with
  | 0 => .inl (ca 0, 40, .inl fun _ => 0)
  | 1 => .inl (ca 0, 20, .inl fun _ => 0)
  | 2 => aO_X1 (z + 3)
  | 3 => .inl (ca 0, 8, .inl fun _ => 0)
  | 4 => .inl (ca 0, 8, .inl fun _ => 0)
  | 5 => aO_X1 (z + 6)
  | 6 => .inl (ca 0, 8, .inl fun _ => 0)
  | _ => .inl (ca 0, 8, .inl fun _ => 0)
abbrev aO_X9 (nn : Int32) (z : Nat) : va_E := .inr (7, [.int nn, .ref (z + 0), .ref (z + 1), .ref (z + 2), .ref (z + 5), .int 0, .int 0, .int 0, .int 0, .int 0, .int 0, .null, .int 0, .int 0, .int 0, .int 0])
theorem a_X9_init (l : Launch) (D : va_G) (ca : Nat → ClassId) {z0 h0 z : Nat} {σ : a_S} (nn : Int32) (hb : σ h0 = some (.inr (7, [.int 0, .null, .null, .null, .null, .int 0, .int 0, .int 0, .int 0, .int 0, .int 0, .null, .int 0, .int 0, .int 0, .int 0]))) (hh : h0 < z ∧ z0 ≤ h0) : a_Ct l D ca z0 2 8 98 yX9_init cX9_init 2 [.ref h0, .int nn] σ z (z + 8) (fun σ' => a_I (aA_X9 ca z) h0 z 8 σ σ' (aO_X9 nn z)) := by
  refine a_ofW rfl rfl (Nat.le_of_ble_eq_true rfl) (fun p e s m below meth c hC hin hN => ?_)
  have hI : a_I (aA_X9 ca z) h0 z 0 σ σ (.inr (7, [.int 0, .null, .null, .null, .null, .int 0, .int 0, .int 0, .int 0, .int 0, .int 0, .null, .int 0, .int 0, .int 0, .int 0])) := a_I.nil hb
  have key : ∀ σ1 : a_S, a_I (aA_X9 ca z) h0 z 0 σ σ1 (.inr (7, [.int 0, .null, .null, .null, .null, .int 0, .int 0, .int 0, .int 0, .int 0, .int 0, .null, .int 0, .int 0, .int 0, .int 0])) → a_W p l e s m ([.ref h0, .int nn] : List Value).toArray below meth c D z0 2 8 98 (fun σ' => a_I (aA_X9 ca z) h0 z 8 σ σ' (aO_X9 nn z)) (z + 8) 0 (n_l0 2 [.ref h0, .int nn]) [] (σ1, z + 0, 0, 0) := by
    intro σ1 hI
    refine jg_aload_n hC dX9_init_0 rfl rfl ?_
    refine al_obj hC wob_X9 dX9_init_1 ⟨Nat.le_of_ble_eq_true rfl, Nat.le_of_ble_eq_true rfl, Nat.le_of_ble_eq_true rfl⟩ ?_
    refine jg_aload_n hC dX9_init_4 rfl rfl ?_
    refine jg_bipush (v := 40) hC dX9_init_5 (by decide) ?_
    refine al_NA (atype := .int) (t0 := 0) (N := 40) (j := 1) (ty := .int) (ty2 := .array .int) hC hin hh hI ⟨by decide, by decide⟩ rfl (fun _ => rfl) wa_int rfl (fun _ h => by cases h) rfl (by decide) (Nat.le_of_ble_eq_true rfl) (Nat.le_of_ble_eq_true rfl) dX9_init_7 rfl (by decide) wfX9_9 (Nat.le_of_ble_eq_true rfl) rfl rfl (by decide +kernel) rfl rfl dX9_init_9 (fun σ hI => ?_)
    refine jg_aload_n hC dX9_init_12 rfl rfl ?_
    refine jg_bipush (v := 20) hC dX9_init_13 (by decide) ?_
    refine al_NA (atype := .int) (t0 := 0) (N := 20) (j := 2) (ty := .int) (ty2 := .array .int) hC hin hh hI ⟨by decide, by decide⟩ rfl (fun _ => rfl) wa_int rfl (fun _ h => by cases h) rfl (by decide) (Nat.le_of_ble_eq_true rfl) (Nat.le_of_ble_eq_true rfl) dX9_init_15 rfl (by decide) wfX9_15 (Nat.le_of_ble_eq_true rfl) rfl rfl (by decide +kernel) rfl rfl dX9_init_17 (fun σ hI => ?_)
    refine jg_aload_n hC dX9_init_20 rfl rfl ?_
    refine al_new (ci := 0) (fs := [.null, .null, .int 0]) hC rfl wk_X9_18 wn_X1 wzX1 tyX1 ttX1 (a_defX1) (by show _ ≤ _; first | exact Nat.le_of_ble_eq_true rfl | (simp only [a_rm]; omega)) (by show _ ≤ _; first | exact Nat.le_of_ble_eq_true rfl | (simp only [a_rm]; omega)) dX9_init_21 ?_
    refine jg_dup hC dX9_init_24 rfl ?_
    refine al_SCN (i := 2) (np := 0) (As := []) (A2 := aA_X1 ca (z + 3)) (o2 := aO_X1 (z + 3)) hC hN hh hI (a_X1_init l D ca (a_up_at _ _ _) ⟨by omega, by omega⟩) (rfl) (fun j hj => match j, hj with | 0, _ => rfl | 1, _ => rfl | q + 2, h => absurd h (by omega)) ⟨by show _ ≤ _; first | exact Nat.le_of_ble_eq_true rfl | (simp only [a_rm]; omega), by show _ ≤ _; first | exact Nat.le_of_ble_eq_true rfl | (simp only [a_rm]; omega)⟩ (by decide) (by decide +kernel) ⟨wi_yX1_init, wzX1, wc_yX1_init⟩ rfl (by decide +kernel) rfl (Nat.le_of_ble_eq_true rfl) (by show _ ≤ _; first | exact Nat.le_of_ble_eq_true rfl | (simp only [a_rm]; omega)) (by show _ ≤ _; first | exact Nat.le_of_ble_eq_true rfl | (simp only [a_rm]; omega)) dX9_init_25 (fun σ hI => ?_)
    refine al_PF (j := 3) (ty := .object "ShareMonitor$Box") hC hin hh hI rfl (by decide) wfX9_21 (Nat.le_of_ble_eq_true rfl) rfl rfl (by decide +kernel) rfl rfl dX9_init_28 (fun σ hI => ?_)
    refine jg_aload_n hC dX9_init_31 rfl rfl ?_
    refine al_new (ci := 0) (fs := [.null, .null, .int 0]) hC rfl wk_X9_18 wn_X1 wzX1 tyX1 ttX1 (a_defX1) (by show _ ≤ _; first | exact Nat.le_of_ble_eq_true rfl | (simp only [a_rm]; omega)) (by show _ ≤ _; first | exact Nat.le_of_ble_eq_true rfl | (simp only [a_rm]; omega)) dX9_init_32 ?_
    refine jg_dup hC dX9_init_35 rfl ?_
    refine al_SCN (i := 5) (np := 0) (As := []) (A2 := aA_X1 ca (z + 6)) (o2 := aO_X1 (z + 6)) hC hN hh hI (a_X1_init l D ca (a_up_at _ _ _) ⟨by omega, by omega⟩) (rfl) (fun j hj => match j, hj with | 0, _ => rfl | 1, _ => rfl | q + 2, h => absurd h (by omega)) ⟨by show _ ≤ _; first | exact Nat.le_of_ble_eq_true rfl | (simp only [a_rm]; omega), by show _ ≤ _; first | exact Nat.le_of_ble_eq_true rfl | (simp only [a_rm]; omega)⟩ (by decide) (by decide +kernel) ⟨wi_yX1_init, wzX1, wc_yX1_init⟩ rfl (by decide +kernel) rfl (Nat.le_of_ble_eq_true rfl) (by show _ ≤ _; first | exact Nat.le_of_ble_eq_true rfl | (simp only [a_rm]; omega)) (by show _ ≤ _; first | exact Nat.le_of_ble_eq_true rfl | (simp only [a_rm]; omega)) dX9_init_36 (fun σ hI => ?_)
    refine al_PF (j := 4) (ty := .object "ShareMonitor$Box") hC hin hh hI rfl (by decide) wfX9_25 (Nat.le_of_ble_eq_true rfl) rfl rfl (by decide +kernel) rfl rfl dX9_init_39 (fun σ hI => ?_)
    refine jg_aload_n hC dX9_init_42 rfl rfl ?_
    refine jg_iload_n hC dX9_init_43 rfl rfl ?_
    refine al_PF (j := 0) (ty := .int) hC hin hh hI rfl (by decide) wfX9_28 (Nat.le_of_ble_eq_true rfl) rfl rfl (by decide +kernel) rfl rfl dX9_init_44 (fun σ hI => ?_)
    exact al_ret hC dX9_init_47 hI
  exact key σ hI
end AI
