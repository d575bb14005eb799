section NH
variable {St : Type} {p : Program} {l : Launch} {e : Env} {s : State} {m : MethodId} {args : Array Value} {below : List Frame} {meth : Method} {c : Code} {w : n_Wd St} {d : Nat} {Po : Option Value → St → Prop} {cc : ByteArray} {nL : Nat} {own : String} {ret : Option FieldType}
variable {pc : Nat} {ls : List (Option Value)} {rest : List Value} {σ : St}
theorem n_one {H : Heap} (h : n_Rep w σ H) {κ i : Nat} (hi : n_cnt w κ i) : va_P (n_D w) (n_cl w) [(n_ad w κ i, n_en w κ i σ)] H := by
  intro k q hk
  cases k with
  | zero => cases hk; exact h κ i hi
  | succ k => simp at hk
theorem n_getf (hC : n_C p s m args meth c w cc nL own ret) {κ i ci index k : Nat} {fs : List Value} {v : Value} {q : vw_C} (hi : n_cnt w κ i) (he : n_en w κ i σ = .inr (ci, fs)) (hc : (n_cl w)[ci]? = some q) (hk : k < q.2.2) (hw : Cond.fieldLink own index (q.2.1 k).1 (q.2.1 k).2.1 (q.2.1 k).2.2.1 ∈ n_tb) (hv : fs[k]? = some v) (hdg : decode cc pc = .ok (.getfield index, 3))
    (kk : n_W p l e s m args below meth c w d Po (pc + 3) ls (v :: rest) σ) : n_W p l e s m args below meth c w d Po pc ls (.ref (n_ad w κ i) :: rest) σ := by
  intro H locs la z1 z2 z3
  exact va_get hC.1 hC.2.1 hC.2.2.2.2.1 (hC.2.2.2.2.2.2.2.2.2.2.1 ci q hc).1 hC.2.2.2.1 hC.2.2.2.2.2.2.2.1 (n_one z2 hi) 0 (by rw [he]; rfl) hc k hk (hC.2.2.2.2.1 _ hw) (fun _ h => h) hv hdg (kk H locs la z1 z2 z3)
theorem n_putf (hC : n_C p s m args meth c w cc nL own ret) {κ i ci index k : Nat} {fs : List Value} {v : Value} {q : vw_C} {ty : FieldType} (σ' : St) (hi : n_cnt w κ i) (he : n_en w κ i σ = .inr (ci, fs)) (hc : (n_cl w)[ci]? = some q) (hk : k < q.2.2) (hw : Cond.fieldLink own index (q.2.1 k).1 (q.2.1 k).2.1 (q.2.1 k).2.2.1 ∈ n_tb) (hl : k < fs.length)
    (hfin : (q.2.1 k).2.2.2 = false) (hty : parseFieldDescriptor (q.2.1 k).2.2.1 = some ty) (hn : narrow ty v = v) (hf : fits ty v = true) (he' : n_en w κ i σ' = .inr (ci, fs.set k v)) (ho : ∀ κ' i', n_cnt w κ' i' → ¬ (κ' = κ ∧ i' = i) → n_en w κ' i' σ' = n_en w κ' i' σ) (hdg : decode cc pc = .ok (.putfield index, 3))
    (kk : n_W p l e s m args below meth c w d Po (pc + 3) ls rest σ') : n_W p l e s m args below meth c w d Po pc ls (v :: .ref (n_ad w κ i) :: rest) σ := by
  intro H locs la z1 z2 z3
  obtain ⟨hx, hb, -, hown, hts, -, -, hK, -, hinj, hcl, -⟩ := hC
  obtain ⟨hin, hnm, ty0, hty0⟩ := hcl ci q hc
  have hap := va_apart (own := own) hts hin ty0 hty0 hnm hK hc
  have hat := z2 κ i hi
  rw [he] at hat
  obtain ⟨r, h1, cell, q1, q2, q3, q4⟩ := hat
  have hr : r = q := Option.some.inj (h1.symm.trans hc)
  subst hr
  obtain ⟨hS, hfc, kC, hkC, hkind⟩ := hK.1 ci _ hc
  obtain ⟨cf, kf, fi, f, hfi, hsl⟩ := hS k hk
  have hlay := hts _ (hin _ (u_in_lay hk))
  unfold u_lay at hlay
  rw [if_neg (by rw [hfin]; decide)] at hlay
  have hst := (u_facts hfc hkC (u_lays hts hin hk) hfi).1
  have h6 := u_store hfc hkC hkind hlay hfi hty hn hf
  refine W.putK hx hb (f := f) ⟨hown, hts _ hw, ⟨_, _, _, hfi⟩, hst⟩ (by rw [q2]; exact h6) q1 q3 (by rw [hsl]; exact k2_hasslot (q4 k hk)) rfl rfl hdg fun H' e1 e2 e3 => ?_
  rw [hsl] at e1 ⊢
  refine kk H' _ la z1 (z2.set hinj hi ?_ e3 ho) (z3.put e2 e3 (n_A.in hi))
  rw [he']
  exact ⟨_, hc, t_OB.to (V := updV (vp_V fs) k v) ⟨_, e1, q2, q3, t_set q4 hap hk v⟩ (fun j _ => vp_updV_set hl v j)⟩
theorem n_iald (hC : n_C p s m args meth c w cc nL own ret) {κ i t0 n : Nat} {cA : ClassId} {f : Nat → Int32} {j : Int32} (hi : n_cnt w κ i) (he : n_en w κ i σ = .inl (cA, n, .inl f)) (ht : (n_ty w)[t0]? = some (cA, .int)) (hin : vp_in j n) (hdg : decode cc pc = .ok (.iaload, 1))
    (kk : n_W p l e s m args below meth c w d Po (pc + 1) ls (.int (f j.toNatClampNeg) :: rest) σ) : n_W p l e s m args below meth c w d Po pc ls (.int j :: .ref (n_ad w κ i) :: rest) σ := by
  intro H locs la z1 z2 z3
  exact va_iald hC.1 hC.2.1 hC.2.2.2.2.2.2.2.1 (n_one z2 hi) 0 t0 (by rw [he]; rfl) ht hin hdg (kk H locs la z1 z2 z3)
theorem n_bald (hC : n_C p s m args meth c w cc nL own ret) {κ i t0 n : Nat} {cA : ClassId} {f : Nat → Int32} {j : Int32} (hi : n_cnt w κ i) (he : n_en w κ i σ = .inl (cA, n, .inl f)) (ht : (n_ty w)[t0]? = some (cA, .byte)) (hin : vp_in j n) (hdg : decode cc pc = .ok (.baload, 1))
    (kk : n_W p l e s m args below meth c w d Po (pc + 1) ls (.int (f j.toNatClampNeg) :: rest) σ) : n_W p l e s m args below meth c w d Po pc ls (.int j :: .ref (n_ad w κ i) :: rest) σ := by
  intro H locs la z1 z2 z3
  exact va_bald hC.1 hC.2.1 hC.2.2.2.2.2.2.2.1 (n_one z2 hi) 0 t0 (by rw [he]; rfl) ht hin hdg (kk H locs la z1 z2 z3)
theorem n_zald (hC : n_C p s m args meth c w cc nL own ret) {κ i t0 n : Nat} {cA : ClassId} {f : Nat → Int32} {j : Int32} (hi : n_cnt w κ i) (he : n_en w κ i σ = .inl (cA, n, .inl f)) (ht : (n_ty w)[t0]? = some (cA, .boolean)) (hin : vp_in j n) (hdg : decode cc pc = .ok (.baload, 1))
    (kk : n_W p l e s m args below meth c w d Po (pc + 1) ls (.int (f j.toNatClampNeg) :: rest) σ) : n_W p l e s m args below meth c w d Po pc ls (.int j :: .ref (n_ad w κ i) :: rest) σ := by
  intro H locs la z1 z2 z3
  exact va_zald hC.1 hC.2.1 hC.2.2.2.2.2.2.2.1 (n_one z2 hi) 0 t0 (by rw [he]; rfl) ht hin hdg (kk H locs la z1 z2 z3)
theorem n_lald (hC : n_C p s m args meth c w cc nL own ret) {κ i t0 n : Nat} {cA : ClassId} {f : Nat → Int64} {j : Int32} (hi : n_cnt w κ i) (he : n_en w κ i σ = .inl (cA, n, .inr (.inl f))) (ht : (n_ty w)[t0]? = some (cA, .long)) (hin : vp_in j n) (hdg : decode cc pc = .ok (.laload, 1))
    (kk : n_W p l e s m args below meth c w d Po (pc + 1) ls (.long (f j.toNatClampNeg) :: rest) σ) : n_W p l e s m args below meth c w d Po pc ls (.int j :: .ref (n_ad w κ i) :: rest) σ := by
  intro H locs la z1 z2 z3
  exact va_lald hC.1 hC.2.1 hC.2.2.2.2.2.2.2.1 (n_one z2 hi) 0 t0 (by rw [he]; rfl) ht hin hdg (kk H locs la z1 z2 z3)
theorem n_aald (hC : n_C p s m args meth c w cc nL own ret) {κ i t0 n : Nat} {cA : ClassId} {C : String} {f : Nat → Option Nat} {j : Int32} (hi : n_cnt w κ i) (he : n_en w κ i σ = .inl (cA, n, .inr (.inr (.inr (.inr f))))) (ht : (n_ty w)[t0]? = some (cA, .object C)) (hin : vp_in j n) (hdg : decode cc pc = .ok (.aaload, 1))
    (kk : n_W p l e s m args below meth c w d Po (pc + 1) ls (va_rf (f j.toNatClampNeg) :: rest) σ) : n_W p l e s m args below meth c w d Po pc ls (.int j :: .ref (n_ad w κ i) :: rest) σ := by
  intro H locs la z1 z2 z3
  exact va_aldq hC.1 hC.2.1 hC.2.2.2.2.2.2.2.1 (n_one z2 hi) 0 t0 (by rw [he]; rfl) ht hin hdg (kk H locs la z1 z2 z3)
theorem n_iast (hC : n_C p s m args meth c w cc nL own ret) {κ i t0 n : Nat} {cA : ClassId} {f : Nat → Int32} {j x : Int32} (σ' : St) (hi : n_cnt w κ i) (he : n_en w κ i σ = .inl (cA, n, .inl f)) (ht : (n_ty w)[t0]? = some (cA, .int)) (hin : vp_in j n)
    (he' : n_en w κ i σ' = .inl (cA, n, .inl (upd f j.toNatClampNeg x))) (ho : ∀ κ' i', n_cnt w κ' i' → ¬ (κ' = κ ∧ i' = i) → n_en w κ' i' σ' = n_en w κ' i' σ) (hdg : decode cc pc = .ok (.iastore, 1))
    (kk : n_W p l e s m args below meth c w d Po (pc + 1) ls rest σ') : n_W p l e s m args below meth c w d Po pc ls (.int x :: .int j :: .ref (n_ad w κ i) :: rest) σ := by
  intro H locs la z1 z2 z3
  have hat := z2 κ i hi
  rw [he] at hat
  refine W.iast hC.1 hC.2.1 hat ((hC.2.2.2.2.2.2.2.1.2 t0 _ ht).1 n (fun j => .int (f j))) (fun q => by cases q) (by show ¬ (j < 0 ∨ (arrV _ _ _).slots.size ≤ _); rw [arrV_size]; exact hin) rfl rfl hdg fun H1 e1 z oq => ?_
  refine kk H1 _ la z1 (z2.set hC.2.2.2.2.2.2.2.2.2.1 hi ?_ oq ho) (z3.put z oq (n_A.in hi))
  rw [he']
  show H1[n_ad w κ i]? = some (vp_cell _ _)
  rw [e1, vp_cell_i, vp_cell_i, arrV_store]
  congr 2
  funext q
  by_cases hq : q = j.toNatClampNeg
  · subst hq
    simp [updV, upd]
  · simp [updV, upd, hq]
theorem n_bast (hC : n_C p s m args meth c w cc nL own ret) {κ i t0 n : Nat} {cA : ClassId} {f : Nat → Int32} {j x : Int32} (σ' : St) (hi : n_cnt w κ i) (he : n_en w κ i σ = .inl (cA, n, .inl f)) (ht : (n_ty w)[t0]? = some (cA, .byte)) (hin : vp_in j n)
    (he' : n_en w κ i σ' = .inl (cA, n, .inl (upd f j.toNatClampNeg (vp_nar .byte x)))) (ho : ∀ κ' i', n_cnt w κ' i' → ¬ (κ' = κ ∧ i' = i) → n_en w κ' i' σ' = n_en w κ' i' σ) (hdg : decode cc pc = .ok (.bastore, 1))
    (kk : n_W p l e s m args below meth c w d Po (pc + 1) ls rest σ') : n_W p l e s m args below meth c w d Po pc ls (.int x :: .int j :: .ref (n_ad w κ i) :: rest) σ := by
  intro H locs la z1 z2 z3
  have hat := z2 κ i hi
  rw [he] at hat
  refine W.bast hC.1 hC.2.1 hat ((hC.2.2.2.2.2.2.2.1.2 t0 _ ht).1 n (fun j => .int (f j))) (fun q => by cases q) (by show ¬ (j < 0 ∨ (arrV _ _ _).slots.size ≤ _); rw [arrV_size]; exact hin) rfl rfl hdg fun H1 e1 z oq => ?_
  refine kk H1 _ la z1 (z2.set hC.2.2.2.2.2.2.2.2.2.1 hi ?_ oq ho) (z3.put z oq (n_A.in hi))
  rw [he']
  show H1[n_ad w κ i]? = some (vp_cell _ _)
  rw [e1, vp_cell_i, vp_cell_i, arrV_store]
  congr 2
  funext q
  by_cases hq : q = j.toNatClampNeg
  · subst hq
    simp [updV, upd]
    rfl
  · simp [updV, upd, hq]
theorem n_zast (hC : n_C p s m args meth c w cc nL own ret) {κ i t0 n : Nat} {cA : ClassId} {f : Nat → Int32} {j x : Int32} (σ' : St) (hi : n_cnt w κ i) (he : n_en w κ i σ = .inl (cA, n, .inl f)) (ht : (n_ty w)[t0]? = some (cA, .boolean)) (hin : vp_in j n)
    (he' : n_en w κ i σ' = .inl (cA, n, .inl (upd f j.toNatClampNeg (vp_nar .boolean x)))) (ho : ∀ κ' i', n_cnt w κ' i' → ¬ (κ' = κ ∧ i' = i) → n_en w κ' i' σ' = n_en w κ' i' σ) (hdg : decode cc pc = .ok (.bastore, 1))
    (kk : n_W p l e s m args below meth c w d Po (pc + 1) ls rest σ') : n_W p l e s m args below meth c w d Po pc ls (.int x :: .int j :: .ref (n_ad w κ i) :: rest) σ := by
  intro H locs la z1 z2 z3
  have hat := z2 κ i hi
  rw [he] at hat
  refine W.zast hC.1 hC.2.1 hat ((hC.2.2.2.2.2.2.2.1.2 t0 _ ht).1 n (fun j => .int (f j))) (fun q => by cases q) (by show ¬ (j < 0 ∨ (arrV _ _ _).slots.size ≤ _); rw [arrV_size]; exact hin) rfl rfl hdg fun H1 e1 z oq => ?_
  refine kk H1 _ la z1 (z2.set hC.2.2.2.2.2.2.2.2.2.1 hi ?_ oq ho) (z3.put z oq (n_A.in hi))
  rw [he']
  show H1[n_ad w κ i]? = some (vp_cell _ _)
  rw [e1, vp_cell_i, vp_cell_i, arrV_store]
  congr 2
  funext q
  by_cases hq : q = j.toNatClampNeg
  · subst hq
    simp [updV, upd]
    rfl
  · simp [updV, upd, hq]
theorem n_iret (hC : n_C p s m args meth c w cc nL own (some .int)) {v : Int32} (hdg : decode cc pc = .ok (.ireturn, 1)) (hP : Po (some (.int v)) σ) : n_W p l e s m args below meth c w d Po pc ls [.int v] σ := by
  intro H locs la z1 z2 z3
  exact W.iret hC.1 hC.2.1 hC.2.2.2.2.2.1 (fun t ht _ => ⟨⟨_, _, rfl, hP, by rw [ht]; exact z2⟩, z3.F ht⟩) z3.2.2 hdg hC.2.2.2.2.2.2.1
theorem n_zret (hC : n_C p s m args meth c w cc nL own (some .boolean)) {v : Int32} (hdg : decode cc pc = .ok (.ireturn, 1)) (hn : narrow .boolean (.int v) = .int v) (hP : Po (some (.int v)) σ) : n_W p l e s m args below meth c w d Po pc ls [.int v] σ := by
  intro H locs la z1 z2 z3
  exact W.zret hC.1 hC.2.1 hC.2.2.2.2.2.1 hn (fun t ht _ => ⟨⟨_, _, rfl, hP, by rw [ht]; exact z2⟩, z3.F ht⟩) z3.2.2 hdg hC.2.2.2.2.2.2.1
theorem n_lret (hC : n_C p s m args meth c w cc nL own (some .long)) {v : Int64} (hdg : decode cc pc = .ok (.lreturn, 1)) (hP : Po (some (.long v)) σ) : n_W p l e s m args below meth c w d Po pc ls [.long v] σ := by
  intro H locs la z1 z2 z3
  exact W.lret hC.1 hC.2.1 hC.2.2.2.2.2.1 (fun t ht _ => ⟨⟨_, _, rfl, hP, by rw [ht]; exact z2⟩, z3.F ht⟩) z3.2.2 hdg hC.2.2.2.2.2.2.1
theorem n_vret (hC : n_C p s m args meth c w cc nL own none) (hdg : decode cc pc = .ok (.return_, 1)) (hP : Po none σ) : n_W p l e s m args below meth c w d Po pc ls [] σ := by
  intro H locs la z1 z2 z3
  exact W.vret hC.1 hC.2.1 hC.2.2.2.2.2.1 (fun t ht _ => ⟨⟨_, _, rfl, hP, by rw [ht]; exact z2⟩, z3.F ht⟩) z3.2.2 hdg hC.2.2.2.2.2.2.1
theorem n_aret {C : String} (hC : n_C p s m args meth c w cc nL own (some (.object C))) {v : Value} (hv : v = .null ∨ ∃ a, v = .ref a) (hdg : decode cc pc = .ok (.areturn, 1)) (hP : Po (some v) σ) : n_W p l e s m args below meth c w d Po pc ls [v] σ := by
  intro H locs la z1 z2 z3
  exact W.aret hC.1 hC.2.1 hC.2.2.2.2.2.1 (Or.inl ⟨_, rfl⟩) hv (fun t ht _ => ⟨⟨_, _, rfl, hP, by rw [ht]; exact z2⟩, z3.F ht⟩) z3.2.2 hdg hC.2.2.2.2.2.2.1
theorem n_blind (av : List Value) (w : n_Wd St) (σ : St) : FrameBlind (va_Pc av (n_U w σ)) := fun a U g mk h => ⟨h.1, h.2.1, va_K.moved (u := U) (U := U.calling g mk a) (Vm.Alike.refl U.vm) h.2.2.1, h.2.2.2.2.2.2 U (U.calling g mk a) _ _ (State.WarmedH.refl U) (fun _ _ _ => rfl) h.2.2.2.1, h.2.2.2.2⟩
theorem n_wsok (hts : ∀ x ∈ n_tb, x.before args s = true) {y : MethodName} {bytes : ByteArray} {maxL : Nat} {ret' : Option FieldType} (hc : Cond.code y bytes maxL ret' ∈ n_tb) : ∀ x ∈ (Cond.code y bytes maxL ret' :: n_tb), ∀ (a' : Array Value) (U : State), s.WarmedH U.vm → x.before a' U = true := by
  intro x hx a' U hW
  have h : x ∈ n_tb := (List.mem_cons.mp hx).elim (fun h => h ▸ hc) id
  exact word_at hW (n_good h).2 (hts x h)
theorem n_callV (hC : n_C p s m args meth c w cc nL own ret) {κ i ci index n d' maxL : Nat} {y : MethodName} {bytes : ByteArray} {ret' : Option FieldType} {fs As : List Value} {q : vw_C} {Po' : Option Value → St → Prop} (hM : n_Ct l w d' y bytes maxL ret' (.ref (n_ad w κ i) :: As) σ Po') (hd : d' + 1 ≤ d) (hmx : maxL ≤ 41)
    (hi : n_cnt w κ i) (he : n_en w κ i σ = .inr (ci, fs)) (hc : (n_cl w)[ci]? = some q) (hq : q.1 = y.cls) (hw : Cond.methodLink own index y ∈ n_tb ∧ Cond.instanceMethod y ∈ n_tb ∧ Cond.selects y.cls y y ∈ n_tb ∧ Cond.initialized y.cls ∈ n_tb ∧ Cond.code y bytes maxL ret' ∈ n_tb)
    (hy : (y.cls ≠ "java/lang/invoke/MethodHandle" ∧ y.cls ≠ "java/lang/invoke/VarHandle") ∧ (parseMethodDescriptor y.desc).map (fun d => d.parameters.length) = some n) (hn : As.length = n) (hr : (rest.map fun v => v.category).sum ≤ 8) (hdg : decode cc pc = .ok (.invokevirtual index, 3))
    (kk : ∀ (rv : Option Value) (σ' : St), Po' rv σ' → n_W p l e s m args below meth c w d Po (pc + 3) ls (rv.toList ++ rest) σ') : n_W p l e s m args below meth c w d Po pc ls (As.reverse ++ .ref (n_ad w κ i) :: rest) σ := by
  intro H locs la z1 z2 z3
  obtain ⟨hx, hb, hml, hown, hts, hrt, hlk, hK, hE, hok⟩ := hC
  have hP := n_one z2 hi
  rw [he] at hP
  have hrv := va_recv hK hP hc (q0 := 0) rfl
  rw [hq] at hrv
  have cw : CallW (n_rm d) s args own y.cls index y bytes maxL ret' (.code y bytes maxL ret' :: n_tb) (n_rm d') 0 0 n := by
    refine ⟨⟨rfl, rfl, hd, ?_, n_wsok hts hw.2.2.2.2, List.mem_cons_self, hts _ hw.2.2.2.2, hts _ hw.2.2.2.1, hy.1, fun sig h => ?_, hts _ hw.1⟩, hts _ hw.2.1, hts _ hw.2.2.1⟩
    · show 8 + (maxL + 11) + 60 * d' ≤ 60 * d
      omega
    · have h2 := hy.2
      rw [h] at h2
      exact (Option.some.inj h2).symm
  have hr0 := va_runV (e := e) (below := below) (meth := meth) (locs := locs) (cells := 0) (slots := 0) (g := F0 m pc la (As.reverse ++ .ref (n_ad w κ i) :: rest)) (rest := rest) (As := As) (b := n_ad w κ i) (H := H) ⟨hx, hb, hml, hown, hts⟩ hM cw
    ⟨n_blind _ w σ, hrv, fun U hU hW => ⟨rfl, by rw [hU]; exact z2, va_K.moved hW.alike hK, hok.2.2 s U s.heap U.heap hW (fun q h1 h2 => by rw [hU]; exact z3.2.1 q h1 h2) hE, hok⟩⟩ rfl hn (z1.2.1.trans hml) rfl (lv_room hr) hdg ⟨Nat.zero_le _, Nat.zero_le _⟩
  intro T hT X
  obtain ⟨v, st0, t, T', L, g0, X', hL, e1, e2, ⟨⟨rv, σ', hv, hp, hrep⟩, hz, hk⟩, st⟩ := hr0 T hT X
  cases hv
  rw [g0] at hz hk
  obtain ⟨t2, a1, b1⟩ := kk _ σ' hp T'.heap (locs ++ L) la z1 (by rw [e1]; exact hrep)
    ⟨Nat.le_trans z3.1 (by rw [e1]; exact hz), fun q h1 h2 => by rw [e1, hk q (Nat.lt_of_lt_of_le h1 z3.1) h2]; exact z3.2.1 q h1 h2, fun q hq => by
      rcases List.mem_append.mp hq with h | h
      · exact z3.2.2 q h
      · exact hL q h⟩ T' rfl X'
  exact ⟨t2, st t2 a1, b1⟩
theorem n_callS (hC : n_C p s m args meth c w cc nL own ret) {index n d' maxL : Nat} {y : MethodName} {bytes : ByteArray} {ret' : Option FieldType} {As : List Value} {Po' : Option Value → St → Prop} (hM : n_Ct l w d' y bytes maxL ret' As σ Po') (hd : d' + 1 ≤ d) (hmx : maxL ≤ 41)
    (hw : Cond.methodLink own index y ∈ n_tb ∧ Cond.static y ∈ n_tb ∧ Cond.initialized y.cls ∈ n_tb ∧ Cond.code y bytes maxL ret' ∈ n_tb)
    (hy : (y.cls ≠ "java/lang/invoke/MethodHandle" ∧ y.cls ≠ "java/lang/invoke/VarHandle") ∧ (parseMethodDescriptor y.desc).map (fun d => d.parameters.length) = some n) (hn : As.length = n) (hr : (rest.map fun v => v.category).sum ≤ 8) (hdg : decode cc pc = .ok (.invokestatic index, 3))
    (kk : ∀ (rv : Option Value) (σ' : St), Po' rv σ' → n_W p l e s m args below meth c w d Po (pc + 3) ls (rv.toList ++ rest) σ') : n_W p l e s m args below meth c w d Po pc ls (As.reverse ++ rest) σ := by
  intro H locs la z1 z2 z3
  obtain ⟨hx, hb, hml, hown, hts, hrt, hlk, hK, hE, hok⟩ := hC
  have cw : CallB (n_rm d) s args own index y bytes maxL ret' (.code y bytes maxL ret' :: n_tb) (n_rm d') 0 0 n ∧ (Cond.static y).before args s = true := by
    refine ⟨⟨rfl, rfl, hd, ?_, n_wsok hts hw.2.2.2, List.mem_cons_self, hts _ hw.2.2.2, hts _ hw.2.2.1, hy.1, fun sig h => ?_, hts _ hw.1⟩, hts _ hw.2.1⟩
    · show 8 + (maxL + 11) + 60 * d' ≤ 60 * d
      omega
    · have h2 := hy.2
      rw [h] at h2
      exact (Option.some.inj h2).symm
  have hr0 := va_runS (e := e) (below := below) (meth := meth) (locs := locs) (cells := 0) (slots := 0) (g := F0 m pc la (As.reverse ++ rest)) (rest := rest) (As := As) (H := H) ⟨hx, hb, hml, hown, hts⟩ hM cw
    ⟨n_blind _ w σ, fun U hU hW => ⟨rfl, by rw [hU]; exact z2, va_K.moved hW.alike hK, hok.2.2 s U s.heap U.heap hW (fun q h1 h2 => by rw [hU]; exact z3.2.1 q h1 h2) hE, hok⟩⟩ rfl hn (z1.2.1.trans hml) rfl (lv_room hr) hdg ⟨Nat.zero_le _, Nat.zero_le _⟩
  intro T hT X
  obtain ⟨v, st0, t, T', L, g0, X', hL, e1, e2, ⟨⟨rv, σ', hv, hp, hrep⟩, hz, hk⟩, st⟩ := hr0 T hT X
  cases hv
  rw [g0] at hz hk
  obtain ⟨t2, a1, b1⟩ := kk _ σ' hp T'.heap (locs ++ L) la z1 (by rw [e1]; exact hrep)
    ⟨Nat.le_trans z3.1 (by rw [e1]; exact hz), fun q h1 h2 => by rw [e1, hk q (Nat.lt_of_lt_of_le h1 z3.1) h2]; exact z3.2.1 q h1 h2, fun q hq => by
      rcases List.mem_append.mp hq with h | h
      · exact z3.2.2 q h
      · exact hL q h⟩ T' rfl X'
  exact ⟨t2, st t2 a1, b1⟩
theorem n_ls0 (nL : Nat) (av : List Value) (h : (lg_sl av).length ≤ nL) : n_ls nL ((lg_sl av ++ List.replicate (nL - (lg_sl av).length) Slot.unset).toArray) (n_l0 nL av) := by
  have key : ∀ (vs : List Value) (b : Nat), (vs.flatMap fun v => if v.category = 2 then [some v, none] else [some v] : List (Option Value)).length = (lg_sl vs).length ∧ ∀ (i : Nat) (v : Value), (vs.flatMap fun v => if v.category = 2 then [some v, none] else [some v] : List (Option Value))[i]? = some (some v) → (lg_sl vs)[i]? = some (.val v) := by
    intro vs b
    induction vs with
    | nil => exact ⟨rfl, fun i v h => by simp at h⟩
    | cons a vs ih =>
      obtain ⟨ih1, ih2⟩ := ih
      unfold lg_sl at ih1 ih2 ⊢
      by_cases hc : a.category = 2
      · refine ⟨by simp [hc, ih1], fun i v h => ?_⟩
        simp only [List.flatMap_cons, hc, if_true] at h ⊢
        match i, h with
        | 0, h => simpa using h
        | 1, h => simp at h
        | i + 2, h => exact ih2 i v h
      · refine ⟨by simp [hc, ih1], fun i v h => ?_⟩
        simp only [List.flatMap_cons, hc, if_false] at h ⊢
        match i, h with
        | 0, h => simpa using h
        | i + 1, h => exact ih2 i v h
  obtain ⟨k1, k2⟩ := key av 0
  have hh := lv_entry av h
  refine ⟨?_, hh.1, hh.2.1, fun i v hi => ?_⟩
  · unfold n_l0
    rw [List.length_append, List.length_replicate, k1]
    omega
  · unfold n_l0 at hi
    by_cases hl : i < (av.flatMap fun v => if v.category = 2 then [some v, none] else [some v] : List (Option Value)).length
    · rw [List.getElem?_append_left hl] at hi
      rw [List.getElem?_toArray, List.getElem?_append_left (by rw [← k1]; exact hl)]
      exact k2 i v hi
    · rw [List.getElem?_append_right (by omega), List.getElem?_replicate] at hi
      split at hi <;> simp at hi
theorem n_ofW {w : n_Wd St} {y : MethodName} {bytes : ByteArray} {maxL : Nat} {ret : Option FieldType} {av : List Value} {σ : St} {Po : Option Value → St → Prop} {d : Nat} (hy : plainName y.cls = true) (hlen : (lg_sl av).length ≤ maxL)
    (body : ∀ (p : Program) (e : Env) (s : State) (m : MethodId) (below : List Frame) (meth : Method) (c : Code), n_C p s m av.toArray meth c w bytes maxL y.cls ret → n_W p l e s m av.toArray below meth c w d Po 0 (n_l0 maxL av) [] σ) : n_Ct l w d y bytes maxL ret av σ Po := by
  refine Met.ofW (cc := bytes) (maxL := maxL) (ret := ret) hy rfl ?_
  intro p e s m args below meth c s₁ B hml hP
  obtain ⟨rfl, hrep, hK, hE, hok⟩ := hP
  have hts := atoms_spec (ws := .code y bytes maxL ret :: n_tb) B.pre
  rw [lg_entry_eq]
  exact body p e s m below meth c ⟨B.exec, B.bytes, hml, findClass_of_methodNamed B.named, fun x hx => hts x (List.mem_cons_of_mem _ hx), B.returns, B.notSynchronized, hK, hE, hok⟩ s.heap [] _ (by rw [hml]; exact n_ls0 maxL av hlen) hrep va_S.rf
end NH
