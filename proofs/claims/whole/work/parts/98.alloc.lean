/-! making objects: the heap as a map from places to cells; how constructors are walked -/
abbrev a_S : Type := Nat → Option va_E
def a_up (σ : a_S) (q : Nat) (x : va_E) : a_S := fun q' => if q' = q then some x else σ q'
theorem a_up_at (σ : a_S) (q : Nat) (x : va_E) : a_up σ q x q = some x := if_pos rfl
theorem a_up_ne {σ : a_S} {q q' : Nat} {x : va_E} (h : q' ≠ q) : a_up σ q x q' = σ q' := if_neg h
def a_R (D : va_G) (σ : a_S) (z : Nat) (H : Heap) : Prop := H.size = z ∧ ∀ (q : Nat) (x : va_E), σ q = some x → va_at D n_cls (q, x) H
theorem a_R.lt {D : va_G} {σ : a_S} {z : Nat} {H : Heap} (h : a_R D σ z H) {q : Nat} {x : va_E} (hq : σ q = some x) : q < z := by
  have := (h.2 q x hq).lt
  rw [h.1] at this
  exact this
theorem a_R.set {D : va_G} {σ : a_S} {z : Nat} {H H1 : Heap} (h : a_R D σ z H) {q : Nat} {x : va_E} (hx : va_at D n_cls (q, x) H1) (hz : H1.size = H.size) (ho : ∀ q' : Nat, q' ≠ q → H1[q']? = H[q']?) : a_R D (a_up σ q x) z H1 := by
  refine ⟨hz.trans h.1, fun q' x' hq' => ?_⟩
  by_cases e : q' = q
  · subst e
    rw [a_up_at] at hq'
    cases hq'
    exact hx
  · rw [a_up_ne e] at hq'
    exact (h.2 q' x' hq').kept (ho q' e)
theorem a_R.push {D : va_G} {σ : a_S} {z : Nat} {H H1 : Heap} (h : a_R D σ z H) {x : va_E} (hx : va_at D n_cls (z, x) H1) (hz : H1.size = z + 1) (ho : ∀ q' : Nat, q' < z → H1[q']? = H[q']?) : a_R D (a_up σ z x) (z + 1) H1 := by
  refine ⟨hz, fun q' x' hq' => ?_⟩
  by_cases e : q' = z
  · subst e
    rw [a_up_at] at hq'
    cases hq'
    exact hx
  · rw [a_up_ne e] at hq'
    exact (h.2 q' x' hq').kept (ho q' (h.lt hq'))
abbrev aw (D : va_G) (ca : Nat → ClassId) : n_Wd Unit := (D, n_cls, n_tys ca, fun _ _ => False, fun _ _ => 0, fun _ _ _ => .inl (0, 0, .inl fun _ => 0), fun _ _ => True)
theorem aw_ok (D : va_G) (ca : Nat → ClassId) : n_ok (aw D ca) := ⟨fun _ _ _ _ h => h.elim, n_clk, fun _ _ _ _ _ _ _ => trivial⟩
theorem a_over {s U : State} (h : s.vm.Alike U.vm) {a a' : Array Value} {C : String} (hz : (Cond.arrayOver (.object C)).before a s = true) : (Cond.arrayOver (.object C)).before a' U = true := by
  have e : (Cond.arrayOver (.object C)).before a' U = (Cond.arrayOver (.object C)).before a s := by
    simp only [Cond.before, Cond.holds, Cond.value, h.findClass]
    congr 1
    congr 1
    funext comp
    rw [h.findIdx?_eq _ (fun k => rfl)]
    congr 1
    funext c
    exact h.class_map _ (fun k r _ _ => rfl) c
  rw [e]
  exact hz
def a_nest : List (String × Nat × MethodName) := [("ShareMonitor", 9, yX8_init), ("ShareMonitor$UserProcess", 20, yX1_init), ("ShareMonitor$Desk", 54, yX5_init), ("ShareMonitor$Desk", 55, yX7_init)]
def a_ovr : List String := ["ShareMonitor$UserProcess", "ShareMonitor$Program", "ShareMonitor$Row", "ShareMonitor$Op"]
def a_N (U : State) : Prop := (∀ q ∈ a_nest, va_Nw (.methodLinkNest q.1 q.2.1 q.2.2 "ShareMonitor") U) ∧ ∀ C ∈ a_ovr, (Cond.arrayOver (.object C)).before #[] U = true
theorem a_N.moved {s U : State} (hW : s.WarmedH U.vm) (h : a_N s) : a_N U := ⟨fun q hq => va_Nw.warmM hW (h.1 q hq), fun C hC => a_over hW.alike (h.2 C hC)⟩
def a_rm (d n k : Nat) : Room := { frames := d, cells := n, slots := k, locals := 60 * d }
def a_A (z0 : Nat) : Nat → Prop := fun q => z0 ≤ q
def a_Q (D : va_G) (z0 : Nat) (Po : a_S → Prop) (zf : Nat) : Array Value → State → Outcome → State → Prop := fun _ st oc t => (oc = .returned none ∧ ∃ σ' : a_S, Po σ' ∧ a_R D σ' zf t.heap) ∧ va_F (a_A z0) st t
abbrev a_St : Type := a_S × Nat × Nat × Nat
def a_G (D : va_G) (z0 : Nat) (s : State) (x : a_St) (H : Heap) (locs : List Loc) : Prop := a_R D x.1 x.2.1 H ∧ va_S (a_A z0) s.heap H locs
abbrev a_W (p : Program) (l : Launch) (e : Env) (s : State) (m : MethodId) (args : Array Value) (below : List Frame) (meth : Method) (c : Code) (D : va_G) (z0 d mc ms : Nat) (Po : a_S → Prop) (zf : Nat) (pc : Nat) (ls : List (Option Value)) (st : List Value) (x : a_St) : Prop :=
  g_W p l e s m args below meth c (a_rm d mc ms) (MQ below (a_Q D z0 Po zf) args s mc ms (a_A z0)) (a_G D z0 s) (fun x : a_St => x.2.2) pc ls st x
abbrev a_C (p : Program) (s : State) (m : MethodId) (args : Array Value) (meth : Method) (c : Code) (D : va_G) (ca : Nat → ClassId) (cc : ByteArray) (nL : Nat) (own : String) : Prop :=
  n_C p s m args meth c (aw D ca) cc nL own none
def a_U (D : va_G) (ca : Nat → ClassId) (σ : a_S) (z : Nat) (U : State) : Prop := a_R D σ z U.heap ∧ va_K D n_cls (n_tys ca) U ∧ a_N U
def a_Ct (l : Launch) (D : va_G) (ca : Nat → ClassId) (z0 d mc ms : Nat) (y : MethodName) (bytes : ByteArray) (maxL : Nat) (av : List Value) (σ : a_S) (z zf : Nat) (Po : a_S → Prop) : Prop :=
  Met l y (.code y bytes maxL none :: n_tb) (a_rm d mc ms) (va_Pc av (a_U D ca σ z)) (a_Q D z0 Po zf) mc ms (a_A z0)
section AL
variable {p : Program} {l : Launch} {e : Env} {s : State} {m : MethodId} {args : Array Value} {below : List Frame} {meth : Method} {c : Code} {D : va_G} {ca : Nat → ClassId} {R : Room} {Q : State → Prop} {z0 : Nat} {cc : ByteArray} {nL : Nat} {own : String} {ret : Option FieldType}
variable {pc : Nat} {ls : List (Option Value)} {rest : List Value} {σ : a_S} {z n k : Nat}
theorem a_S3 {s : State} {H H1 : Heap} {locs : List Loc} (h : va_S (a_A z0) s.heap H locs) (hz : H1.size = H.size + 1) (ho : ∀ q : Nat, q < H.size → H1[q]? = H[q]?) : va_S (a_A z0) s.heap H1 locs :=
  ⟨Nat.le_trans h.1 (by omega), fun q h1 h2 => (ho q (Nat.lt_of_lt_of_le h1 h.1)).trans (h.2.1 q h1 h2), h.2.2⟩
abbrev ag_W (p : Program) (l : Launch) (e : Env) (s : State) (m : MethodId) (args : Array Value) (below : List Frame) (meth : Method) (c : Code) (R : Room) (Q : State → Prop) (D : va_G) (z0 : Nat) (pc : Nat) (ls : List (Option Value)) (st : List Value) (x : a_St) : Prop := g_W p l e s m args below meth c R Q (a_G D z0 s) (fun x : a_St => x.2.2) pc ls st x
theorem al_obj (hC : n_C p s m args meth c (aw D ca) cc nL own ret) {idx a : Nat} (hl : Cond.methodLink own idx Lib.objectInit ∈ n_tb) (hdg : decode cc pc = .ok (.invokespecial idx, 3)) (hr : 1 ≤ R.frames ∧ 20 ≤ R.locals ∧ (rest.map fun v => v.category).sum ≤ 8)
    (kk : ag_W p l e s m args below meth c R Q D z0 (pc + 3) ls rest (σ, z, n, k)) : ag_W p l e s m args below meth c R Q D z0 pc ls (.ref a :: rest) (σ, z, n, k) := by
  intro H locs la z1 z2
  obtain ⟨hx, hb, hml, hown, hts, -⟩ := hC
  exact W.objInit hx hb hown (hts _ hl) (hts _ wob_i) (hts _ wob_c) rfl (z1.2.1) rfl hdg hr.1 (by show 2 * 0 + _ + 12 ≤ _; omega) (kk H locs la z1 z2)
theorem al_newa (hC : n_C p s m args meth c (aw D ca) cc nL own ret) {atype : ArrayType} {ty : FieldType} {t0 N : Nat} {v : Int32} {a0 : vp_A} (harr : Cond.arrayClass (newarray.typeOf atype) ∈ n_tb) (hty : newarray.typeOf atype = ty) (hno : ∀ C, ty ≠ .object C) (ht : (n_tys ca)[t0]? = some (ca t0, ty)) (ha : ∀ cA : ClassId, vp_cell cA a0 = arrV cA N (fun _ => defaultValue ty)) (hv : ¬ v < 0) (hN : v.toNatClampNeg = N)
    (hbytes : N * componentBytes ty ≤ 536870912) (hcells : n + 1 ≤ R.cells) (hslots : k + N ≤ R.slots) (hdg : decode cc pc = .ok (.newarray atype, 2))
    (kk : ag_W p l e s m args below meth c R Q D z0 (pc + 2) ls (.ref z :: rest) (a_up σ z (.inl (ca t0, a0)), z + 1, n + 1, k + N)) : ag_W p l e s m args below meth c R Q D z0 pc ls (.int v :: rest) (σ, z, n, k) := by
  intro H locs la z1 z2
  obtain ⟨⟨hsz, hr⟩, z3⟩ := z2
  obtain ⟨hx, hb, hml, hown, hts, -, -, hK, -⟩ := hC
  subst hty
  refine va_newaK hx hb (hts _ harr) rfl hdg rfl hv hN hbytes hcells hslots (h := z) hsz fun H1 cA e1 e2 e3 hAr hNm => ?_
  have hca : cA = ca t0 := by
    have h2 := (hK.2 t0 _ ht).2
    have h3 : s.vm.findClass ("[" ++ (newarray.typeOf atype).toString) = some (ca t0) := by
      revert h2 hno
      unfold va_RA
      cases hq : newarray.typeOf atype <;> intro hno h2 <;> first | exact h2 | exact absurd rfl (hno _)
    exact Option.some.inj (hNm.symm.trans h3)
  subst hca
  refine kk H1 locs la z1 ⟨a_R.push (H := H) ⟨hsz, hr⟩ ?_ e2 e3, a_S3 z3 (by rw [e2, hsz]) (by rw [hsz]; exact e3)⟩
  show H1[z]? = some (vp_cell _ _)
  rw [ha]
  exact e1
theorem al_anew (hC : n_C p s m args meth c (aw D ca) cc nL own ret) (hN0 : a_N s) {C : String} {t0 N index : Nat} {v : Int32} (hC2 : C ∈ a_ovr) (hl : Cond.classLink own index C ∈ n_tb) (ht : (n_tys ca)[t0]? = some (ca t0, .object C)) (hv : ¬ v < 0) (hN : v.toNatClampNeg = N)
    (hbytes : N * 4 ≤ 536870912) (hcells : n + 1 ≤ R.cells) (hslots : k + N ≤ R.slots) (hdg : decode cc pc = .ok (.anewarray index, 3))
    (kk : ag_W p l e s m args below meth c R Q D z0 (pc + 3) ls (.ref z :: rest) (a_up σ z (.inl (ca t0, N, .inr (.inr (.inr (.inr fun _ => none))))), z + 1, n + 1, k + N)) : ag_W p l e s m args below meth c R Q D z0 pc ls (.int v :: rest) (σ, z, n, k) := by
  intro H locs la z1 z2
  obtain ⟨⟨hsz, hr⟩, z3⟩ := z2
  obtain ⟨hx, hb, hml, hown, hts, -, -, hK, -⟩ := hC
  subst hN
  refine W.anew hx hb hown (hts _ hl) (a_over (Vm.Alike.refl s.vm) (hN0.2 C hC2)) rfl hdg rfl hv hbytes hcells hslots fun cA kA comp h1 h2 h3 h4 => ?_
  obtain ⟨kA2, comp2, g1, g2, g3, g4⟩ := (hK.2 t0 _ ht).2
  have hca : cA = ca t0 := Option.some.inj (h1.symm.trans g4)
  subst hca
  have e2 : (H.push { cls := ca t0, slots := Array.replicate v.toNatClampNeg .null, vm := .none }).size = z + 1 := by rw [Array.size_push, hsz]
  have e3 : ∀ q : Nat, q < z → (H.push { cls := ca t0, slots := Array.replicate v.toNatClampNeg .null, vm := .none })[q]? = H[q]? := fun q hq => by
    rw [Array.getElem?_push, if_neg (Nat.ne_of_lt (Nat.lt_of_lt_of_eq hq hsz.symm))]
  have kk2 := kk _ locs la z1 ⟨a_R.push (H := H) ⟨hsz, hr⟩ (by
    show (H.push _)[z]? = some (vp_cell _ _)
    rw [vp_cell_q, Array.getElem?_push, if_pos hsz.symm, arrV_new]
    rfl) e2 e3, a_S3 z3 (by rw [e2, hsz]) (by rw [hsz]; exact e3)⟩
  show W p l e R s m args below meth c _ locs (n + 1) (k + v.toNatClampNeg) Q (F0 m (pc + 3) la (.ref H.size :: rest))
  rw [hsz]
  exact kk2
theorem al_new (hC : n_C p s m args meth c (aw D ca) cc nL own ret) {ci index : Nat} {q : vw_C} {fs : List Value} (hc : n_cls[ci]? = some q) (hl : Cond.classLink own index q.1 ∈ n_tb) (hi : Cond.instantiable q.1 q.2.2 ∈ n_tb) (hz : Cond.initialized q.1 ∈ n_tb) (ty : Nat → FieldType) (hty : ∀ k, k < q.2.2 → parseFieldDescriptor (q.2.1 k).2.2.1 = some (ty k)) (hfs : ∀ j, j < q.2.2 → defaultValue (ty j) = vp_V fs j)
    (hcells : n + 1 ≤ R.cells) (hslots : k + q.2.2 ≤ R.slots) (hdg : decode cc pc = .ok (.new index, 3))
    (kk : ag_W p l e s m args below meth c R Q D z0 (pc + 3) ls (.ref z :: rest) (a_up σ z (.inr (ci, fs)), z + 1, n + 1, k + q.2.2)) : ag_W p l e s m args below meth c R Q D z0 pc ls rest (σ, z, n, k) := by
  intro H locs la z1 z2
  obtain ⟨⟨hsz, hr⟩, z3⟩ := z2
  obtain ⟨hx, hb, hml, hown, hts, -, -, hK, -⟩ := hC
  have hKn := hK.1 ci _ hc
  refine W.newcK hx hb hown (hts _ hl) (hts _ hi) (hts _ hz) rfl hdg hcells hslots hKn.2.1 (h := z) hsz fun H1 kC hkC e1 e2 e3 => ?_
  refine kk H1 locs la z1 ⟨a_R.push (H := H) ⟨hsz, hr⟩ ?_ e2 e3, a_S3 z3 (by rw [e2, hsz]) (by rw [hsz]; exact e3)⟩
  exact ⟨_, hc, (u_born ty hts (n_clk ci q hc).1 hKn hkC e1 hty).to hfs⟩
theorem al_get (hC : n_C p s m args meth c (aw D ca) cc nL own ret) {a ci index j : Nat} {fs : List Value} {v : Value} {q : vw_C} (he : σ a = some (.inr (ci, fs))) (hc : n_cls[ci]? = some q) (hj : j < q.2.2) (hw : Cond.fieldLink own index (q.2.1 j).1 (q.2.1 j).2.1 (q.2.1 j).2.2.1 ∈ n_tb) (hv : fs[j]? = some v) (hdg : decode cc pc = .ok (.getfield index, 3))
    (kk : ag_W p l e s m args below meth c R Q D z0 (pc + 3) ls (v :: rest) (σ, z, n, k)) : ag_W p l e s m args below meth c R Q D z0 pc ls (.ref a :: rest) (σ, z, n, k) := by
  intro H locs la z1 z2
  have hP : va_P D n_cls [(a, .inr (ci, fs))] H := by
    intro k x hk
    cases k with
    | zero => cases hk; exact z2.1.2 _ _ he
    | succ k => simp at hk
  exact va_get hC.1 hC.2.1 hC.2.2.2.2.1 (n_clk ci q hc).1 hC.2.2.2.1 hC.2.2.2.2.2.2.2.1 hP 0 rfl hc j hj (hC.2.2.2.2.1 _ hw) (fun _ h => h) hv hdg (kk H locs la z1 z2)
theorem al_putF (hC : n_C p s m args meth c (aw D ca) cc nL own ret) (hin : meth.name = "<init>") {a ci index j : Nat} {fs : List Value} {v : Value} {q : vw_C} {ty : FieldType} (he : σ a = some (.inr (ci, fs))) (ha : z0 ≤ a) (hc : n_cls[ci]? = some q) (hj : j < q.2.2) (hw : Cond.fieldLink own index (q.2.1 j).1 (q.2.1 j).2.1 (q.2.1 j).2.2.1 ∈ n_tb) (hl : j < fs.length)
    (hfin : (q.2.1 j).2.2.2 = true) (hdecl : (q.2.1 j).1 = own) (hty : parseFieldDescriptor (q.2.1 j).2.2.1 = some ty) (hn : narrow ty v = v) (hf : fits ty v = true) (hdg : decode cc pc = .ok (.putfield index, 3))
    (kk : ag_W p l e s m args below meth c R Q D z0 (pc + 3) ls rest (a_up σ a (.inr (ci, fs.set j v)), z, n, k)) : ag_W p l e s m args below meth c R Q D z0 pc ls (v :: .ref a :: rest) (σ, z, n, k) := by
  intro H locs la z1 z2
  obtain ⟨hx, hb, hml, hown, hts, -, -, hK, -⟩ := hC
  obtain ⟨hin3, hnm, ty0, hty0⟩ := n_clk ci q hc
  have hap := va_apart (own := own) hts hin3 ty0 hty0 hnm hK hc
  obtain ⟨r, h1, cell, q1, q2, q3, q4⟩ := z2.1.2 _ _ he
  have hr : r = q := Option.some.inj (h1.symm.trans hc)
  subst hr
  obtain ⟨hS, hfc, kC, hkC, hkind⟩ := hK.1 ci _ hc
  obtain ⟨cf, kf, fi, f, hi, hsl⟩ := hS j hj
  have hlay := hts _ (hin3 _ (u_in_lay hj))
  unfold u_lay at hlay
  rw [if_pos hfin] at hlay
  have hst := (u_facts hfc hkC (u_lays hts hin3 hj) hi).1
  have hcf : m.cls = cf := by
    obtain ⟨_, _, c', _, _, _, -, -, hf', -, -, -, hown2, -⟩ := Cond.laysFinal_spec hlay
    have e1 : c' = cf := by have := hi.symm.trans hf'; simp at this; exact this.1.symm
    rw [hdecl] at hown2
    rw [← e1]; exact Option.some.inj (hown.symm.trans hown2)
  have h6 := u_fits hfc hkC hkind (Or.inr hlay) hi hty hn hf
  refine W.putFinK hx hb hown (hts _ hw) hi hst hcf hin (by rw [q2]; exact h6) q1 q3 (by rw [hsl]; exact k2_hasslot (q4 j hj)) rfl rfl hdg fun H' e1 e2 e3 => ?_
  rw [hsl] at e1 ⊢
  exact kk H' _ la z1 ⟨a_R.set z2.1 ⟨_, hc, t_OB.to (V := updV (vp_V fs) j v) ⟨_, e1, q2, q3, t_set q4 hap hj v⟩ (fun j _ => vp_updV_set hl v j)⟩ e2 e3, z2.2.put e2 e3 ha⟩
theorem al_put (hC : n_C p s m args meth c (aw D ca) cc nL own ret) {a ci index j : Nat} {fs : List Value} {v : Value} {q : vw_C} {ty : FieldType} (he : σ a = some (.inr (ci, fs))) (ha : z0 ≤ a) (hc : n_cls[ci]? = some q) (hj : j < q.2.2) (hw : Cond.fieldLink own index (q.2.1 j).1 (q.2.1 j).2.1 (q.2.1 j).2.2.1 ∈ n_tb) (hl : j < fs.length)
    (hfin : (q.2.1 j).2.2.2 = false) (hty : parseFieldDescriptor (q.2.1 j).2.2.1 = some ty) (hn : narrow ty v = v) (hf : fits ty v = true) (hdg : decode cc pc = .ok (.putfield index, 3))
    (kk : ag_W p l e s m args below meth c R Q D z0 (pc + 3) ls rest (a_up σ a (.inr (ci, fs.set j v)), z, n, k)) : ag_W p l e s m args below meth c R Q D z0 pc ls (v :: .ref a :: rest) (σ, z, n, k) := by
  intro H locs la z1 z2
  obtain ⟨hx, hb, hml, hown, hts, -, -, hK, -⟩ := hC
  obtain ⟨hin3, hnm, ty0, hty0⟩ := n_clk ci q hc
  have hap := va_apart (own := own) hts hin3 ty0 hty0 hnm hK hc
  obtain ⟨r, h1, cell, q1, q2, q3, q4⟩ := z2.1.2 _ _ he
  have hr : r = q := Option.some.inj (h1.symm.trans hc)
  subst hr
  obtain ⟨hS, hfc, kC, hkC, hkind⟩ := hK.1 ci _ hc
  obtain ⟨cf, kf, fi, f, hfi, hsl⟩ := hS j hj
  have hlay := hts _ (hin3 _ (u_in_lay hj))
  unfold u_lay at hlay
  rw [if_neg (by rw [hfin]; decide)] at hlay
  have hst := (u_facts hfc hkC (u_lays hts hin3 hj) hfi).1
  have h6 := u_store hfc hkC hkind hlay hfi hty hn hf
  refine W.putK hx hb (f := f) ⟨hown, hts _ hw, ⟨_, _, _, hfi⟩, hst⟩ (by rw [q2]; exact h6) q1 q3 (by rw [hsl]; exact k2_hasslot (q4 j hj)) rfl rfl hdg fun H' e1 e2 e3 => ?_
  rw [hsl] at e1 ⊢
  exact kk H' _ la z1 ⟨a_R.set z2.1 ⟨_, hc, t_OB.to (V := updV (vp_V fs) j v) ⟨_, e1, q2, q3, t_set q4 hap hj v⟩ (fun j _ => vp_updV_set hl v j)⟩ e2 e3, z2.2.put e2 e3 ha⟩
theorem al_iast (hC : n_C p s m args meth c (aw D ca) cc nL own ret) {a t0 N : Nat} {cA : ClassId} {f : Nat → Int32} {j x : Int32} (he : σ a = some (.inl (cA, N, .inl f))) (ha : z0 ≤ a) (ht : (n_tys ca)[t0]? = some (cA, .int)) (hin : vp_in j N) (hdg : decode cc pc = .ok (.iastore, 1))
    (kk : ag_W p l e s m args below meth c R Q D z0 (pc + 1) ls rest (a_up σ a (.inl (cA, N, .inl (upd f j.toNatClampNeg x))), z, n, k)) : ag_W p l e s m args below meth c R Q D z0 pc ls (.int x :: .int j :: .ref a :: rest) (σ, z, n, k) := by
  intro H locs la z1 z2
  have hat := z2.1.2 _ _ he
  refine W.iast hC.1 hC.2.1 hat ((hC.2.2.2.2.2.2.2.1.2 t0 _ ht).1 N (fun j => .int (f j))) (fun q => by cases q) (by show ¬ (j < 0 ∨ (arrV _ _ _).slots.size ≤ _); rw [arrV_size]; exact hin) rfl rfl hdg fun H1 e1 e2 oq => ?_
  refine kk H1 _ la z1 ⟨a_R.set z2.1 ?_ e2 oq, z2.2.put e2 oq ha⟩
  show H1[a]? = some (vp_cell _ _)
  rw [e1, vp_cell_i, vp_cell_i, arrV_store]
  congr 2
  funext q
  by_cases hq : q = j.toNatClampNeg
  · subst hq
    simp [updV, upd]
  · simp [updV, upd, hq]
theorem al_last (hC : n_C p s m args meth c (aw D ca) cc nL own ret) {a t0 N : Nat} {cA : ClassId} {f : Nat → Int64} {j : Int32} {x : Int64} (he : σ a = some (.inl (cA, N, .inr (.inl f)))) (ha : z0 ≤ a) (ht : (n_tys ca)[t0]? = some (cA, .long)) (hin : vp_in j N) (hdg : decode cc pc = .ok (.lastore, 1))
    (kk : ag_W p l e s m args below meth c R Q D z0 (pc + 1) ls rest (a_up σ a (.inl (cA, N, .inr (.inl (vp_updL f j.toNatClampNeg x)))), z, n, k)) : ag_W p l e s m args below meth c R Q D z0 pc ls (.long x :: .int j :: .ref a :: rest) (σ, z, n, k) := by
  intro H locs la z1 z2
  have hat := z2.1.2 _ _ he
  refine W.last hC.1 hC.2.1 hat ((hC.2.2.2.2.2.2.2.1.2 t0 _ ht).1 N (fun j => .long (f j))) (fun q => by cases q) (by show ¬ (j < 0 ∨ (arrV _ _ _).slots.size ≤ _); rw [arrV_size]; exact hin) rfl rfl hdg fun H1 e1 e2 oq => ?_
  refine kk H1 _ la z1 ⟨a_R.set z2.1 ?_ e2 oq, z2.2.put e2 oq ha⟩
  show H1[a]? = some (vp_cell _ _)
  rw [e1, vp_cell_l, vp_cell_l, arrV_store]
  congr 2
  funext q
  by_cases hq : q = j.toNatClampNeg
  · subst hq
    simp [updV, vp_updL]
  · simp [updV, vp_updL, hq]
theorem al_aast (hC : n_C p s m args meth c (aw D ca) cc nL own ret) {a t0 N v ci : Nat} {cA : ClassId} {q0 : vw_C} {fs : List Value} {f : Nat → Option Nat} {j : Int32} (he : σ a = some (.inl (cA, N, .inr (.inr (.inr (.inr f)))))) (ha : z0 ≤ a) (hv : σ v = some (.inr (ci, fs))) (hc : n_cls[ci]? = some q0) (ht : (n_tys ca)[t0]? = some (cA, .object q0.1)) (hin : vp_in j N) (hdg : decode cc pc = .ok (.aastore, 1))
    (kk : ag_W p l e s m args below meth c R Q D z0 (pc + 1) ls rest (a_up σ a (.inl (cA, N, .inr (.inr (.inr (.inr (va_up f j.toNatClampNeg (some v))))))), z, n, k)) : ag_W p l e s m args below meth c R Q D z0 pc ls (.ref v :: .int j :: .ref a :: rest) (σ, z, n, k) := by
  intro H locs la z1 z2
  have hlt : j.toNatClampNeg < N := Nat.not_le.mp fun q => hin (Or.inr q)
  have h0 : ¬ j < 0 := fun q => hin (Or.inl q)
  have hat := z2.1.2 _ _ he
  have hPv : va_P D n_cls [(v, .inr (ci, fs))] H := by
    intro k x hk
    cases k with
    | zero => cases hk; exact z2.1.2 _ _ hv
    | succ k => simp at hk
  obtain ⟨cellV, g1, g3, g2⟩ := va_recv hC.2.2.2.2.2.2.2.1 hPv hc (q0 := 0) rfl
  obtain ⟨kA, comp, k1, k2, k3, -⟩ := (hC.2.2.2.2.2.2.2.1.2 t0 _ ht).2
  obtain ⟨kE, hkE, -⟩ := Vm.findClass_spec k3
  obtain ⟨kC, hkC, -⟩ := Vm.findClass_spec g2
  refine W.aast hC.1 hC.2.1 hat (fun q h => by cases h) (fun h => by cases h) k1 k2 rfl hkE ⟨h0, by show _ < (arrV _ _ _).slots.size; rw [arrV_size]; exact hlt⟩ g1 (fun q h => by rw [h] at g3; cases g3) hkC (vb_asgS _ _ k3 g2) rfl rfl hdg fun H1 e1 e2 oq => ?_
  refine kk H1 _ la z1 ⟨a_R.set z2.1 ?_ e2 oq, z2.2.put e2 oq ha⟩
  show H1[a]? = some (vp_cell _ _)
  rw [e1, vp_cell_q, vp_cell_q, arrV_store]
  congr 2
  funext q
  by_cases hq : q = j.toNatClampNeg
  · subst hq
    simp [updV, va_up, va_rf]
  · simp [updV, va_up, hq]
theorem a_blind (av : List Value) (D : va_G) (ca : Nat → ClassId) (σ : a_S) (z : Nat) : FrameBlind (va_Pc av (a_U D ca σ z)) := fun a U g mk h => ⟨h.1, h.2.1, va_K.moved (u := U) (U := U.calling g mk a) (Vm.Alike.refl U.vm) h.2.2.1, a_N.moved (s := U) (U := U.calling g mk a) (State.WarmedH.refl U) h.2.2.2⟩
theorem al_ret {d mc ms zf : Nat} {Po : a_S → Prop} (hC : a_C p s m args meth c D ca cc nL own) (hdg : decode cc pc = .ok (.return_, 1)) (hP : Po σ) : a_W p l e s m args below meth c D z0 d mc ms Po zf pc ls [] (σ, zf, mc, ms) := by
  intro H locs la z1 z2
  exact W.vret hC.1 hC.2.1 hC.2.2.2.2.2.1 (fun t ht _ => ⟨⟨rfl, σ, hP, by rw [ht]; exact z2.1⟩, z2.2.F ht⟩) z2.2.2.2 hdg hC.2.2.2.2.2.2.1
theorem al_run {n2 k2 zf : Nat} {Po' : a_S → Prop} {b : Nat} {As : List Value} (hq : ∀ H locs, va_S (a_A z0) s.heap H locs → a_R D σ z H → ∀ la, va_Run p l e R s m args below meth c H locs n k n2 k2 (F0 m pc la (As.reverse ++ .ref b :: rest)) rest (a_Q D z0 Po' zf (Value.ref b :: As).toArray) (a_A z0) ∨ ¬ n_ls c.maxLocals la ls)
    (kk : ∀ σ', Po' σ' → ag_W p l e s m args below meth c R Q D z0 (pc + 3) ls rest (σ', zf, n + n2, k + k2)) : ag_W p l e s m args below meth c R Q D z0 pc ls (As.reverse ++ .ref b :: rest) (σ, z, n, k) := by
  intro H locs la z1 z2 T hT X
  have hr0 := (hq H locs z2.2 z2.1 la).resolve_right (fun h => h z1)
  obtain ⟨v, st0, t, T', L, g0, X', hL, e1, e2, ⟨⟨hv, σ', hp, hrep⟩, hz, hk⟩, st⟩ := hr0 T hT X
  cases hv
  rw [g0] at hz hk
  obtain ⟨t2, a1, b1⟩ := kk σ' hp T'.heap (locs ++ L) la z1 ⟨by rw [e1]; exact hrep, Nat.le_trans z2.2.1 (by rw [e1]; exact hz), fun q h1 h2 => by rw [e1, hk q (Nat.lt_of_lt_of_le h1 z2.2.1) h2]; exact z2.2.2.1 q h1 h2, fun q hq => by
      rcases List.mem_append.mp hq with h | h
      · exact z2.2.2.2 q h
      · exact hL q h⟩ T' rfl X'
  exact ⟨t2, st t2 a1, b1⟩
theorem al_call (hC : n_C p s m args meth c (aw D ca) cc nL own ret) (hN0 : a_N s) {b np index maxL d' n2 k2 zf : Nat} {y : MethodName} {bytes : ByteArray} {As : List Value} {Po' : a_S → Prop} (hM : a_Ct l D ca z0 d' n2 k2 y bytes maxL (.ref b :: As) σ z zf Po') (hd : d' + 1 ≤ R.frames ∧ 60 * d' + 60 ≤ R.locals) (hmx : maxL ≤ 41)
    (hw : Cond.methodLink own index y ∈ n_tb ∧ Cond.instanceMethod y ∈ n_tb ∧ Cond.initialized y.cls ∈ n_tb ∧ Cond.code y bytes maxL none ∈ n_tb) (hnm : y.name = "<init>")
    (hy : (y.cls ≠ "java/lang/invoke/MethodHandle" ∧ y.cls ≠ "java/lang/invoke/VarHandle") ∧ (parseMethodDescriptor y.desc).map (fun d => d.parameters.length) = some np) (hn : As.length = np) (hr : (rest.map fun v => v.category).sum ≤ 8) (hcells : n + n2 ≤ R.cells) (hslots : k + k2 ≤ R.slots) (hdg : decode cc pc = .ok (.invokespecial index, 3))
    (kk : ∀ σ', Po' σ' → ag_W p l e s m args below meth c R Q D z0 (pc + 3) ls rest (σ', zf, n + n2, k + k2)) : ag_W p l e s m args below meth c R Q D z0 pc ls (As.reverse ++ .ref b :: rest) (σ, z, n, k) := by
  refine al_run (fun H locs z3 z2 la => ?_) kk
  by_cases z1 : n_ls c.maxLocals la ls
  · refine Or.inl ?_
    obtain ⟨hx, hb, hml, hown, hts, hrt, hlk, hK, hE, hok⟩ := hC
    have cw : CallB R s args own index y bytes maxL none (.code y bytes maxL none :: n_tb) (a_rm d' n2 k2) n2 k2 np ∧ y.name = "<init>" ∧ (Cond.instanceMethod y).before args s = true := by
      refine ⟨⟨rfl, rfl, hd.1, ?_, n_wsok hts hw.2.2.2, List.mem_cons_self, hts _ hw.2.2.2, hts _ hw.2.2.1, hy.1, fun sig h => ?_, hts _ hw.1⟩, hnm, hts _ hw.2.1⟩
      · show 8 + (maxL + 11) + 60 * d' ≤ _
        omega
      · have h2 := hy.2
        rw [h] at h2
        exact (Option.some.inj h2).symm
    exact va_runI (e := e) (below := below) (meth := meth) (locs := locs) (g := F0 m pc la (As.reverse ++ .ref b :: rest)) (rest := rest) (As := As) (b := b) (H := H) ⟨hx, hb, hml, hown, hts⟩ hM cw
      ⟨a_blind _ D ca σ z, fun U hU hW => ⟨rfl, by rw [hU]; exact z2, va_K.moved hW.alike hK, a_N.moved hW hN0⟩⟩ rfl hn (z1.2.1.trans hml) rfl (lv_room hr) hdg ⟨hcells, hslots⟩
  · exact Or.inr z1
theorem al_callN (hC : n_C p s m args meth c (aw D ca) cc nL own ret) (hN0 : a_N s) {b np index maxL d' n2 k2 zf : Nat} {y : MethodName} {bytes : ByteArray} {As : List Value} {Po' : a_S → Prop} (hM : a_Ct l D ca z0 d' n2 k2 y bytes maxL (.ref b :: As) σ z zf Po') (hd : d' + 1 ≤ R.frames ∧ 60 * d' + 60 ≤ R.locals) (hmx : maxL ≤ 41)
    (hq : (own, index, y) ∈ a_nest) (hw : Cond.instanceMethod y ∈ n_tb ∧ Cond.initialized y.cls ∈ n_tb ∧ Cond.code y bytes maxL none ∈ n_tb) (hnm : y.name = "<init>")
    (hy : (y.cls ≠ "java/lang/invoke/MethodHandle" ∧ y.cls ≠ "java/lang/invoke/VarHandle") ∧ (parseMethodDescriptor y.desc).map (fun d => d.parameters.length) = some np) (hn : As.length = np) (hr : (rest.map fun v => v.category).sum ≤ 8) (hcells : n + n2 ≤ R.cells) (hslots : k + k2 ≤ R.slots) (hdg : decode cc pc = .ok (.invokespecial index, 3))
    (kk : ∀ σ', Po' σ' → ag_W p l e s m args below meth c R Q D z0 (pc + 3) ls rest (σ', zf, n + n2, k + k2)) : ag_W p l e s m args below meth c R Q D z0 pc ls (As.reverse ++ .ref b :: rest) (σ, z, n, k) := by
  refine al_run (fun H locs z3 z2 la => ?_) kk
  by_cases z1 : n_ls c.maxLocals la ls
  · refine Or.inl ?_
    obtain ⟨hx, hb, hml, hown, hts, hrt, hlk, hK, hE, hok⟩ := hC
    have cw : va_CN R s args own index y "ShareMonitor" bytes maxL none (.code y bytes maxL none :: n_tb) (a_rm d' n2 k2) n2 k2 np ∧ y.name = "<init>" ∧ (Cond.instanceMethod y).before args s = true := by
      refine ⟨⟨⟨rfl, rfl, hd.1, ?_, n_wsok hts hw.2.2, List.mem_cons_self⟩, hts _ hw.2.2, hts _ hw.2.1, hy.1, fun sig h => ?_, va_Nw.use rfl (hN0.1 _ hq)⟩, hnm, hts _ hw.1⟩
      · show 8 + (maxL + 11) + 60 * d' ≤ _
        omega
      · have h2 := hy.2
        rw [h] at h2
        exact (Option.some.inj h2).symm
    exact va_runIN (e := e) (below := below) (meth := meth) (locs := locs) (g := F0 m pc la (As.reverse ++ .ref b :: rest)) (rest := rest) (As := As) (b := b) (H := H) ⟨hx, hb, hml, hown, hts⟩ hM cw
      ⟨a_blind _ D ca σ z, fun U hU hW => ⟨rfl, by rw [hU]; exact z2, va_K.moved hW.alike hK, a_N.moved hW hN0⟩⟩ rfl hn (z1.2.1.trans hml) rfl (lv_room hr) hdg ⟨hcells, hslots⟩
  · exact Or.inr z1
theorem a_ofW {z0 d mc ms zf : Nat} {Po : a_S → Prop} {y : MethodName} {bytes : ByteArray} {maxL : Nat} {av : List Value} {z : Nat} (hy : plainName y.cls = true) (hnm : y.name = "<init>") (hlen : (lg_sl av).length ≤ maxL)
    (body : ∀ (p : Program) (e : Env) (s : State) (m : MethodId) (below : List Frame) (meth : Method) (c : Code), a_C p s m av.toArray meth c D ca bytes maxL y.cls → meth.name = "<init>" → a_N s → a_W p l e s m av.toArray below meth c D z0 d mc ms Po zf 0 (n_l0 maxL av) [] (σ, z, 0, 0)) : a_Ct l D ca z0 d mc ms y bytes maxL av σ z zf Po := by
  refine Met.ofW (cc := bytes) (maxL := maxL) (ret := none) hy rfl ?_
  intro p e s m args below meth c s₁ B hml hP
  obtain ⟨rfl, hrep, hK, hN⟩ := hP
  have hts := atoms_spec (ws := .code y bytes maxL none :: n_tb) B.pre
  have hin : meth.name = "<init>" := (name_of_methodNamed B.named B.method).1.trans hnm
  rw [lg_entry_eq]
  exact body p e s m below meth c ⟨B.exec, B.bytes, hml, findClass_of_methodNamed B.named, fun x hx => hts x (List.mem_cons_of_mem _ hx), B.returns, B.notSynchronized, hK, trivial, aw_ok D ca⟩ hin hN s.heap [] _ (by rw [hml]; exact n_ls0 maxL av hlen) ⟨hrep, va_S.rf⟩
end AL
