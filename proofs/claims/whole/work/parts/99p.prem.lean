/-! the first state's premises turned into what the contracts ask -/
section EP
variable {args : Array Value} {s : State} {A : Nat → Prop}
theorem e_OF {t u : Term} {a : Nat} {o n d : String} {v : Value} (ht : t.eval args s none [] s = some (.ref a)) (hf : (Cond.eq (.field t o n d) u).before args s = true) (hu : u.eval args s none [] s = some v) (hA : ∀ a : Nat, a < s.heap.size → ¬ A a) : va_OF o n d v a A s s.heap := by
  have hv := va_eqv hf hu
  cases hfo : s.fieldFound? o n d with
  | none =>
    rw [va_fe ht] at hv
    simp [State.fieldOf?, State.fieldNamed?, hfo] at hv
  | some x =>
    obtain ⟨cf, k, fi, f⟩ := x
    obtain ⟨g1, cell, g2, g3, -, -, g6⟩ := Term.field_spec hfo ht hv
    exact ⟨cf, k, fi, f, cell, hfo, g1, g2, g3, g6, hA _ (Array.getElem?_eq_some_iff.mp g2).1⟩
theorem e_OFv {t : Term} {a : Nat} {o n d : String} {v : Value} (ht : t.eval args s none [] s = some (.ref a)) (hv : (Term.field t o n d).eval args s none [] s = some v) (hA : ∀ a : Nat, a < s.heap.size → ¬ A a) : va_OF o n d v a A s s.heap := by
  cases hfo : s.fieldFound? o n d with
  | none =>
    rw [va_fe ht] at hv
    simp [State.fieldOf?, State.fieldNamed?, hfo] at hv
  | some x =>
    obtain ⟨cf, k, fi, f⟩ := x
    obtain ⟨g1, cell, g2, g3, -, -, g6⟩ := Term.field_spec hfo ht hv
    exact ⟨cf, k, fi, f, cell, hfo, g1, g2, g3, g6, hA _ (Array.getElem?_eq_some_iff.mp g2).1⟩
theorem e_En (hq : ∀ w ∈ e_fl, w.before args s = true) (ht : ∀ w ∈ tables_1, w.before args s = true) (hA : ∀ a : Nat, a < s.heap.size → ¬ A a) : ∃ ae : Nat → Nat, va_En "ShareMonitor$Op" "LShareMonitor$Op;" cE_nm cE_F ae A s s.heap ∧ ∀ i, i < 43 → (e_op i).eval args s none [] s = some (.ref (ae i)) := by
  have h0 : ∀ i : Nat, ∃ t : Nat, i < 43 → (e_op i).eval args s none [] s = some (.ref t) ∧ va_O "ShareMonitor$Op" t A s s.heap := by
    intro i
    by_cases hi : i < 43
    · obtain ⟨a, c, cell, k, q1, q2, q3, q4, q5, q6, -⟩ := Cond.exactly_spec (hq _ (e_m1 i hi))
      exact ⟨a, fun _ => ⟨q1, cell, q3, q5, by rw [q6]; exact q2, hA a (Array.getElem?_eq_some_iff.mp q3).1⟩⟩
    · exact ⟨0, fun h => absurd h hi⟩
  obtain ⟨ad, had⟩ := Classical.axiomOfChoice h0
  have hini : (Cond.initialized "ShareMonitor$Op").before args s = true := ht _ (e_m16 _ (by decide +kernel))
  refine ⟨ad, ⟨fun i hi => ⟨va_Zref (ht _ (e_m14 i hi)) hini (had i hi).1 hA, (had i hi).2, fun q hq2 => ?_⟩, fun i j hi hj e => ?_⟩, fun i hi => (had i hi).1⟩
  · have hm : (Cond.eq (.field (e_op i) q.1 q.2.1 q.2.2.1) (.int (q.2.2.2.getD i 0))).before args s = true := by
      unfold cE_F at hq2
      simp only [List.mem_cons, List.not_mem_nil, or_false] at hq2
      rcases hq2 with rfl | rfl | rfl | rfl
      · exact hq _ (e_m2 i hi)
      · exact hq _ (e_m3 i hi)
      · exact hq _ (e_m4 i hi)
      · exact hq _ (e_m5 i hi)
    obtain ⟨cf, k, fi, f, cell, hfo, g1, g2, g3, g6, g7⟩ := e_OF (A := A) (had i hi).1 hm rfl hA
    exact ⟨cf, k, fi, f, cell, hfo, g1, g2, g3, g6, g7⟩
  · have h1 := va_eqt (hq _ (e_m2 i hi))
    have h2 := va_eqt (hq _ (e_m2 j hj))
    rw [va_fe (had i hi).1] at h1
    rw [va_fe (had j hj).1, ← e, h1] at h2
    have h3 : cE_or.getD i 0 = cE_or.getD j 0 := Value.int.inj (Option.some.inj h2)
    have h4 : ∀ a, a < 43 → ∀ b, b < 43 → cE_or.getD a 0 = cE_or.getD b 0 → a = b := by decide +kernel
    exact h4 i hi j hj h3
theorem e_Zn {C n d : String} (h : va_Zq C n d A s s.heap) : ∃ sf : Nat, va_Z C n d (s_fv sf) A s s.heap := by
  rcases h with h | ⟨t, h⟩
  · exact ⟨0, h⟩
  · exact ⟨t + 1, h⟩
/-- what the class's contracts stand on, with the wide set of cells that may change -/
def eX (z0 : Nat) (ae sk sv : Nat → Nat) (ts ta sf : Nat) (U : State) (H : Heap) : Prop :=
  z0 ≤ H.size ∧ (va_En "ShareMonitor$Op" "LShareMonitor$Op;" cE_nm cE_F ae (a_A z0) U H ∧ va_Z "ShareMonitor$1" "$SwitchMap$ShareMonitor$Op" "[I" (.ref ts) (a_A z0) U H ∧ va_T .int ts 43 (fun j => .int (cE_sw.getD j 0)) (a_A z0) U H) ∧
  (va_Z "ShareMonitor$Op" "ALL" "[LShareMonitor$Op;" (.ref ta) (a_A z0) U H ∧ va_T (.object "ShareMonitor$Op") ta 43 (fun j => .ref (ae j)) (a_A z0) U H ∧ va_Ef 43 "ShareMonitor$Op" "text" "Ljava/lang/String;" (fun k => .ref (sk k)) ae (a_A z0) U H ∧ (∀ i : Nat, i < 43 → va_O "java/lang/String" (sk i) (a_A z0) U H ∧ va_OF "java/lang/String" "coder" "B" (.int 0) (sk i) (a_A z0) U H ∧ va_OF "java/lang/String" "value" "[B" (.ref (sv i)) (sk i) (a_A z0) U H ∧ va_T .byte (sv i) (p_tx i).length (fun j => .int (nI ((p_tx i).getD j 0))) (a_A z0) U H) ∧ va_Z "java/lang/String" "COMPACT_STRINGS" "Z" (.int 1) (a_A z0) U H ∧ va_Z "jdk/internal/util/Preconditions" "SIOOBE_FORMATTER" "Ljava/util/function/BiFunction;" (s_fv sf) (a_A z0) U H) ∧
  xT (a_A z0) U H
end EP
theorem eX_ok {z0 : Nat} {ae sk sv : Nat → Nat} {ts ta sf : Nat} {u U : State} {H H1 : Heap} (hW : u.WarmedH U.vm) (hq : ∀ q : Nat, q < z0 → H1[q]? = H[q]?) (h : eX z0 ae sk sv ts ta sf u H) : eX z0 ae sk sv ts ta sf U H1 := by
  obtain ⟨h0, ⟨c1, c2, c3⟩, ⟨h1, h2, h3, h4, h5, h6⟩, hx⟩ := h
  have hk : ∀ q : Nat, q < H.size → ¬ a_A z0 q → H1[q]? = H[q]? := fun q _ h => hq q (Nat.lt_of_not_le h)
  have hz : z0 ≤ H1.size := by
    by_cases hz : z0 = 0
    · omega
    · have e := hq (z0 - 1) (by omega)
      rw [Array.getElem?_eq_getElem (show z0 - 1 < H.size by omega)] at e
      have := (Array.getElem?_eq_some_iff.mp e).1
      omega
  exact ⟨hz, ⟨(va_En.moved hW.alike c1).kept hk, (va_Z.moved hW.alike c2).kept hk, (va_T.moved hW.alike c3).kept hk⟩, ⟨(va_Z.moved hW.alike h1).kept hk, (va_T.moved hW.alike h2).kept hk, fun i hi => (va_OF.moved hW.alike (h3 i hi)).kept hk, fun i hi => ⟨(va_O.moved hW.alike (h4 i hi).1).kept hk, (va_OF.moved hW.alike (h4 i hi).2.1).kept hk, (va_OF.moved hW.alike (h4 i hi).2.2.1).kept hk, (va_T.moved hW.alike (h4 i hi).2.2.2).kept hk⟩, (va_Z.moved hW.alike h5).kept hk, (va_Z.moved hW.alike h6).kept hk⟩, xT_ok hW hk hx⟩
theorem eX_A {z0 : Nat} : ∀ q, cw_A (c_ad z0) q → a_A z0 q := by
  intro q h
  obtain ⟨κ, i, hd, rfl⟩ := h
  exact (c_inv_ad (b := z0) hd).1
theorem eX_c {z0 : Nat} {ae sk sv : Nat → Nat} {ts ta sf : Nat} {U : State} {H : Heap} (h : eX z0 ae sk sv ts ta sf U H) : cE (c_ad z0) ae ts U H :=
  ⟨h.2.1.1.narrow eX_A, h.2.1.2.1.narrow eX_A, h.2.1.2.2.narrow eX_A⟩
theorem eX_s {z0 : Nat} {ae sk sv : Nat → Nat} {ts ta sf : Nat} {U : State} {H : Heap} (h : eX z0 ae sk sv ts ta sf U H) : sX (c_ad z0) ae sk sv ta sf U H := by
  obtain ⟨h1, h2, h3, h4, h5, h6⟩ := h.2.2.1
  exact ⟨h1.narrow eX_A, h2.narrow eX_A, h3.narrow eX_A, fun i hi => ⟨(h4 i hi).1.narrow eX_A, (h4 i hi).2.1.narrow eX_A, (h4 i hi).2.2.1.narrow eX_A, (h4 i hi).2.2.2.narrow eX_A⟩, h5.narrow eX_A, h6.narrow eX_A⟩
theorem eX_x {z0 : Nat} {ae sk sv : Nat → Nat} {ts ta sf : Nat} {U : State} {H : Heap} (h : eX z0 ae sk sv ts ta sf U H) : xT (cw_A (c_ad z0)) U H :=
  ⟨h.2.2.2.1, h.2.2.2.2.1, h.2.2.2.2.2.1.narrow eX_A, h.2.2.2.2.2.2.narrow eX_A⟩
theorem k_arg {w : Cond} (h : k_kp w = true) {a : Array Value} {s : State} (hb : w.before a s = true) : w.before #[] s = true := by
  unfold k_kp at h
  split at h
  · exact hb
  · exact hb
  · exact hb
  · exact absurd h (by decide)
theorem e_start {args : Array Value} {s : State} (hq : ∀ w ∈ e_fl, w.before args s = true) (ht : ∀ w ∈ tables_1, w.before args s = true) : ∃ (ae sk sv : Nat → Nat) (ts ta sf : Nat), eX s.heap.size ae sk sv ts ta sf s s.heap := by
  have hA : ∀ a : Nat, a < s.heap.size → ¬ a_A s.heap.size a := fun a h => Nat.not_le.mpr h
  obtain ⟨ae, hEn, hev⟩ := e_En (A := a_A s.heap.size) hq ht hA
  obtain ⟨ts, e1, t1⟩ := va_Tof (A := a_A s.heap.size) (N := 43) (f := fun j => .int (cE_sw.getD j 0)) (by decide) (hq _ (e_m15 (Cond.arrayOf (.static "ShareMonitor$1" "$SwitchMap$ShareMonitor$Op" "[I") .int) (by decide +kernel))) (va_eqt (hq _ (e_m15 _ (by decide +kernel)))) (fun j hj => va_eqt (hq _ (e_m7 j hj))) hA
  obtain ⟨ta, e2, t2⟩ := va_Tof (A := a_A s.heap.size) (N := 43) (f := fun j => .ref (ae j)) (by decide) (hq _ (e_m15 (Cond.arrayOf (.static "ShareMonitor$Op" "ALL" "[LShareMonitor$Op;") (.object "ShareMonitor$Op")) (by decide +kernel))) (va_eqt (hq _ (e_m15 _ (by decide +kernel)))) (fun j hj => va_eqv (hq _ (e_m8 j hj)) (hev j hj)) hA
  have h0 : ∀ i : Nat, ∃ q : Nat × Nat, i < 43 → (e_st i).eval args s none [] s = some (.ref q.1) ∧ va_O "java/lang/String" q.1 (a_A s.heap.size) s s.heap ∧ va_OF "java/lang/String" "coder" "B" (.int 0) q.1 (a_A s.heap.size) s s.heap ∧ va_OF "java/lang/String" "value" "[B" (.ref q.2) q.1 (a_A s.heap.size) s s.heap ∧ va_T .byte q.2 (p_tx i).length (fun j => .int (nI ((p_tx i).getD j 0))) (a_A s.heap.size) s s.heap := by
    intro i
    by_cases hi : i < 43
    · obtain ⟨a, c, cell, k, q1, q2, q3, q4, q5, q6, -⟩ := Cond.exactly_spec (hq _ (e_m9 i hi))
      have hl : (p_tx i).length < 2 ^ 31 := by
        have : ∀ i, i < 43 → (p_tx i).length < 2 ^ 31 := by decide +kernel
        exact this i hi
      obtain ⟨t, e3, t3⟩ := va_Tof (A := a_A s.heap.size) (f := fun j => .int (nI ((p_tx i).getD j 0))) hl (hq _ (e_m11 i hi)) (va_eqt (hq _ (e_m12 i hi))) (fun j hj => va_eqt (hq _ (e_m13 i hi j hj))) hA
      exact ⟨(a, t), fun _ => ⟨q1, ⟨cell, q3, q5, by rw [q6]; exact q2, hA a (Array.getElem?_eq_some_iff.mp q3).1⟩, e_OF q1 (hq _ (e_m10 i hi)) rfl hA, e_OFv q1 e3 hA, t3⟩⟩
    · exact ⟨(0, 0), fun h => absurd h hi⟩
  obtain ⟨sp, hsp⟩ := Classical.axiomOfChoice h0
  obtain ⟨sf, hsf⟩ := e_Zn (va_Zqof (A := a_A s.heap.size) (ht _ (e_m16 (Cond.laysStatic "jdk/internal/util/Preconditions" "SIOOBE_FORMATTER" "Ljava/util/function/BiFunction;") (by decide +kernel))) (ht _ (e_m16 _ (by decide +kernel))) (hq _ (e_m15 _ (by decide +kernel))) hA)
  refine ⟨ae, fun i => (sp i).1, fun i => (sp i).2, ts, ta, sf, Nat.le_refl _, ⟨hEn, va_Zref (ht _ (e_m16 _ (by decide +kernel))) (ht _ (e_m16 _ (by decide +kernel))) e1 hA, t1⟩, ⟨va_Zref (ht _ (e_m16 _ (by decide +kernel))) (ht _ (e_m16 _ (by decide +kernel))) e2 hA, t2, fun i hi => e_OF (hev i hi) (hq _ (e_m6 i hi)) (hsp i hi).1 hA, fun i hi => (hsp i hi).2, va_Zof (ht _ (e_m16 _ (by decide +kernel))) (ht _ (e_m16 _ (by decide +kernel))) (va_eqi (hq _ (e_m15 _ (by decide +kernel)))) hA, hsf⟩, fun w hw => k_arg (List.all_eq_true.mp k_cw_kp w hw) (ht _ (e_m17 w hw)), fun q hq2 => k_arg rfl (ht _ (e_m18 q hq2)), ?_, ?_⟩
  · exact vx_Zqof (ht _ (e_m16 _ (by decide +kernel))) (ht _ (e_m16 _ (by decide +kernel))) (hq _ (e_m15 _ (by decide +kernel))) hA
  · exact vx_Zqof (ht _ (e_m16 _ (by decide +kernel))) (ht _ (e_m16 _ (by decide +kernel))) (hq _ (e_m15 _ (by decide +kernel))) hA
theorem e_hX {args : Array Value} {s : State} (hq : ∀ w ∈ e_fl, w.before args s = true) (ht : ∀ w ∈ tables_1, w.before args s = true) : h_X s :=
  ⟨fun E hE => va_Nw.of rfl (ht _ (e_m19 E hE)), fun E hE F hF hn => va_Nc.of (hq _ (e_m20 E hE F hF hn))⟩
theorem e_aN {args : Array Value} {s : State} (ht : ∀ w ∈ tables_1, w.before args s = true) : a_N s :=
  ⟨fun q hq => va_Nw.of rfl (ht _ (e_m21 q hq)), fun C hC => a_over (Vm.Alike.refl s.vm) (ht _ (e_m22 C hC))⟩
theorem e_ty {args : Array Value} {s : State} {ty : FieldType} (hno : ∀ C, ty ≠ .object C) (h : (Cond.arrayClass ty).before args s = true) : ∃ cA : ClassId, ArrOfT s cA ty ∧ va_RA s cA ty := by
  obtain ⟨c, k, comp, h1, h2, h3⟩ := Cond.arrayClass_spec h
  refine ⟨c, fun n z => ⟨fun k h => (by cases h), k, h2, comp, h3⟩, ?_⟩
  unfold va_RA
  split
  · exact absurd rfl (hno _)
  · exact h1
theorem e_tyo {args : Array Value} {s : State} {C : String} (h : (Cond.arrayOver (.object C)).before args s = true) : ∃ cA : ClassId, ArrOfT s cA (.object C) ∧ va_RA s cA (.object C) := by
  obtain ⟨comp, c, k, h1, h2, h3, h4, h5⟩ := Cond.arrayOver_spec h
  exact ⟨c, fun n z => ⟨fun k h => (by cases h), k, h3, comp, h4⟩, k, comp, h3, h4, h1, h5⟩
theorem e_K {args : Array Value} {s : State} (hts : ∀ w ∈ n_tb, w.before args s = true) (hN : a_N s) : ∃ (D : va_G) (ca : Nat → ClassId), va_K D n_cls (n_tys ca) s := by
  have h1 : ∀ k : Nat, ∃ q : ClassId × (Nat → Nat), ∀ r : vw_C, n_cls[k]? = some r → u_Kn s r.1 r.2.1 r.2.2 q.1 q.2 := by
    intro k
    by_cases hk : k < 11
    · have hi : ∃ r : vw_C, n_cls[k]? = some r ∧ Cond.instantiable r.1 r.2.2 ∈ n_tb := by
        match k, hk with
        | 0, _ => exact ⟨_, rfl, wn_X1⟩
        | 1, _ => exact ⟨_, rfl, wn_X2⟩
        | 2, _ => exact ⟨_, rfl, wn_X3⟩
        | 3, _ => exact ⟨_, rfl, wn_X5⟩
        | 4, _ => exact ⟨_, rfl, wn_X6⟩
        | 5, _ => exact ⟨_, rfl, wn_X7⟩
        | 6, _ => exact ⟨_, rfl, wn_X8⟩
        | 7, _ => exact ⟨_, rfl, wn_X9⟩
        | 8, _ => exact ⟨_, rfl, wn_X10⟩
        | 9, _ => exact ⟨_, rfl, wn_X11⟩
        | 10, _ => exact ⟨_, rfl, wn_X12⟩
        | j + 11, h => exact absurd h (by omega)
      obtain ⟨r, hr, hw⟩ := hi
      obtain ⟨cC, iS, hKn⟩ := u_known (T := r.2.1) (N := r.2.2) hts (n_clk k r hr).1 (hts _ hw)
      exact ⟨(cC, iS), fun r' hr' => by cases Option.some.inj (hr.symm.trans hr'); exact hKn⟩
    · exact ⟨(0, fun _ => 0), fun r hr => absurd (List.getElem?_eq_some_iff.mp hr).1 (by show ¬ k < 11; exact hk)⟩
  obtain ⟨f, hf⟩ := Classical.axiomOfChoice h1
  obtain ⟨c0, p0⟩ := e_ty (by intro C h; cases h) (hts _ wa_int)
  obtain ⟨c1, p1⟩ := e_ty (by intro C h; cases h) (hts _ wa_byte)
  obtain ⟨c2, p2⟩ := e_ty (by intro C h; cases h) (hts _ wa_long)
  obtain ⟨c3, p3⟩ := e_ty (by intro C h; cases h) (hts _ wa_boolean)
  obtain ⟨c4, p4⟩ := e_tyo (hN.2 "ShareMonitor$UserProcess" (by decide))
  obtain ⟨c5, p5⟩ := e_tyo (hN.2 "ShareMonitor$Program" (by decide))
  obtain ⟨c6, p6⟩ := e_tyo (hN.2 "ShareMonitor$Row" (by decide))
  obtain ⟨c7, p7⟩ := e_tyo (hN.2 "ShareMonitor$Op" (by decide))
  refine ⟨(fun k => (f k).1, fun k => (f k).2), fun k => match k with | 0 => c0 | 1 => c1 | 2 => c2 | 3 => c3 | 4 => c4 | 5 => c5 | 6 => c6 | _ => c7, fun k q hq => hf k q hq, fun k q hk => ?_⟩
  match k, hk with
  | 0, h => cases h; exact p0
  | 1, h => cases h; exact p1
  | 2, h => cases h; exact p2
  | 3, h => cases h; exact p3
  | 4, h => cases h; exact p4
  | 5, h => cases h; exact p5
  | 6, h => cases h; exact p6
  | 7, h => cases h; exact p7
  | j + 8, h => exact absurd h (by show ¬ ([] : List (ClassId × FieldType))[j]? = some q; simp)
