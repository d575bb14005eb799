theorem m_mg_w {P : List Nat × List Int32} {n : Nat} {o : Int32} (hl : P.1.length = P.2.length) (hp : ∀ x ∈ P.1, 1 ≤ x) (hn : 1 ≤ n) : (m_mg P n o).1.length = (m_mg P n o).2.length ∧ (∀ x ∈ (m_mg P n o).1, 1 ≤ x) ∧ (m_mg P n o).1.sum = P.1.sum + n := by
  unfold m_mg
  by_cases h : o = 0 ∧ P.2.getLast? = some 0
  · rw [if_pos h]
    have hne : P.1 ≠ [] := by
      intro z
      rw [z] at hl
      have : P.2 = [] := List.eq_nil_of_length_eq_zero hl.symm
      rw [this] at h
      simp at h
    obtain ⟨t, b, e⟩ : ∃ t b, P.1 = t ++ [b] := ⟨P.1.dropLast, P.1.getLast hne, (List.dropLast_concat_getLast hne).symm⟩
    rw [e] at hl hp ⊢
    refine ⟨by simp at hl ⊢; omega, fun x hx => ?_, by simp; omega⟩
    simp at hx
    rcases hx with hx | hx
    · exact hp x (by simp [hx])
    · omega
  · rw [if_neg h]
    refine ⟨by simp [hl], fun x hx => ?_, by simp⟩
    simp at hx
    rcases hx with hx | hx
    · exact hp x hx
    · omega
theorem m_mgs_w : ∀ (ns : List Nat) (os : List Int32) (P : List Nat × List Int32), ns.length = os.length → (∀ x ∈ ns, 1 ≤ x) → P.1.length = P.2.length → (∀ x ∈ P.1, 1 ≤ x) → (m_mgs ns os P).1.length = (m_mgs ns os P).2.length ∧ (∀ x ∈ (m_mgs ns os P).1, 1 ≤ x) ∧ (m_mgs ns os P).1.sum = P.1.sum + ns.sum
  | [], [], P, _, _, h1, h2 => ⟨h1, h2, by simp [m_mgs]⟩
  | [], _ :: _, _, e, _, _, _ => by simp at e
  | _ :: _, [], _, e, _, _, _ => by simp at e
  | n :: ns, o :: os, P, e, hn, h1, h2 => by
    obtain ⟨g1, g2, g3⟩ := m_mg_w (o := o) h1 h2 (hn n (by simp))
    obtain ⟨k1, k2, k3⟩ := m_mgs_w ns os (m_mg P n o) (by simpa using e) (fun x hx => hn x (by simp [hx])) g1 g2
    show (m_mgs ns os (m_mg P n o)).1.length = (m_mgs ns os (m_mg P n o)).2.length ∧ (∀ x ∈ (m_mgs ns os (m_mg P n o)).1, 1 ≤ x) ∧ (m_mgs ns os (m_mg P n o)).1.sum = _
    exact ⟨k1, k2, by rw [k3, g3, List.sum_cons]; omega⟩
theorem IB_mem (M : n_M) {ns : List Nat} {os : List Int32} (h : m_bw ns os) : IB (m_mem M ns os) := by
  have hb := m_isB_mem M h
  obtain ⟨e1, e2⟩ := hb.ns
  unfold IB
  rw [e1, e2]
  exact hb
theorem IB_free {M : n_M} (h : IB M) (o x : Int32) : IB (m_free M o x) := by
  obtain ⟨⟨b1, b2, b3⟩, -⟩ := h
  unfold m_free
  have hl := m_frlen o x (m_nsl M) (M.2 11 0) 0 b1
  obtain ⟨k1, k2, k3⟩ := m_mgs_w (m_nsl M) (m_fr o x (m_nsl M) (M.2 11 0) 0) ([], []) (by omega) b2 rfl (by simp)
  exact IB_mem M ⟨k1, k2, by rw [k3, b3]; rfl⟩
theorem IB_own1 {M : n_M} (h : IB M) {j : Nat} (hj : j < (m_nsl M).length) (o : Int32) : IB (m_own1 M j o) := by
  obtain ⟨⟨b1, b2, b3⟩, -⟩ := h
  exact IB_mem M ⟨by simp; omega, b2, b3⟩
theorem m_fl_n {M : n_M} {c a b c' i : Nat} {v : Int32} (h : c' ≠ c) : (m_fl M c a b v).1 c' i = M.1 c' i := if_neg (fun z : c' = c ∧ a ≤ i ∧ i < b => h z.1)
theorem IB_cut {M : n_M} (N : n_M) (h : IB M) {j n : Nat} {o : Int32} (hf : m_fst (m_nsl M) (M.2 11 0) n j) (hn : 1 ≤ n) : IB (m_cut N (m_nsl M) (M.2 11 0) j n o) := by
  obtain ⟨hj, -, h2, -⟩ := hf
  unfold m_cut
  refine IB_cong (IB_mem N (m_xbw h.1 hj hn h2 o)) (fun k => ?_) (fun k => ?_) rfl rfl
  · exact m_fl_n (by decide)
  · exact m_fl_n (by decide)
theorem m_mem_s {M : n_M} {ns : List Nat} {os : List Int32} {c i : Nat} (h : c ≠ 11 ∧ c ≠ 13) : (m_mem M ns os).1 c i = M.1 c i := by
  show (if c = 11 then _ else if c = 13 then _ else M.1 c i) = M.1 c i
  rw [if_neg h.1, if_neg h.2]
theorem m_mem_l {M : n_M} {ns : List Nat} {os : List Int32} {c i : Nat} (h : c ≠ 10 ∧ c ≠ 11) : (m_mem M ns os).2 c i = M.2 c i := by
  show (if c = 10 ∧ i = 0 then _ else if c = 11 ∧ i = 0 then _ else M.2 c i) = M.2 c i
  rw [if_neg (fun z => h.1 z.1), if_neg (fun z => h.2 z.1)]
theorem II_free {M : n_M} (h : II M) (o x : Int32) : II (m_free M o x) := II_mem h (IB_free h.2.1 o x) (fun c i _ a b => m_mem_s ⟨a, b⟩) (fun c i a b => m_mem_l ⟨a, b⟩)
theorem II_own1 {M : n_M} (h : II M) {j : Nat} (hj : j < (m_nsl M).length) (o : Int32) : II (m_own1 M j o) := II_mem h (IB_own1 h.2.1 hj o) (fun c i _ a b => m_mem_s ⟨a, b⟩) (fun c i a b => m_mem_l ⟨a, b⟩)
theorem m_cut_s {M : n_M} {ns : List Nat} {os : List Int32} {j n c i : Nat} {o : Int32} (h : c ≠ 10 ∧ c ≠ 11 ∧ c ≠ 13) : (m_cut M ns os j n o).1 c i = M.1 c i := by
  show (if c = 10 ∧ _ then _ else (m_mem M _ _).1 c i) = _
  rw [if_neg (fun z => h.1 z.1), m_mem_s h.2]
theorem m_cut_l {M : n_M} {ns : List Nat} {os : List Int32} {j n c i : Nat} {o : Int32} (h : c ≠ 10 ∧ c ≠ 11) : (m_cut M ns os j n o).2 c i = M.2 c i := m_mem_l h
theorem II_cut {M : n_M} (h : II M) {j n : Nat} {o : Int32} (hf : m_fst (m_nsl M) (M.2 11 0) n j) (hn : 1 ≤ n) : II (m_cut M (m_nsl M) (M.2 11 0) j n o) := II_mem h (IB_cut M h.2.1 hf hn) (fun c i a b e => m_cut_s ⟨a, b, e⟩) (fun c i a b => m_cut_l ⟨a, b⟩)
theorem m_K0_l {M : n_M} {q c i : Nat} (h : ¬ (i = q ∧ c ≤ 1) ∧ ¬ ((i = 2 * q ∨ i = 2 * q + 1) ∧ (c = 2 ∨ c = 3))) (h5 : c ≠ 5 ∧ c ≠ 10 ∧ c ≠ 11) : (m_K M q 0).2 c i = M.2 c i := by
  show (m_emp (m_outs q 11 (m_free M (nI q) (-1))) q).2 c i = _
  rw [m_emp_l h, m_outs_l, if_neg (fun z => h5.1 z.1)]
  exact m_mem_l h5.2
theorem IW_f0 {M : n_M} (h : II M) {q : Nat} (hq : n_V q) (ha : m_al M q) (v : Int32) : IW (m_f0 M q v) := by
  rw [m_f0_K]
  obtain ⟨s0, s7⟩ := m_al_st ha
  have hs : ∀ c i, ¬ (i = q ∧ (c = 0 ∨ c = 1 ∨ c = 5 ∨ c = 7 ∨ c = 8)) → c ≠ 11 → c ≠ 13 → (m_s (m_s (m_K M q 0) 0 q 7) 1 q v).1 c i = M.1 c i := fun c i h1 h2 h3 => by rw [ms_n (by omega), ms_n (by omega), m_K0_s (by omega) (by omega)]
  have hl : ∀ c i, ¬ (i = q ∧ c ≤ 1) ∧ ¬ ((i = 2 * q ∨ i = 2 * q + 1) ∧ (c = 2 ∨ c = 3)) → (c ≠ 5 ∧ c ≠ 10 ∧ c ≠ 11) → (m_s (m_s (m_K M q 0) 0 q 7) 1 q v).2 c i = M.2 c i := fun c i h1 h2 => m_K0_l h1 h2
  have hf := II_free h (nI q) (-1)
  refine ⟨?_, ?_, fun p hp => ?_, fun i hi => ?_, fun i hi hu => ?_⟩
  · exact IR_s (m_K_facts h.1 h.w.ip hq (h.pn hq) 0 (by omega)).1 (by omega)
  · refine IB_cong hf.2.1 (fun k => ?_) (fun k => ?_) ?_ ?_
    · rw [ms_n (by omega), ms_n (by omega)]
      show (m_emp (m_outs q 11 (m_free M (nI q) (-1))) q).1 11 k = _
      rw [m_emp_s (by omega), m_outs_s]
    · rw [ms_n (by omega), ms_n (by omega)]
      show (m_emp (m_outs q 11 (m_free M (nI q) (-1))) q).1 13 k = _
      rw [m_emp_s (by omega), m_outs_s]
    · show (m_emp (m_outs q 11 (m_free M (nI q) (-1))) q).2 10 0 = _
      rw [m_emp_l (by omega), m_outs_l, if_neg (by omega)]
    · show (m_emp (m_outs q 11 (m_free M (nI q) (-1))) q).2 11 0 = _
      rw [m_emp_l (by omega), m_outs_l, if_neg (by omega)]
  · by_cases e : p = q
    · rw [e]
      have e0 : (m_s (m_s (m_K M q 0) 0 q 7) 1 q v).1 0 q = 7 := by rw [ms_n (by omega), ms_e]
      have hc : m_clean (m_s (m_s (m_K M q 0) 0 q 7) 1 q v) q := by
        obtain ⟨c1, c2, c3, c4, c5, c6, c7, c8, c9⟩ := m_emp_c (m_outs q 11 (m_free M (nI q) (-1))) q
        refine ⟨c1, c2, c3, c4, c5, c6, ?_, ?_, ?_⟩
        · rw [ms_n (by omega), ms_n (by omega)]; exact c7
        · rw [ms_n (by omega), ms_n (by omega)]; exact c8
        · rw [ms_n (by omega), ms_n (by omega)]; exact c9
      refine ⟨⟨7, by omega, e0⟩, fun z => ?_, fun _ => hc, fun _ => ?_, fun z => ?_⟩
      · rw [e0] at z; exact absurd z (by decide)
      · obtain ⟨i, hi, x1, x2, x3⟩ := (h.2.2.1 q hq).2.2.2.1 s0
        obtain ⟨c1, c2, c3, c4, c5, c6, c7, -⟩ := hc
        exact ⟨i, hi, by rw [hs 4 q (by omega) (by omega) (by omega)]; exact x1, by rw [c7]; exact ⟨0, by omega, rfl⟩, by rw [c2]; intro x hx; simp at hx⟩
      · rw [e0] at z; exact absurd z (by decide)
    · refine m_one_eqp (h.2.2.1 p hp) ⟨fun c _ => hs c p (by omega) (by omega) (by omega), fun c _ => hl c p (by omega) (by omega), fun c _ _ => ⟨hl c _ (by omega) (by omega), hl c _ (by omega) (by omega)⟩⟩ (fun i _ => hl 12 i (by omega) (by omega)) (hs 15 0 (by omega) (by omega) (by omega)) ?_
      rw [hs 19 0 (by omega) (by omega) (by omega)]
      exact Int32.le_refl _
  · rw [hs 12 i (by omega) (by omega) (by omega), h.2.2.2.2.1 i hi, m_cnt_cong 12 (fun p _ _ => hs 4 p (by omega) (by omega) (by omega))]
  · have := h.2.2.2.2.2 i hi (by rw [← hs 12 i (by omega) (by omega) (by omega)]; exact hu)
    unfold m_prg at this ⊢
    rw [hl 12 i (by omega) (by omega), hl 13 i (by omega) (by omega)]
    exact this
/-- parents while the children of q are gone through -/
def m_parx (M : n_M) (q n p : Nat) : Prop := m_par M p ∨ (n < p ∧ p ≠ q ∧ M.1 3 p = nI q)
theorem IW_3 {M : n_M} (h : IW M) (p : Nat) : IW (m_s M 3 p 0) := by
  obtain ⟨i1, i2, i3, i5, i6⟩ := h
  refine ⟨IR_s i1 (by omega), IB_s i2 (by omega), fun r hr => ?_, fun i hi => ?_, fun i hi hu => i6 i hi hu⟩
  · obtain ⟨g1, g2, g3, g4, g5⟩ := i3 r hr
    refine ⟨g1, fun z => ?_, g3, g4, g5⟩
    obtain ⟨z1, z2, z3, z4, z5⟩ := g2 z
    refine ⟨z1, z2, z3, ?_, z5⟩
    by_cases e : r = p
    · rw [e, ms_e]
    · rw [ms_n (by omega)]; exact z4
  · rw [ms_n (by omega), i5 i hi, m_cnt_cong 12 (fun p _ _ => ms_n (by omega))]
theorem II_kids {M : n_M} {q : Nat} (hq : n_V q) (hpq : M.1 3 q ≠ nI q) : ∀ n, n ≤ 12 → IW M → M.1 0 q = 7 → (∀ p, n_V p → m_parx M q 0 p) → IW (m_kids q n M) ∧ (m_kids q n M).1 0 q = 7 ∧ (∀ p, n_V p → m_parx (m_kids q n M) q n p)
  | 0, _, h, h7, hp => ⟨h, h7, hp⟩
  | n + 1, hn, h, h7, hp => by
    obtain ⟨w, k7, kp⟩ := II_kids hq hpq n (by omega) h h7 hp
    have k3 := m_kids_3 hpq n
    show IW (m_kid1 (m_kids q n M) q (n + 1)) ∧ (m_kid1 (m_kids q n M) q (n + 1)).1 0 q = 7 ∧ ∀ p, n_V p → m_parx (m_kid1 (m_kids q n M) q (n + 1)) q (n + 1) p
    rw [← k3] at hpq
    clear k3 h h7 hp
    generalize m_kids q n M = K at w k7 kp hpq ⊢
    have hv : n_V (n + 1) := ⟨by omega, hn⟩
    unfold m_kid1
    by_cases e : K.1 3 (n + 1) = nI q
    · have hne : n + 1 ≠ q := fun z => hpq (by rw [z] at e; exact e)
      have hnal : ¬ m_al K q := fun z => (m_al_st z).2 k7
      rw [if_pos e]
      have w3 := IW_3 w (n + 1)
      have p3 : ∀ p, n_V p → m_parx (m_s K 3 (n + 1) 0) q (n + 1) p := by
        intro p hp
        by_cases ep : p = n + 1
        · exact Or.inl (Or.inl (by rw [ep, ms_e]))
        · have e3 : (m_s K 3 (n + 1) 0).1 3 p = K.1 3 p := ms_n (by omega)
          rcases kp p hp with (g | ⟨r, g1, g2, g3, g4, g5⟩) | ⟨g1, g2, g3⟩
          · exact Or.inl (Or.inl (e3.trans g))
          · refine Or.inl (Or.inr ⟨r, g1, g2, e3.trans g3, g4, ?_⟩)
            by_cases er : r = n + 1
            · rw [er, ms_e]
              exact fun z => nI_ne0 (by have := hp.1; omega) (by have := hp.2; omega) z.symm
            · rw [ms_n (by omega)]; exact g5
          · exact Or.inr ⟨by omega, g2, e3.trans g3⟩
      by_cases e7 : K.1 0 (n + 1) = 7
      · rw [if_pos e7]
        refine ⟨IW_van w3 hv e7, by rw [m_van_o (by omega) (fun z => hne z.symm)]; exact k7, fun p hp => ?_⟩
        have hnal2 : ¬ m_al (m_s K 3 (n + 1) 0) (n + 1) := fun z => (m_al_st z).2 e7
        generalize m_s K 3 (n + 1) 0 = K3 at p3 hnal2 ⊢
        by_cases ep : p = n + 1
        · exact Or.inl (Or.inl (by rw [ep]; exact (m_van_p K3 (n + 1)).2.2.2.1))
        · have e3 : (m_van K3 (n + 1)).1 3 p = K3.1 3 p := m_van_o (by omega) ep
          rcases p3 p hp with (g | ⟨r, g1, g2, g3, g4, g5⟩) | ⟨g1, g2, g3⟩
          · exact Or.inl (Or.inl (e3.trans g))
          · have er : r ≠ n + 1 := fun z => hnal2 (by rw [← z]; exact g4)
            refine Or.inl (Or.inr ⟨r, g1, g2, e3.trans g3, ?_, by rw [m_van_o (by omega) er]; exact g5⟩)
            unfold m_al
            rw [m_van_o (by omega) er]
            exact g4
          · exact Or.inr ⟨g1, g2, e3.trans g3⟩
      · rw [if_neg e7]
        exact ⟨w3, k7, p3⟩
    · rw [if_neg e]
      refine ⟨w, k7, fun p hp => ?_⟩
      rcases kp p hp with g | ⟨g1, g2, g3⟩
      · exact Or.inl g
      · refine Or.inr ⟨?_, g2, g3⟩
        have : p ≠ n + 1 := fun z => e (by rw [z] at g3; exact g3)
        omega
theorem II_fin1 {M : n_M} (h : II M) {q : Nat} (hq : n_V q) (ha : m_al M q) (v : Int32) : II (m_fin1 M q v) ∧ (m_fin1 M q v).1 0 q = 7 := by
  rw [m_fin1_f0 (h.pn hq)]
  have w := IW_f0 h hq ha v
  have e0 : (m_f0 M q v).1 0 q = 7 := by rw [m_f0_K, ms_n (by omega), ms_e]
  have e3 : ∀ p, (m_f0 M q v).1 3 p = M.1 3 p := fun p => by rw [m_f0_K, ms_n (by omega), ms_n (by omega), m_K0_s (by omega) (by omega)]
  have e0' : ∀ p, p ≠ q → (m_f0 M q v).1 0 p = M.1 0 p := fun p hp => by rw [m_f0_K, ms_n (by omega), ms_n (by omega), m_K0_s (by omega) (by omega)]
  have hp : ∀ p, n_V p → m_parx (m_f0 M q v) q 0 p := by
    intro p hp
    rcases h.2.2.2.1 p hp with g | ⟨r, g1, g2, g3, g4, g5⟩
    · exact Or.inl (Or.inl ((e3 p).trans g))
    · by_cases er : r = q
      · rw [er] at g2 g3
        exact Or.inr ⟨by have := hp.1; omega, fun z => g2 z.symm, (e3 p).trans g3⟩
      · refine Or.inl (Or.inr ⟨r, g1, g2, (e3 p).trans g3, ?_, by rw [e3]; exact g5⟩)
        unfold m_al
        rw [e0' r er]
        exact g4
  obtain ⟨k1, k2, k3⟩ := II_kids hq (by rw [e3]; exact h.pn hq) 12 (Nat.le_refl _) w e0 hp
  refine ⟨k1.ii (fun p hp => ?_), k2⟩
  rcases k3 p hp with g | ⟨g1, -⟩
  · exact g
  · have := hp.2
    omega
theorem m_st3_al {M : n_M} {p : Nat} (h : M.1 0 p = 3) : m_al M p := by unfold m_al; rw [h]; decide
theorem II_fin {M : n_M} (h : II M) {q : Nat} (hq : n_V q) (ha : m_al M q) (v : Int32) : II (m_fin M q v) := by
  obtain ⟨g, -⟩ := II_fin1 h hq ha v
  unfold m_fin
  by_cases e : M.1 3 q ≠ 0 ∧ (m_fin1 M q v).1 0 (m_up M q) = 3 ∧ (m_fin1 M q v).1 7 (m_up M q) = nI q
  · rw [if_pos e]
    have hu : n_V (m_up M q) := by
      rcases h.pr hq with z | ⟨r, r1, r2, r3⟩
      · exact absurd z e.1
      · unfold m_up
        rw [r3, nI_clamp (by have := r1.2; omega)]
        exact r1
    exact II_rdy g hu (m_st3_al e.2.1) (by rw [e.2.1]; decide)
  · rw [if_neg e]
    exact g
