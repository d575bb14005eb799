theorem ms_c (M : n_M) {c i c' i' : Nat} (v v' : Int32) (h : ¬ (c' = c ∧ i' = i)) : m_s (m_s M c i v) c' i' v' = m_s (m_s M c' i' v') c i v := by
  unfold m_s
  congr 1
  funext a b
  dsimp only
  by_cases h1 : a = c ∧ b = i
  · by_cases h2 : a = c' ∧ b = i'
    · exact absurd ⟨h2.1.symm.trans h1.1, h2.2.symm.trans h1.2⟩ h
    · rw [if_pos h1, if_neg h2, if_pos h1]
  · by_cases h2 : a = c' ∧ b = i'
    · simp only [if_neg h1, if_pos h2]
    · simp only [if_neg h1, if_neg h2]
theorem ml_c (M : n_M) {c i c' i' : Nat} (v v' : List Int32) (h : ¬ (c' = c ∧ i' = i)) : m_l (m_l M c i v) c' i' v' = m_l (m_l M c' i' v') c i v := by
  unfold m_l
  congr 1
  funext a b
  dsimp only
  by_cases h1 : a = c ∧ b = i
  · by_cases h2 : a = c' ∧ b = i'
    · exact absurd ⟨h2.1.symm.trans h1.1, h2.2.symm.trans h1.2⟩ h
    · rw [if_pos h1, if_neg h2, if_pos h1]
  · by_cases h2 : a = c' ∧ b = i'
    · simp only [if_neg h1, if_pos h2]
    · simp only [if_neg h1, if_neg h2]
theorem msl_c (M : n_M) (c i c' i' : Nat) (v : Int32) (l : List Int32) : m_l (m_s M c i v) c' i' l = m_s (m_l M c' i' l) c i v := rfl
theorem m_emp_sc {M : n_M} {p c q : Nat} {x : Int32} (h : q ≠ p) : m_emp (m_s M c q x) p = m_s (m_emp M p) c q x := by
  unfold m_emp
  rw [msl_c, msl_c, msl_c, msl_c, msl_c, msl_c, ms_c (c := c) (i := q) (c' := 5) _ _ _ (by omega), ms_c (c := c) (i := q) (c' := 8) _ _ _ (by omega), ms_c (c := c) (i := q) (c' := 7) _ _ _ (by omega)]
theorem m_usr_sc {M : n_M} {p c q : Nat} {x : Int32} (h : q ≠ p) (hc : c ≠ 12) : m_usr (m_s M c q x) p = m_s (m_usr M p) c q x := by
  unfold m_usr m_pi
  rw [ms_n (by omega)]
  by_cases e : M.1 4 p = 0
  · rw [if_pos e, if_pos e]
  · rw [if_neg e, if_neg e, ms_n (by omega), ms_c _ _ _ (by omega)]
theorem m_van_sc {M : n_M} {p c q : Nat} {x : Int32} (h : q ≠ p) (hc : c ≠ 12) : m_van (m_s M c q x) p = m_s (m_van M p) c q x := by
  unfold m_van
  rw [m_emp_sc h, m_usr_sc h hc, ms_c (c := c) (i := q) (c' := 4) _ _ _ (by omega), ms_c (c := c) (i := q) (c' := 0) _ _ _ (by omega), ms_c (c := c) (i := q) (c' := 1) _ _ _ (by omega), ms_c (c := c) (i := q) (c' := 2) _ _ _ (by omega), ms_c (c := c) (i := q) (c' := 3) _ _ _ (by omega), ms_c (c := c) (i := q) (c' := 6) _ _ _ (by omega)]
theorem m_kid1_sc {M : n_M} {q p c : Nat} {x : Int32} (hc : c = 0 ∨ c = 1) (hp : M.1 3 q ≠ nI q) : m_kid1 (m_s M c q x) q p = m_s (m_kid1 M q p) c q x := by
  unfold m_kid1
  rw [ms_n (by omega)]
  by_cases e : M.1 3 p = nI q
  · have hne : p ≠ q := fun z => hp (by rw [z] at e; exact e)
    rw [if_pos e, if_pos e, ms_n (by omega)]
    by_cases e7 : M.1 0 p = 7
    · rw [if_pos e7, if_pos e7, ms_c _ _ _ (by omega), m_van_sc (fun z => hne z.symm) (by omega)]
    · rw [if_neg e7, if_neg e7, ms_c _ _ _ (by omega)]
  · rw [if_neg e, if_neg e]
theorem m_kid1_3 {M : n_M} {q p : Nat} (hp : M.1 3 q ≠ nI q) : (m_kid1 M q p).1 3 q = M.1 3 q := by
  unfold m_kid1
  by_cases e : M.1 3 p = nI q
  · have hne : p ≠ q := fun z => hp (by rw [z] at e; exact e)
    rw [if_pos e]
    by_cases e7 : M.1 0 p = 7
    · rw [if_pos e7, m_van_o (by omega) (fun z => hne z.symm), ms_n (by omega)]
    · rw [if_neg e7, ms_n (by omega)]
  · rw [if_neg e]
theorem m_kids_3 {M : n_M} {q : Nat} (hp : M.1 3 q ≠ nI q) : ∀ n, (m_kids q n M).1 3 q = M.1 3 q
  | 0 => rfl
  | n + 1 => by
    show (m_kid1 (m_kids q n M) q (n + 1)).1 3 q = _
    rw [m_kid1_3 (by rw [m_kids_3 hp n]; exact hp), m_kids_3 hp n]
theorem m_kids_sc {M : n_M} {q c : Nat} {x : Int32} (hc : c = 0 ∨ c = 1) (hp : M.1 3 q ≠ nI q) : ∀ n, m_kids q n (m_s M c q x) = m_s (m_kids q n M) c q x
  | 0 => rfl
  | n + 1 => by
    show m_kid1 (m_kids q n (m_s M c q x)) q (n + 1) = m_s (m_kid1 (m_kids q n M) q (n + 1)) c q x
    rw [m_kids_sc hc hp n, m_kid1_sc hc (by rw [m_kids_3 hp n]; exact hp)]
/-- the finish up to its children, with the status set before them -/
def m_f0 (M : n_M) (q : Nat) (v : Int32) : n_M := m_s (m_s (m_emp (m_outs q 11 (m_free M (nI q) (-1))) q) 0 q 7) 1 q v
theorem m_f0_K (M : n_M) (q : Nat) (v : Int32) : m_f0 M q v = m_s (m_s (m_K M q 0) 0 q 7) 1 q v := rfl
theorem m_fin1_f0 {M : n_M} {q : Nat} {v : Int32} (hp : M.1 3 q ≠ nI q) : m_fin1 M q v = m_kids q 12 (m_f0 M q v) := by
  have h3 : (m_K M q 0).1 3 q = M.1 3 q := m_K0_s (by omega) (by omega)
  rw [m_f0_K, m_kids_sc (Or.inr rfl) (by rw [ms_n (by omega), h3]; exact hp), m_kids_sc (Or.inl rfl) (by rw [h3]; exact hp)]
  rfl
def IW (M : n_M) : Prop := IR M ∧ IB M ∧ (∀ p, n_V p → m_one M p) ∧ (∀ i, i < 12 → M.1 12 i = nI (m_cnt M i 12)) ∧ ∀ i, i < 12 → 0 < M.1 12 i → m_prg M i
theorem II.w {M : n_M} (h : II M) : IW M := ⟨h.1, h.2.1, h.2.2.1, h.2.2.2.2.1, h.2.2.2.2.2⟩
theorem IW.ii {M : n_M} (h : IW M) (hp : ∀ p, n_V p → m_par M p) : II M := ⟨h.1, h.2.1, h.2.2.1, hp, h.2.2.2.1, h.2.2.2.2⟩
theorem IW.ip {M : n_M} (h : IW M) : IP M := by
  intro r hr
  obtain ⟨-, g2, -, g4, -⟩ := h.2.2.1 r hr
  by_cases e : M.1 0 r = 0
  · exact Or.inl (g2 e).1
  · obtain ⟨i, hi, x, -⟩ := g4 e
    exact Or.inr ⟨i, hi, x⟩
theorem II.pr {M : n_M} (h : II M) {q : Nat} (hq : n_V q) : M.1 3 q = 0 ∨ ∃ r, n_V r ∧ r ≠ q ∧ M.1 3 q = nI r := by
  rcases h.2.2.2.1 q hq with g | ⟨r, g1, g2, g3, -⟩
  · exact Or.inl g
  · exact Or.inr ⟨r, g1, g2, g3⟩
theorem II.pn {M : n_M} (h : II M) {q : Nat} (hq : n_V q) : M.1 3 q ≠ nI q := by
  rcases h.pr hq with g | ⟨r, g1, g2, g3⟩
  · rw [g]; exact fun z => nI_ne0 (by have := hq.1; omega) (by have := hq.2; omega) z.symm
  · rw [g3]; exact fun z => g2 (nV_inj g1 hq z)
theorem m_cnt_off {M M' : n_M} {p : Nat} (i : Nat) (h : ∀ r, r ≠ p → M'.1 4 r = M.1 4 r) (h0 : M'.1 4 p = 0) (hp : 1 ≤ p) : ∀ n, n ≤ 12 → i < 12 → m_cnt M' i n + (if p ≤ n ∧ M.1 4 p = nI (i + 1) then 1 else 0) = m_cnt M i n
  | 0, _, _ => by rw [if_neg (by omega)]; rfl
  | n + 1, hn, hi => by
    have ih := m_cnt_off i h h0 hp n (by omega) hi
    show m_cnt M' i n + (if M'.1 4 (n + 1) = nI (i + 1) then 1 else 0) + _ = m_cnt M i n + (if M.1 4 (n + 1) = nI (i + 1) then 1 else 0)
    by_cases e : n + 1 = p
    · subst e
      rw [if_neg (by omega)] at ih
      rw [h0, if_neg (fun z => nI_ne0 (by omega) (by omega) z.symm)]
      by_cases e4 : M.1 4 (n + 1) = nI (i + 1)
      · rw [if_pos (show n + 1 ≤ n + 1 ∧ M.1 4 (n + 1) = nI (i + 1) from ⟨Nat.le_refl _, e4⟩), if_pos e4]; omega
      · rw [if_neg (fun z : n + 1 ≤ n + 1 ∧ M.1 4 (n + 1) = nI (i + 1) => e4 z.2), if_neg e4]; omega
    · rw [h (n + 1) e]
      have hc : (p ≤ n + 1 ∧ M.1 4 p = nI (i + 1)) = (p ≤ n ∧ M.1 4 p = nI (i + 1)) := propext ⟨fun z => ⟨by omega, z.2⟩, fun z => ⟨by omega, z.2⟩⟩
      simp only [hc]
      omega
theorem m_cnt_le (M : n_M) (i : Nat) : ∀ n, m_cnt M i n ≤ n
  | 0 => Nat.le_refl _
  | n + 1 => by
    have := m_cnt_le M i n
    show m_cnt M i n + _ ≤ n + 1
    split <;> omega
theorem m_van_12 {M : n_M} {p i : Nat} (hi : i < 12) (h4 : M.1 4 p = nI (i + 1)) (j : Nat) : (m_van M p).1 12 j = if j = i then M.1 12 i - 1 else M.1 12 j := by
  unfold m_van
  rw [ms_n (by omega), ms_n (by omega), ms_n (by omega), ms_n (by omega), ms_n (by omega), ms_n (by omega)]
  have e4 : (m_emp M p).1 4 p = nI (i + 1) := (m_emp_s (by omega)).trans h4
  unfold m_usr
  rw [if_neg (by rw [e4]; exact nI_ne0 (by omega) (by omega)), m_pi_i hi e4]
  by_cases e : j = i
  · rw [e, if_pos rfl, ms_e, m_emp_s (by omega)]
  · rw [if_neg e, ms_n (by omega), m_emp_s (by omega)]
theorem m_emp_c (M : n_M) (p : Nat) : m_clean (m_emp M p) p := by
  unfold m_clean m_emp
  rw [m_s_l, m_s_l, m_s_l]
  refine ⟨?_, ?_, ?_, ?_, ?_, ?_, ?_, ?_, ?_⟩
  · rw [ml_n (by omega), ml_n (by omega), ml_n (by omega), ml_n (by omega), ml_n (by omega), ml_e]
  · rw [ml_n (by omega), ml_n (by omega), ml_n (by omega), ml_n (by omega), ml_e]
  · rw [ml_n (by omega), ml_n (by omega), ml_n (by omega), ml_e]
  · rw [ml_n (by omega), ml_n (by omega), ml_e]
  · rw [ml_n (by omega), ml_e]
  · rw [ml_e]
  · rw [ms_n (by omega), ms_n (by omega), ms_e]
  · rw [ms_e]
  · rw [ms_n (by omega), ms_e]
theorem m_emp_l {M : n_M} {p c i : Nat} (h : ¬ (i = p ∧ c ≤ 1) ∧ ¬ ((i = 2 * p ∨ i = 2 * p + 1) ∧ (c = 2 ∨ c = 3))) : (m_emp M p).2 c i = M.2 c i := by
  unfold m_emp
  rw [m_s_l, m_s_l, m_s_l, ml_n (by omega), ml_n (by omega), ml_n (by omega), ml_n (by omega), ml_n (by omega), ml_n (by omega)]
theorem m_van_le (M : n_M) (p c i : Nat) : (m_van M p).2 c i = (m_emp M p).2 c i := by
  unfold m_van
  rw [m_s_l, m_s_l, m_s_l, m_s_l, m_s_l, m_s_l, m_usr_l]
theorem IW_van {M : n_M} (h : IW M) {p : Nat} (hp : n_V p) (h7 : M.1 0 p = 7) : IW (m_van M p) := by
  obtain ⟨i1, i2, i3, i5, i6⟩ := h
  have hv := m_van_p M p
  obtain ⟨i, hi, h4, -⟩ := (i3 p hp).2.2.2.1 (by rw [h7]; decide)
  have h12 := m_van_12 hi h4
  have hl : ∀ c j, 4 ≤ c → (m_van M p).2 c j = M.2 c j := fun c j hc => by rw [m_van_le, m_emp_l (by omega)]
  refine ⟨?_, ?_, fun r hr => ?_, fun j hj => ?_, fun j hj hu => ?_⟩
  · refine IR_idle i1 hp (by rw [h7]; decide) (fun r _ hr => m_van_o (by omega) hr) (fun r _ hr => m_van_o (by omega) hr) (fun r _ hr => m_van_o (by omega) hr) (by rw [hv.1]; decide) ⟨0, by omega, hv.2.2.1⟩ (fun r _ => m_van_5 M p r)
  · refine IB_cong i2 (fun k => ?_) (fun k => ?_) (hl 10 0 (by omega)) (hl 11 0 (by omega))
    · unfold m_van
      rw [ms_n (by omega), ms_n (by omega), ms_n (by omega), ms_n (by omega), ms_n (by omega), ms_n (by omega), m_usr_s (by omega), m_emp_s (by omega)]
    · unfold m_van
      rw [ms_n (by omega), ms_n (by omega), ms_n (by omega), ms_n (by omega), ms_n (by omega), ms_n (by omega), m_usr_s (by omega), m_emp_s (by omega)]
  · by_cases e : r = p
    · rw [e]
      have hc : m_clean (m_van M p) p := by
        obtain ⟨c1, c2, c3, c4, c5, c6, -⟩ := m_emp_c M p
        unfold m_clean
        rw [m_van_le, m_van_le, m_van_le, m_van_le, m_van_le, m_van_le]
        exact ⟨c1, c2, c3, c4, c5, c6, hv.2.2.2.2.2.2.1, hv.2.2.2.2.2.2.2.1, hv.2.2.2.2.2.2.2.2⟩
      refine ⟨⟨0, by omega, hv.1⟩, fun _ => ⟨hv.2.2.2.2.1, hv.2.1, hv.2.2.1, hv.2.2.2.1, hv.2.2.2.2.2.1⟩, fun _ => hc, fun z => absurd hv.1 z, fun z => ?_⟩
      rw [hv.1] at z
      exact absurd z (by decide)
    · have hs : ∀ c, c ≠ 12 → (m_van M p).1 c r = M.1 c r := fun c hc => m_van_o hc e
      have h0 : ∀ c, 15 ≤ c → (m_van M p).1 c 0 = M.1 c 0 := fun c hc => by
        unfold m_van
        rw [ms_n (by omega), ms_n (by omega), ms_n (by omega), ms_n (by omega), ms_n (by omega), ms_n (by omega), m_usr_s (by omega), m_emp_s (by omega)]
      refine m_one_eqp (i3 r hr) ⟨fun c _ => hs c (by omega), fun c _ => by rw [m_van_le, m_emp_l (by omega)], fun c _ _ => ⟨by rw [m_van_le, m_emp_l (by omega)], by rw [m_van_le, m_emp_l (by omega)]⟩⟩ (fun i _ => hl 12 i (by omega)) (h0 15 (by omega)) ?_
      rw [h0 19 (by omega)]
      exact Int32.le_refl _
  · have hc := m_cnt_off (M := M) (M' := m_van M p) j (fun r hr => m_van_o (by omega) hr) hv.2.2.2.2.1 hp.1 12 (Nat.le_refl _) hj
    have hle := m_cnt_le (m_van M p) j 12
    rw [h12 j]
    by_cases e : j = i
    · subst e
      rw [if_pos ⟨hp.2, h4⟩] at hc
      rw [if_pos rfl, i5 j hj, ← hc, nI_succ]
      grind
    · rw [if_neg (fun z => e ?_)] at hc
      · rw [if_neg e, i5 j hj, ← hc]; rfl
      · have := (nI_eq (by omega) (by omega)).mp (z.2.symm.trans h4)
        omega
  · have hu' : 0 < M.1 12 j := by
      rw [h12 j] at hu
      by_cases e : j = i
      · rw [if_pos e] at hu
        rw [e]
        rw [i5 i hi] at hu ⊢
        have hle := m_cnt_le M i 12
        rcases Nat.eq_zero_or_pos (m_cnt M i 12) with z | z
        · rw [z] at hu
          exact absurd hu (by decide)
        · exact (nI_ltI (a := 0) (by omega) (by omega)).mpr z
      · rw [if_neg e] at hu
        exact hu
    have := i6 j hj hu'
    unfold m_prg at this ⊢
    rw [hl 12 j (by omega), hl 13 j (by omega)]
    exact this
