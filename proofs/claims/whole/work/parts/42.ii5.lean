theorem ms_id {M : n_M} {c i : Nat} {v : Int32} (h : M.1 c i = v) : m_s M c i v = M := by
  unfold m_s
  refine Prod.ext ?_ rfl
  funext a b
  dsimp only
  by_cases e : a = c ∧ b = i
  · rw [if_pos e, e.1, e.2, h]
  · rw [if_neg e]
theorem m_adm_s {M : n_M} {r i c j : Nat} {a : Int32} (h : ¬ ((c = 0 ∨ c = 2 ∨ c = 4 ∨ c = 7 ∨ c = 8) ∧ j = r)) (h2 : ¬ (c = 12 ∧ j = i)) : (m_adm M r i a).1 c j = M.1 c j := by
  unfold m_adm
  rw [m_rdy_sn (by omega), ms_n (by omega), ms_n (by omega), ms_n (by omega)]
theorem m_adm_4 (M : n_M) (r i : Nat) (a : Int32) : (m_adm M r i a).1 4 r = nI (i + 1) ∧ (m_adm M r i a).1 12 i = M.1 12 i + 1 ∧ (m_adm M r i a).1 0 r = 1 := by
  unfold m_adm
  refine ⟨?_, ?_, ?_⟩
  · rw [m_rdy_sn (by omega), ms_n (by omega), ms_n (by omega), ms_e]
  · rw [m_rdy_sn (by omega), ms_n (by omega), ms_e]
  · rw [m_rdy_0]
theorem II_new {M : n_M} (h : II M) {r i : Nat} (hr : n_V r) (h0 : M.1 0 r = 0) (hi : i < 12) (hg : m_prg M i) {a x n : Int32} (ha : ∃ l, l < 3 ∧ a = nI l) (hx : x = 0 ∨ ∃ q, n_V q ∧ m_al M q ∧ x = nI q) (hn : m_tg (M.2 12 i).length n) : II (m_s (m_s (m_adm M r i a) 3 r x) 5 r n) := by
  obtain ⟨i1, i2, i3, i4, i5, i6⟩ := h
  obtain ⟨-, z0, zc, -, -⟩ := i3 r hr
  obtain ⟨z4, z1, z2, z3, z6⟩ := z0 h0
  obtain ⟨c0, c1, -⟩ := zc (Or.inl h0)
  obtain ⟨a4, a12, a0⟩ := m_adm_4 M r i a
  have nal : ∀ p, m_al M p → p ≠ r := fun p hp z => (m_al_st hp).1 (by rw [z]; exact h0)
  have hs : ∀ c j, ¬ ((c = 0 ∨ c = 2 ∨ c = 3 ∨ c = 4 ∨ c = 5 ∨ c = 7 ∨ c = 8) ∧ j = r) → ¬ (c = 12 ∧ j = i) → (m_s (m_s (m_adm M r i a) 3 r x) 5 r n).1 c j = M.1 c j := fun c j e1 e2 => by rw [ms_n (by omega), ms_n (by omega), m_adm_s (by omega) e2]
  have hl : ∀ c j, c ≠ 5 → (m_s (m_s (m_adm M r i a) 3 r x) 5 r n).2 c j = M.2 c j := fun c j e => m_adm_l e
  have hR : IR (m_s (m_s (m_adm M r i a) 3 r x) 5 r n) := by
    refine IR_s (IR_s ?_ (by omega)) (by omega)
    unfold m_adm
    refine IR_rdy (M := m_s (m_s (m_s M 4 r (nI (i + 1))) 12 i (M.1 12 i + 1)) 2 r a) (IR_idle i1 hr (by rw [h0]; decide) (fun p _ hp => ?_) (fun p _ hp => ?_) (fun p _ hp => ?_) ?_ ?_ (fun p _ => rfl)) hr ?_
    · rw [ms_n (by omega), ms_n (by omega), ms_n (by omega)]
    · rw [ms_n (by omega), ms_n (by omega), ms_n (by omega)]
    · rw [ms_n (by omega), ms_n (by omega), ms_n (by omega)]
    · rw [ms_n (by omega), ms_n (by omega), ms_n (by omega), h0]; decide
    · rw [ms_e]; exact ha
    · rw [ms_n (by omega), ms_n (by omega), ms_n (by omega), h0]; decide
  have e4 : (m_s (m_s (m_adm M r i a) 3 r x) 5 r n).1 4 r = nI (i + 1) := by rw [ms_n (by omega), ms_n (by omega), a4]
  refine ⟨hR, IB_cong i2 (fun k => hs 11 k (by omega) (by omega)) (fun k => hs 13 k (by omega) (by omega)) (hl 10 0 (by omega)) (hl 11 0 (by omega)), fun p hp => ?_, fun p hp => ?_, fun j hj => ?_, fun j hj hu => ?_⟩
  · by_cases e : p = r
    · rw [e]
      have e0 : (m_s (m_s (m_adm M r i a) 3 r x) 5 r n).1 0 r = 1 := by rw [ms_n (by omega), ms_n (by omega), a0]
      unfold m_one
      rw [e0]
      refine ⟨⟨1, by omega, rfl⟩, fun z => absurd z (by decide), fun z => absurd z (by decide), fun _ => ?_, fun z => absurd z (by decide)⟩
      refine ⟨i, hi, e4, ?_, ?_⟩
      · rw [ms_e, hl 12 i (by omega)]; exact hn
      · rw [hl 1 r (by omega), c1]; intro y hy; simp at hy
    · refine m_one_eqp (i3 p hp) ⟨fun c _ => hs c p (by omega) (by omega), fun c _ => hl c p (by omega), fun c _ _ => ⟨hl c _ (by omega), hl c _ (by omega)⟩⟩ (fun i _ => hl 12 i (by omega)) (hs 15 0 (by omega) (by omega)) ?_
      rw [hs 19 0 (by omega) (by omega)]
      exact Int32.le_refl _
  · by_cases e : p = r
    · rw [e]
      have e3 : (m_s (m_s (m_adm M r i a) 3 r x) 5 r n).1 3 r = x := by rw [ms_n (by omega), ms_e]
      rcases hx with hx | ⟨q, hq, hal, hx⟩
      · exact Or.inl (e3.trans hx)
      · have hne := nal q hal
        refine Or.inr ⟨q, hq, hne, e3.trans hx, ?_, ?_⟩
        · unfold m_al
          rw [hs 0 q (by omega) (by omega)]
          exact hal
        · rw [hs 3 q (by omega) (by omega)]
          rcases i4 q hq with g | ⟨r', g1, g2, g3, g4, g5⟩
          · rw [g]
            exact fun z => nI_ne0 (by have := hr.1; omega) (by have := hr.2; omega) z.symm
          · rw [g3]
            exact fun z => nal r' g4 (nV_inj g1 hr z)
    · have e3 : (m_s (m_s (m_adm M r i a) 3 r x) 5 r n).1 3 p = M.1 3 p := hs 3 p (by omega) (by omega)
      rcases i4 p hp with g | ⟨r', g1, g2, g3, g4, g5⟩
      · exact Or.inl (e3.trans g)
      · have hne := nal r' g4
        refine Or.inr ⟨r', g1, g2, e3.trans g3, ?_, by rw [hs 3 r' (by omega) (by omega)]; exact g5⟩
        unfold m_al
        rw [hs 0 r' (by omega) (by omega)]
        exact g4
  · have hc := m_cnt_off (M := m_s (m_s (m_adm M r i a) 3 r x) 5 r n) (M' := M) j (fun p hp => (hs 4 p (by omega) (by omega)).symm) z4 hr.1 12 (Nat.le_refl _) hj
    rw [← hc]
    by_cases e : j = i
    · rw [e, if_pos (show r ≤ 12 ∧ _ from ⟨hr.2, e4⟩), ms_n (by omega), ms_n (by omega), a12, i5 i hi, nI_1]
    · rw [if_neg (fun z => e ?_), hs 12 j (by omega) (by omega), i5 j hj]
      · rfl
      · have := (nI_eq (by omega) (by omega)).mp (z.2.symm.trans e4)
        omega
  · have hg' : m_prg M j := by
      by_cases e : j = i
      · rw [e]; exact hg
      · exact i6 j hj (by rw [← hs 12 j (by omega) (by omega)]; exact hu)
    unfold m_prg at hg' ⊢
    rw [hl 12 j (by omega), hl 13 j (by omega)]
    exact hg'
def m_lo (M : n_M) : n_M := m_s (m_s M 15 0 (-2147483648)) 19 0 (-2147483648)
theorem m_lo_o {M : n_M} {c i : Nat} (h : c ≠ 15 ∧ c ≠ 19) : (m_lo M).1 c i = M.1 c i := by
  unfold m_lo
  rw [ms_n (by omega), ms_n (by omega)]
theorem i32_lo (x : Int32) : -2147483648 ≤ x := Int32.minValue_le x
theorem II_lo {M : n_M} (h : II M) : II (m_lo M) := by
  obtain ⟨i1, i2, i3, i4, i5, i6⟩ := h
  refine ⟨IR_s (IR_s i1 (by omega)) (by omega), IB_s (IB_s i2 (by omega)) (by omega), fun p hp => ?_, i4, i5, i6⟩
  obtain ⟨g1, g2, g3, g4, g5⟩ := i3 p hp
  refine ⟨g1, g2, g3, g4, fun z => ⟨?_, ?_⟩⟩
  · unfold m_lo
    rw [ms_e]
    exact i32_lo _
  · unfold m_lo
    rw [ms_n (by omega), ms_e]
    exact Int32.lt_of_le_of_lt (i32_lo _) (g5 z).2
theorem II_hi {M : n_M} (h : II (m_lo M)) (hs : ∀ p, n_V p → M.1 0 p = 5 → M.1 19 0 ≤ M.1 7 p ∧ M.1 15 0 < M.1 7 p) : II M := by
  obtain ⟨i1, i2, i3, i4, i5, i6⟩ := h
  refine ⟨IR_cong i1 (fun r _ => (m_lo_o (by omega)).symm) (fun r _ => (m_lo_o (by omega)).symm) (fun r _ => (m_lo_o (by omega)).symm) (fun r _ => rfl), IB_cong i2 (fun k => (m_lo_o (by omega)).symm) (fun k => (m_lo_o (by omega)).symm) rfl rfl, fun p hp => ?_, i4, i5, i6⟩
  obtain ⟨g1, g2, g3, g4, g5⟩ := i3 p hp
  exact ⟨g1, g2, g3, g4, hs p hp⟩
theorem m_lo_rdy (M : n_M) (q : Nat) : m_lo (m_rdy M q) = m_rdy (m_lo M) q := by
  have e : m_lv (m_lo M) q = m_lv M q := rfl
  have e2 : (m_lo M).2 = M.2 := rfl
  unfold m_rdy
  rw [e, e2]
  unfold m_lo
  rw [← msl_c, ← msl_c, ms_c (c := 8) (c' := 15) _ _ _ (by omega), ms_c (c := 7) (c' := 15) _ _ _ (by omega), ms_c (c := 0) (c' := 15) _ _ _ (by omega), ms_c (c := 8) (c' := 19) _ _ _ (by omega), ms_c (c := 7) (c' := 19) _ _ _ (by omega), ms_c (c := 0) (c' := 19) _ _ _ (by omega)]
theorem m_lo_19 (M : n_M) (v : Int32) : m_lo (m_s M 19 0 v) = m_lo M := by
  unfold m_lo
  rw [ms_c (c := 19) (c' := 15) _ _ _ (by omega), ms_ms]
theorem m_lo_15 (M : n_M) (v : Int32) : m_lo (m_s M 15 0 v) = m_lo M := by
  unfold m_lo
  rw [ms_ms]
theorem II_ws {M : n_M} (hM : II (m_lo M)) (c : Int32) (hc : M.1 15 0 = c) (hs : ∀ p, n_V p → M.1 0 p = 5 → M.1 19 0 = 2147483647) : ∀ n, n ≤ 12 → II (m_lo (m_ws n M)) ∧ (m_ws n M).1 15 0 = c ∧ (∀ p, n_V p → n < p → (m_ws n M).1 0 p = M.1 0 p ∧ (m_ws n M).1 7 p = M.1 7 p) ∧ ∀ p, n_V p → p ≤ n → (m_ws n M).1 0 p = 5 → (m_ws n M).1 19 0 ≤ (m_ws n M).1 7 p ∧ c < (m_ws n M).1 7 p
  | 0, _ => ⟨hM, hc, fun p _ _ => ⟨rfl, rfl⟩, fun p hp h0 => by have := hp.1; omega⟩
  | n + 1, hn => by
    obtain ⟨g1, g2, g3, g4⟩ := II_ws hM c hc hs n (by omega)
    have hv : n_V (n + 1) := ⟨by omega, hn⟩
    show II (m_lo (m_ws1 (m_ws n M) (n + 1))) ∧ (m_ws1 (m_ws n M) (n + 1)).1 15 0 = c ∧ (∀ p, n_V p → n + 1 < p → (m_ws1 (m_ws n M) (n + 1)).1 0 p = M.1 0 p ∧ (m_ws1 (m_ws n M) (n + 1)).1 7 p = M.1 7 p) ∧ ∀ p, n_V p → p ≤ n + 1 → (m_ws1 (m_ws n M) (n + 1)).1 0 p = 5 → (m_ws1 (m_ws n M) (n + 1)).1 19 0 ≤ (m_ws1 (m_ws n M) (n + 1)).1 7 p ∧ c < (m_ws1 (m_ws n M) (n + 1)).1 7 p
    generalize m_ws n M = K at g1 g2 g3 g4 ⊢
    unfold m_ws1
    by_cases e : K.1 0 (n + 1) = 5
    · rw [if_pos e]
      by_cases e2 : K.1 7 (n + 1) ≤ K.1 15 0
      · rw [if_pos e2]
        refine ⟨?_, by rw [m_rdy_sn (by omega)]; exact g2, fun p hp h1 => ?_, fun p hp h1 h2 => ?_⟩
        · rw [m_lo_rdy]
          have e0 : (m_lo K).1 0 (n + 1) = 5 := e
          exact II_rdy g1 hv (by unfold m_al; rw [e0]; decide) (by rw [e0]; decide)
        · rw [m_rdy_sn (by omega), m_rdy_sn (by omega)]
          exact g3 p hp (by omega)
        · have hne : p ≠ n + 1 := by
            intro z
            rw [z, m_rdy_0] at h2
            exact absurd h2 (by decide)
          rw [m_rdy_sn (by omega)] at h2
          rw [m_rdy_sn (by omega), m_rdy_sn (by omega)]
          exact g4 p hp (by omega) h2
      · rw [if_neg e2]
        refine ⟨by rw [m_lo_19]; exact g1, by rw [ms_n (by omega)]; exact g2, fun p hp h1 => ?_, fun p hp h1 h2 => ?_⟩
        · rw [ms_n (by omega), ms_n (by omega)]
          exact g3 p hp (by omega)
        · rw [ms_n (by omega)] at h2
          rw [ms_e, ms_n (by omega)]
          by_cases ep : p = n + 1
          · rw [ep]
            rw [g2] at e2
            exact ⟨(m_min_le _ _).2, Int32.not_le.mp e2⟩
          · obtain ⟨k1, k2⟩ := g4 p hp (by omega) h2
            exact ⟨Int32.le_trans (m_min_le _ _).1 k1, k2⟩
    · rw [if_neg e]
      refine ⟨g1, g2, fun p hp h1 => g3 p hp (by omega), fun p hp h1 h2 => ?_⟩
      have hne : p ≠ n + 1 := fun z => e (by rw [← z]; exact h2)
      exact g4 p hp (by omega) h2
/-- the clock goes on, those who are due wake -/
def m_clk (M : n_M) : n_M := m_s M 15 0 (M.1 15 0 + 1)
def m_wake (M : n_M) : n_M := if (m_clk M).1 19 0 ≤ (m_clk M).1 15 0 then m_ws 12 (m_s (m_clk M) 19 0 2147483647) else m_clk M
theorem II_wake {M : n_M} (h : II M) : II (m_wake M) := by
  have hlo : II (m_lo (m_clk M)) := by
    unfold m_clk
    rw [m_lo_15]
    exact II_lo h
  unfold m_wake
  by_cases e : (m_clk M).1 19 0 ≤ (m_clk M).1 15 0
  · rw [if_pos e]
    obtain ⟨g1, g2, -, g4⟩ := II_ws (M := m_s (m_clk M) 19 0 2147483647) (by rw [m_lo_19]; exact hlo) ((m_clk M).1 15 0) rfl (fun p hp _ => ms_e _ _ _ _) 12 (Nat.le_refl _)
    exact II_hi g1 (fun p hp h5 => by rw [g2]; exact g4 p hp hp.2 h5)
  · rw [if_neg e]
    refine II_hi hlo (fun p hp h5 => ?_)
    have h5' : M.1 0 p = 5 := h5
    obtain ⟨k1, k2⟩ := (h.2.2.1 p hp).2.2.2.2 h5'
    have e19 : (m_clk M).1 19 0 = M.1 19 0 := ms_n (by omega)
    have e7 : (m_clk M).1 7 p = M.1 7 p := ms_n (by omega)
    rw [e19] at e
    rw [e19, e7]
    exact ⟨k1, Int32.lt_of_lt_of_le (Int32.not_le.mp e) k1⟩
