def m_cnt (M : n_M) (i : Nat) : Nat → Nat
  | 0 => 0
  | n + 1 => m_cnt M i n + (if M.1 4 (n + 1) = nI (i + 1) then 1 else 0)
def m_clean (M : n_M) (p : Nat) : Prop := M.2 0 p = [] ∧ M.2 1 p = [] ∧ M.2 2 (2 * p) = [] ∧ M.2 3 (2 * p) = [] ∧ M.2 2 (2 * p + 1) = [] ∧ M.2 3 (2 * p + 1) = [] ∧ M.1 5 p = 0 ∧ M.1 7 p = 0 ∧ M.1 8 p = 0
def m_zero (M : n_M) (p : Nat) : Prop := M.1 4 p = 0 ∧ M.1 1 p = 0 ∧ M.1 2 p = 0 ∧ M.1 3 p = 0 ∧ M.1 6 p = 0
def m_tg (n : Nat) (x : Int32) : Prop := ∃ j, j ≤ n ∧ x = nI j
def m_has (M : n_M) (p : Nat) : Prop := ∃ i, i < 12 ∧ M.1 4 p = nI (i + 1) ∧ m_tg (M.2 12 i).length (M.1 5 p) ∧ ∀ x ∈ M.2 1 p, m_tg (M.2 12 i).length x
def m_prg (M : n_M) (i : Nat) : Prop := (M.2 13 i).length = (M.2 12 i).length ∧ (M.2 12 i).length ≤ 256 ∧ ∀ j, j < (M.2 12 i).length → ∃ k, k < 43 ∧ (M.2 12 i).getD j 0 = nI (k + 1) ∧ ((k = 20 ∨ k = 21 ∨ k = 22 ∨ k = 34) → m_tg (M.2 12 i).length ((M.2 13 i).getD j 0))
def m_one (M : n_M) (p : Nat) : Prop := (∃ s, s ≤ 7 ∧ M.1 0 p = nI s) ∧ (M.1 0 p = 0 → m_zero M p) ∧ ((M.1 0 p = 0 ∨ M.1 0 p = 7) → m_clean M p) ∧ (M.1 0 p ≠ 0 → m_has M p) ∧ (M.1 0 p = 5 → M.1 19 0 ≤ M.1 7 p ∧ M.1 15 0 < M.1 7 p)
def m_par (M : n_M) (p : Nat) : Prop := M.1 3 p = 0 ∨ ∃ r, n_V r ∧ r ≠ p ∧ M.1 3 p = nI r ∧ m_al M r ∧ M.1 3 r ≠ nI p
def II (M : n_M) : Prop := IR M ∧ IB M ∧ (∀ p, n_V p → m_one M p) ∧ (∀ p, n_V p → m_par M p) ∧ (∀ i, i < 12 → M.1 12 i = nI (m_cnt M i 12)) ∧ ∀ i, i < 12 → 0 < M.1 12 i → m_prg M i
def m_eqp (M M' : n_M) (p : Nat) : Prop := (∀ c, c ≤ 8 → M'.1 c p = M.1 c p) ∧ (∀ c, c ≤ 1 → M'.2 c p = M.2 c p) ∧ ∀ c, 2 ≤ c → c ≤ 3 → M'.2 c (2 * p) = M.2 c (2 * p) ∧ M'.2 c (2 * p + 1) = M.2 c (2 * p + 1)
theorem m_cnt_cong {M M' : n_M} {i : Nat} : ∀ n, (∀ p, 1 ≤ p → p ≤ n → M'.1 4 p = M.1 4 p) → m_cnt M' i n = m_cnt M i n
  | 0, _ => rfl
  | n + 1, h => by
    show m_cnt M' i n + _ = m_cnt M i n + _
    rw [m_cnt_cong n (fun p a b => h p a (by omega)), h (n + 1) (by omega) (Nat.le_refl _)]
theorem m_one_eqp {M M' : n_M} {p : Nat} (h : m_one M p) (e : m_eqp M M' p) (h12 : ∀ i, i < 12 → M'.2 12 i = M.2 12 i) (h15 : M'.1 15 0 = M.1 15 0) (h19 : M'.1 19 0 ≤ M.1 19 0) : m_one M' p := by
  obtain ⟨e1, e2, e3⟩ := e
  obtain ⟨g1, g2, g3, g4, g5⟩ := h
  have a0 := e1 0 (by omega)
  have a1 := e1 1 (by omega)
  have a2 := e1 2 (by omega)
  have a3 := e1 3 (by omega)
  have a4 := e1 4 (by omega)
  have a5 := e1 5 (by omega)
  have a6 := e1 6 (by omega)
  have a7 := e1 7 (by omega)
  have a8 := e1 8 (by omega)
  have b0 := e2 0 (by omega)
  have b1 := e2 1 (by omega)
  obtain ⟨c1, c2⟩ := e3 2 (by omega) (by omega)
  obtain ⟨c3, c4⟩ := e3 3 (by omega) (by omega)
  unfold m_one m_zero m_clean
  rw [a0, a1, a2, a3, a4, a5, a6, a7, a8, b0, b1, c1, c2, c3, c4, h15]
  refine ⟨g1, g2, g3, fun hz => ?_, fun hz => ⟨Int32.le_trans h19 (g5 hz).1, (g5 hz).2⟩⟩
  obtain ⟨i, hi, x1, x2, x3⟩ := g4 hz
  exact ⟨i, hi, a4.trans x1, by rw [h12 i hi, a5]; exact x2, by rw [h12 i hi, b1]; exact x3⟩
theorem II_at {M M' : n_M} {q : Nat} (h : II M) (hq : n_V q) (hR : IR M') (hB : IB M') (ho : ∀ p, n_V p → p ≠ q → m_eqp M M' p) (hS : ∀ i, i < 12 → M'.1 12 i = M.1 12 i) (h12 : ∀ i, i < 12 → M'.2 12 i = M.2 12 i) (h13 : ∀ i, i < 12 → M'.2 13 i = M.2 13 i) (h15 : M'.1 15 0 = M.1 15 0) (h19 : M'.1 19 0 ≤ M.1 19 0) (h4 : M'.1 4 q = M.1 4 q) (h3 : M'.1 3 q = M.1 3 q) (hal : m_al M q → m_al M' q) (hone : m_one M' q) : II M' := by
  obtain ⟨-, -, i3, i4, i5, i6⟩ := h
  have h4' : ∀ p, n_V p → M'.1 4 p = M.1 4 p := by
    intro p hp
    by_cases e : p = q
    · rw [e]; exact h4
    · exact (ho p hp e).1 4 (by omega)
  have h3' : ∀ p, n_V p → M'.1 3 p = M.1 3 p := by
    intro p hp
    by_cases e : p = q
    · rw [e]; exact h3
    · exact (ho p hp e).1 3 (by omega)
  have hal' : ∀ p, n_V p → m_al M p → m_al M' p := by
    intro p hp a
    by_cases e : p = q
    · rw [e] at a ⊢; exact hal a
    · unfold m_al
      rw [(ho p hp e).1 0 (by omega)]
      exact a
  refine ⟨hR, hB, fun p hp => ?_, fun p hp => ?_, fun i hi => ?_, fun i hi hu => ?_⟩
  · by_cases e : p = q
    · rw [e]; exact hone
    · exact m_one_eqp (i3 p hp) (ho p hp e) h12 h15 h19
  · rcases i4 p hp with g | ⟨r, g1, g2, g3, g4, g5⟩
    · exact Or.inl ((h3' p hp).trans g)
    · exact Or.inr ⟨r, g1, g2, (h3' p hp).trans g3, hal' r g1 g4, by rw [h3' r g1]; exact g5⟩
  · rw [hS i hi, i5 i hi, m_cnt_cong 12 (fun p a b => h4' p ⟨a, b⟩)]
  · have := i6 i hi (by rw [← hS i hi]; exact hu)
    unfold m_prg at this ⊢
    rw [h12 i hi, h13 i hi]
    exact this
theorem m_al_st {M : n_M} {p : Nat} (h : m_al M p) : M.1 0 p ≠ 0 ∧ M.1 0 p ≠ 7 := by
  obtain ⟨h1, h2⟩ := h
  constructor
  · intro z; rw [z] at h1; exact absurd h1 (by decide)
  · intro z; rw [z] at h2; exact absurd h2 (by decide)
theorem m_st_al {M : n_M} {p : Nat} (h : m_one M p) (h1 : M.1 0 p ≠ 0 ∧ M.1 0 p ≠ 7) : m_al M p := by
  obtain ⟨⟨s, hs, e⟩, -⟩ := h
  unfold m_al
  rw [e] at h1 ⊢
  have h8 : s = 0 ∨ s = 1 ∨ s = 2 ∨ s = 3 ∨ s = 4 ∨ s = 5 ∨ s = 6 ∨ s = 7 := by omega
  rcases h8 with rfl | rfl | rfl | rfl | rfl | rfl | rfl | rfl <;> first | exact absurd rfl h1.1 | exact absurd rfl h1.2 | decide
theorem m_one_al {M M' : n_M} {q : Nat} (h : m_one M q) (ha : m_al M q) (e0 : M'.1 0 q = M.1 0 q) (e4 : M'.1 4 q = M.1 4 q) (e5 : M'.1 5 q = M.1 5 q) (e7 : M'.1 7 q = M.1 7 q) (f1 : M'.2 1 q = M.2 1 q) (h12 : ∀ i, i < 12 → M'.2 12 i = M.2 12 i) (h15 : M'.1 15 0 = M.1 15 0) (h19 : M'.1 19 0 ≤ M.1 19 0) : m_one M' q := by
  obtain ⟨s0, s7⟩ := m_al_st ha
  obtain ⟨g1, g2, g3, g4, g5⟩ := h
  unfold m_one
  rw [e0, e7, h15]
  refine ⟨g1, fun z => absurd z s0, fun z => z.elim (fun z => absurd z s0) (fun z => absurd z s7), fun _ => ?_, fun z => ⟨Int32.le_trans h19 (g5 z).1, (g5 z).2⟩⟩
  obtain ⟨i, hi, x1, x2, x3⟩ := g4 s0
  exact ⟨i, hi, e4.trans x1, by rw [h12 i hi, e5]; exact x2, by rw [h12 i hi, f1]; exact x3⟩
/-- components of which the invariant says nothing -/
def m_frS (c : Nat) : Prop := c = 9 ∨ c = 10 ∨ c = 14 ∨ c = 16 ∨ c = 17 ∨ c = 18 ∨ 20 ≤ c
theorem IB_cong {M M' : n_M} (h : IB M) (h11 : ∀ k, M'.1 11 k = M.1 11 k) (h13 : ∀ k, M'.1 13 k = M.1 13 k) (l10 : M'.2 10 0 = M.2 10 0) (l11 : M'.2 11 0 = M.2 11 0) : IB M' := by
  unfold IB m_isB m_nsl at *
  rw [l10, l11]
  refine ⟨h.1, h.2.1, rfl, fun k hk => by rw [h11]; exact h.2.2.2.1 k hk, fun k hk => by rw [h13]; exact h.2.2.2.2 k hk⟩
/-- stack, boxes, did, streak of a living process, and all that the invariant doesn't name -/
theorem II_own {M M' : n_M} {q : Nat} (h : II M) (hq : n_V q) (ha : m_al M q) (hS : ∀ c i, ¬ ((c = 6 ∨ c = 8 ∨ c = 1) ∧ i = q) → ¬ m_frS c → M'.1 c i = M.1 c i) (hL : ∀ c i, ¬ (c = 0 ∧ i = q) → ¬ ((c = 2 ∨ c = 3) ∧ (i = 2 * q ∨ i = 2 * q + 1)) → c ≠ 7 → c ≠ 8 → M'.2 c i = M.2 c i) : II M' := by
  have hs : ∀ c i, (c = 0 ∨ c = 2 ∨ c = 3 ∨ c = 4 ∨ c = 5 ∨ c = 7 ∨ c = 11 ∨ c = 12 ∨ c = 13 ∨ c = 15 ∨ c = 19) → M'.1 c i = M.1 c i := by
    intro c i hc
    refine hS c i ?_ ?_
    · omega
    · unfold m_frS; omega
  have hl : ∀ c i, (c = 1 ∨ c = 5 ∨ 10 ≤ c) → M'.2 c i = M.2 c i := fun c i hc => hL c i (by omega) (by omega) (by omega) (by omega)
  have e19 : M'.1 19 0 ≤ M.1 19 0 := by rw [hs 19 0 (by omega)]; exact Int32.le_refl _
  refine II_at h hq (IR_cong h.1 (fun r _ => hs 0 r (by omega)) (fun r _ => hs 2 r (by omega)) (fun r _ => hs 7 r (by omega)) (fun r _ => hl 5 r (by omega))) (IB_cong h.2.1 (fun k => hs 11 k (by omega)) (fun k => hs 13 k (by omega)) (hl 10 0 (by omega)) (hl 11 0 (by omega))) (fun p hp hne => ⟨fun c hc => ?_, fun c hc => ?_, fun c h2 h3 => ⟨?_, ?_⟩⟩) (fun i _ => hs 12 i (by omega)) (fun i _ => hl 12 i (by omega)) (fun i _ => hl 13 i (by omega)) (hs 15 0 (by omega)) e19 (hs 4 q (by omega)) (hs 3 q (by omega)) ?_ (m_one_al (h.2.2.1 q hq) ha (hs 0 q (by omega)) (hs 4 q (by omega)) (hs 5 q (by omega)) (hs 7 q (by omega)) (hl 1 q (by omega)) (fun i _ => hl 12 i (by omega)) (hs 15 0 (by omega)) e19)
  · exact hS c p (by omega) (by unfold m_frS; omega)
  · exact hL c p (by omega) (by omega) (by omega) (by omega)
  · exact hL c _ (by omega) (by omega) (by omega) (by omega)
  · exact hL c _ (by omega) (by omega) (by omega) (by omega)
  · intro a
    unfold m_al
    rw [hs 0 q (by omega)]
    exact a
theorem II_stk {M : n_M} {q : Nat} (h : II M) (hq : n_V q) (ha : m_al M q) (l : List Int32) : II (m_l M 0 q l) :=
  II_own h hq ha (fun _ _ _ _ => rfl) (fun c i a _ _ _ => ml_n a)
theorem II_next {M : n_M} {q i : Nat} (h : II M) (hq : n_V q) (ha : m_al M q) (hi : i < 12) (h4 : M.1 4 q = nI (i + 1)) {x : Int32} (hx : m_tg (M.2 12 i).length x) {l : List Int32} (hl : ∀ y ∈ l, m_tg (M.2 12 i).length y) : II (m_s (m_l M 1 q l) 5 q x) := by
  refine II_at h hq (IR_s (IR_l h.1 (by omega)) (by omega)) (IB_s (IB_l h.2.1 (by omega)) (by omega)) (fun p hp hne => ⟨fun c hc => ?_, fun c hc => ?_, fun c h2 h3 => ⟨?_, ?_⟩⟩) (fun _ _ => rfl) (fun _ _ => rfl) (fun _ _ => rfl) rfl (Int32.le_refl _) rfl rfl id ?_
  · exact ms_n (by omega)
  · exact ml_n (by omega)
  · exact ml_n (by omega)
  · exact ml_n (by omega)
  · obtain ⟨s0, s7⟩ := m_al_st ha
    obtain ⟨g1, g2, g3, g4, g5⟩ := h.2.2.1 q hq
    refine ⟨g1, fun z => absurd z s0, fun z => z.elim (fun z => absurd z s0) (fun z => absurd z s7), fun _ => ?_, g5⟩
    refine ⟨i, hi, h4, ?_, ?_⟩
    · rw [ms_e]; exact hx
    · rw [m_s_l, ml_e]; exact hl
