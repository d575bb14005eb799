theorem sn1 {t t' : List Int32} {a a' : Int32} (h : t ++ [a] = t' ++ [a']) : t = t' ∧ a = a' := by
  obtain ⟨h1, h2⟩ := List.append_inj' h rfl
  exact ⟨h1, by simpa using h2⟩
theorem m_shr_det {k : Nat} {n : Int32} {st s1 s2 : List Int32} (hk : k ≤ 6) (h : m_shr k n st s1) (h2 : m_shr k n st s2) : s1 = s2 := by
  rcases (show k = 0 ∨ k = 1 ∨ k = 2 ∨ k = 3 ∨ k = 4 ∨ k = 5 ∨ k = 6 by omega) with rfl | rfl | rfl | rfl | rfl | rfl | rfl
  · exact Eq.trans h (Eq.symm h2)
  · obtain ⟨t, c, a, b⟩ := h
    obtain ⟨t', c', a', b'⟩ := h2
    obtain ⟨rfl, rfl⟩ := sn1 (a.symm.trans a')
    rw [b, b']
  · obtain ⟨c, a⟩ := h
    obtain ⟨c', a'⟩ := h2
    exact (sn1 (a.symm.trans a')).1
  · obtain ⟨t, b, c, a, e⟩ := h
    obtain ⟨t', b', c', a', e'⟩ := h2
    obtain ⟨z, rfl⟩ := sn1 (a.symm.trans a')
    obtain ⟨rfl, rfl⟩ := sn1 z
    rw [e, e']
  · obtain ⟨t, b, c, a, e⟩ := h
    obtain ⟨t', b', c', a', e'⟩ := h2
    obtain ⟨z, rfl⟩ := sn1 (a.symm.trans a')
    obtain ⟨rfl, rfl⟩ := sn1 z
    rw [e, e']
  · obtain ⟨t, x, b, c, a, e⟩ := h
    obtain ⟨t', x', b', c', a', e'⟩ := h2
    obtain ⟨z1, rfl⟩ := sn1 (a.symm.trans a')
    obtain ⟨z2, rfl⟩ := sn1 z1
    obtain ⟨rfl, rfl⟩ := sn1 z2
    rw [e, e']
  · obtain ⟨t, c, a, b⟩ := h
    obtain ⟨t', c', a', b'⟩ := h2
    obtain ⟨rfl, rfl⟩ := sn1 (a.symm.trans a')
    rw [b, b']
theorem m_fst_det {ns : List Nat} {os : List Int32} {n j j' : Nat} (h : m_fst ns os n j) (h2 : m_fst ns os n j') : j = j' := by
  obtain ⟨a1, a2, a3, a4⟩ := h
  obtain ⟨b1, b2, b3, b4⟩ := h2
  rcases Nat.lt_trichotomy j j' with z | z | z
  · exact absurd ⟨a2, a3⟩ (b4 j z)
  · exact z
  · exact absurd ⟨b2, b3⟩ (a4 j' z)
theorem m_fst_non {ns : List Nat} {os : List Int32} {n j : Nat} (h : m_fst ns os n j) (h2 : m_non ns os n) : False := h2 j h.1 ⟨h.2.1, h.2.2.1⟩
theorem m_lfree_det {M : n_M} {r r' : Nat} (h : m_lfree M r) (h2 : m_lfree M r') : r = r' := by
  obtain ⟨a1, a2, a3⟩ := h
  obtain ⟨b1, b2, b3⟩ := h2
  rcases Nat.lt_trichotomy r r' with z | z | z
  · exact absurd a2 (b3 r a1.1 z)
  · exact z
  · exact absurd b2 (a3 r' b1.1 z)
theorem m_lfree_no {M : n_M} {r : Nat} (h : m_lfree M r) (h2 : m_nofree M) : False := h2 r h.1.1 h.1.2 h.2.1
set_option maxHeartbeats 4000000 in
theorem m_do_det {q k : Nat} {n v v2 : Int32} {M M' M2 : n_M} (hB : IB M) (h : m_do q k n M v M') (h2 : m_do q k n M v2 M2) : v = v2 ∧ M' = M2 := by
  unfold m_do at h h2
  rcases h with ⟨hk, R⟩ | ⟨hk, R⟩ | ⟨rfl, R⟩ | ⟨rfl, R⟩ | ⟨rfl, R⟩ | ⟨rfl, R⟩ | ⟨rfl, R⟩ | ⟨rfl, R⟩ | ⟨rfl, R⟩ | ⟨rfl, R⟩ | ⟨rfl, R⟩ | ⟨rfl, R⟩ | ⟨rfl, R⟩ | ⟨rfl, R⟩ | ⟨rfl, R⟩ | ⟨rfl, R⟩ | ⟨rfl, R⟩ | ⟨rfl, R⟩ | ⟨rfl, R⟩ | ⟨rfl, R⟩ | ⟨rfl, R⟩ | ⟨rfl, R⟩ | ⟨rfl, R⟩ | ⟨rfl, R⟩ | ⟨rfl, R⟩
  all_goals (rcases h2 with ⟨hk2, R2⟩ | ⟨hk2, R2⟩ | ⟨hk2, R2⟩ | ⟨hk2, R2⟩ | ⟨hk2, R2⟩ | ⟨hk2, R2⟩ | ⟨hk2, R2⟩ | ⟨hk2, R2⟩ | ⟨hk2, R2⟩ | ⟨hk2, R2⟩ | ⟨hk2, R2⟩ | ⟨hk2, R2⟩ | ⟨hk2, R2⟩ | ⟨hk2, R2⟩ | ⟨hk2, R2⟩ | ⟨hk2, R2⟩ | ⟨hk2, R2⟩ | ⟨hk2, R2⟩ | ⟨hk2, R2⟩ | ⟨hk2, R2⟩ | ⟨hk2, R2⟩ | ⟨hk2, R2⟩ | ⟨hk2, R2⟩ | ⟨hk2, R2⟩ | ⟨hk2, R2⟩ <;> first | exact absurd hk2 (by decide) | (exfalso; omega) | skip)
  · obtain ⟨e, s1, a, b⟩ := R
    obtain ⟨e2, s2, a2, b2⟩ := R2
    exact ⟨e.trans e2.symm, by rw [b, b2, m_shr_det hk a a2]⟩
  · obtain ⟨t, a, b, e, R⟩ := R
    obtain ⟨t', a', b', e', R2⟩ := R2
    obtain ⟨z, rfl⟩ := sn1 (e.symm.trans e')
    obtain ⟨rfl, rfl⟩ := sn1 z
    rcases R with ⟨c, d, f⟩ | ⟨c, d, f⟩ <;> rcases R2 with ⟨c', d', f'⟩ | ⟨c', d', f'⟩
    · exact ⟨d.trans d'.symm, f.trans f'.symm⟩
    · exact absurd c c'
    · exact absurd c' c
    · exact ⟨d.trans d'.symm, f.trans f'.symm⟩
  · exact ⟨R.1.trans R2.1.symm, R.2.trans R2.2.symm⟩
  · obtain ⟨e, t, a, b, c⟩ := R
    obtain ⟨e', t', a', b', c'⟩ := R2
    obtain ⟨rfl, rfl⟩ := sn1 (b.symm.trans b')
    exact ⟨e.trans e'.symm, c.trans c'.symm⟩
  · rcases R with ⟨c, d, f⟩ | ⟨c, d, f⟩ <;> rcases R2 with ⟨c', d', f'⟩ | ⟨c', d', f'⟩
    · exact ⟨d.trans d'.symm, f.trans f'.symm⟩
    · omega
    · omega
    · exact ⟨d.trans d'.symm, f.trans f'.symm⟩
  · rcases R with ⟨c, d, f⟩ | ⟨t, a, c, d, f⟩ <;> rcases R2 with ⟨c', d', f'⟩ | ⟨t', a', c', d', f'⟩
    · exact ⟨d.trans d'.symm, f.trans f'.symm⟩
    · rw [c] at c'
      simp at c'
    · rw [c'] at c
      simp at c
    · obtain ⟨rfl, rfl⟩ := sn1 (c.symm.trans c')
      exact ⟨d.trans d'.symm, f.trans f'.symm⟩
  · exact ⟨R.1.trans R2.1.symm, R.2.trans R2.2.symm⟩
  · obtain ⟨t, a, e, R⟩ := R
    obtain ⟨t', a', e', R2⟩ := R2
    obtain ⟨rfl, rfl⟩ := sn1 (e.symm.trans e')
    rcases R with ⟨j, ⟨c, g, w⟩, d, f⟩ | ⟨c, d, f⟩ <;> rcases R2 with ⟨j', ⟨c', g', w'⟩, d', f'⟩ | ⟨c', d', f'⟩
    · have := (nI_eq (by omega) (by omega)).mp (g.symm.trans g')
      subst this
      exact ⟨d.trans d'.symm, f.trans f'.symm⟩
    · exact absurd ⟨j, c, g, w⟩ c'
    · exact absurd ⟨j', c', g', w'⟩ c
    · exact ⟨d.trans d'.symm, f.trans f'.symm⟩
  · obtain ⟨t, x, a, e, R⟩ := R
    obtain ⟨t', x', a', e', R2⟩ := R2
    obtain ⟨z, rfl⟩ := sn1 (e.symm.trans e')
    obtain ⟨rfl, rfl⟩ := sn1 z
    rcases R with ⟨j, ⟨c, g, w⟩, d, f⟩ | ⟨c, d, f⟩ <;> rcases R2 with ⟨j', ⟨c', g', w'⟩, d', f'⟩ | ⟨c', d', f'⟩
    · have := (nI_eq (by omega) (by omega)).mp (g.symm.trans g')
      subst this
      exact ⟨d.trans d'.symm, f.trans f'.symm⟩
    · exact absurd ⟨j, c, g, w⟩ c'
    · exact absurd ⟨j', c', g', w'⟩ c
    · exact ⟨d.trans d'.symm, f.trans f'.symm⟩
  · obtain ⟨e0, t, a, e, R⟩ := R
    obtain ⟨e0', t', a', e', R2⟩ := R2
    obtain ⟨rfl, rfl⟩ := sn1 (e.symm.trans e')
    refine ⟨e0.trans e0'.symm, ?_⟩
    rcases R with ⟨n1, j, c, g, w, f⟩ | ⟨c, f⟩ <;> rcases R2 with ⟨n2, j', c', g', w', f'⟩ | ⟨c', f'⟩
    · have := (nI_eq (by omega) (by omega)).mp (g.symm.trans g')
      subst this
      have := m_fst_det w w'
      subst this
      exact f.trans f'.symm
    · exact (m_fst_non w (c' n1 c g)).elim
    · exact (m_fst_non w' (c n2 c' g')).elim
    · exact f.trans f'.symm
  · obtain ⟨e0, t, a, e, R⟩ := R
    obtain ⟨e0', t', a', e', R2⟩ := R2
    obtain ⟨rfl, rfl⟩ := sn1 (e.symm.trans e')
    refine ⟨e0.trans e0'.symm, ?_⟩
    rcases R with ⟨c, f⟩ | ⟨c, f⟩ <;> rcases R2 with ⟨c', f'⟩ | ⟨c', f'⟩
    · exact f.trans f'.symm
    · exact absurd c c'
    · exact absurd c' c
    · exact f.trans f'.symm
  · obtain ⟨e0, t, a, x, e, R⟩ := R
    obtain ⟨e0', t', a', x', e', R2⟩ := R2
    obtain ⟨z, rfl⟩ := sn1 (e.symm.trans e')
    obtain ⟨rfl, rfl⟩ := sn1 z
    refine ⟨e0.trans e0'.symm, ?_⟩
    rcases R with ⟨r, j, hr, g, w, y, f⟩ | ⟨c, f⟩ <;> rcases R2 with ⟨r', j', hr', g', w', y', f'⟩ | ⟨c', f'⟩
    · have := nV_inj hr hr' (g.symm.trans g')
      subst this
      have := m_at_inj hB y y'
      subst this
      exact f.trans f'.symm
    · exact absurd ⟨r, hr, g, w, m_at_hf hB y⟩ c'
    · exact absurd ⟨r', hr', g', w', m_at_hf hB y'⟩ c
    · exact f.trans f'.symm
  · obtain ⟨e0, t, x, y, e, R⟩ := R
    obtain ⟨e0', t', x', y', e', R2⟩ := R2
    obtain ⟨z, rfl⟩ := sn1 (e.symm.trans e')
    obtain ⟨rfl, rfl⟩ := sn1 z
    refine ⟨e0.trans e0'.symm, ?_⟩
    rcases R with ⟨c, f⟩ | ⟨r, hr, g, w, R⟩ <;> rcases R2 with ⟨c', f'⟩ | ⟨r', hr', g', w', R2⟩
    · exact f.trans f'.symm
    · exact absurd ⟨r', hr', g', w'⟩ c
    · exact absurd ⟨r, hr, g, w⟩ c'
    · have := nV_inj hr hr' (g.symm.trans g')
      subst this
      rcases R with ⟨c, f⟩ | ⟨c, f⟩ <;> rcases R2 with ⟨c', f'⟩ | ⟨c', f'⟩
      · exact f.trans f'.symm
      · omega
      · omega
      · exact f.trans f'.symm
  · obtain ⟨e0, x, y, bs, ws, a, b, f⟩ := R
    obtain ⟨e0', x', y', bs', ws', a', b', f'⟩ := R2
    obtain ⟨rfl, rfl⟩ := List.cons.inj (a.symm.trans a')
    obtain ⟨rfl, rfl⟩ := List.cons.inj (b.symm.trans b')
    exact ⟨e0.trans e0'.symm, f.trans f'.symm⟩
  · obtain ⟨e0, t, a, e, f⟩ := R
    obtain ⟨e0', t', a', e', f'⟩ := R2
    obtain ⟨rfl, rfl⟩ := sn1 (e.symm.trans e')
    exact ⟨e0.trans e0'.symm, f.trans f'.symm⟩
  · obtain ⟨e0, x, bs, a, f⟩ := R
    obtain ⟨e0', x', bs', a', f'⟩ := R2
    obtain ⟨rfl, rfl⟩ := List.cons.inj (a.symm.trans a')
    exact ⟨e0.trans e0'.symm, f.trans f'.symm⟩
  · obtain ⟨e0, R⟩ := R
    obtain ⟨e0', R2⟩ := R2
    refine ⟨e0.trans e0'.symm, ?_⟩
    rcases R with ⟨r, i, hi, g, w, f⟩ | ⟨c, f⟩ <;> rcases R2 with ⟨r', i', hi', g', w', f'⟩ | ⟨c', f'⟩
    · have := (nI_eq (by omega) (by omega)).mp (g.symm.trans g')
      have : i = i' := by omega
      subst this
      have := m_lfree_det w w'
      subst this
      exact f.trans f'.symm
    · exact (m_lfree_no w c').elim
    · exact (m_lfree_no w' c).elim
    · exact f.trans f'.symm
  · obtain ⟨e0, t, x, e, R⟩ := R
    obtain ⟨e0', t', x', e', R2⟩ := R2
    obtain ⟨rfl, rfl⟩ := sn1 (e.symm.trans e')
    refine ⟨e0.trans e0'.symm, ?_⟩
    rcases R with ⟨r, g, f⟩ | ⟨c, f⟩ <;> rcases R2 with ⟨r', g', f'⟩ | ⟨c', f'⟩
    · have := nV_inj g.1 g'.1 (g.2.1.symm.trans g'.2.1)
      subst this
      exact f.trans f'.symm
    · exact absurd ⟨r, g⟩ c'
    · exact absurd ⟨r', g'⟩ c
    · exact f.trans f'.symm
  · obtain ⟨e0, t, x, e, R⟩ := R
    obtain ⟨e0', t', x', e', R2⟩ := R2
    obtain ⟨rfl, rfl⟩ := sn1 (e.symm.trans e')
    refine ⟨e0.trans e0'.symm, ?_⟩
    rcases R with ⟨r, g, w, f⟩ | ⟨c, f⟩ <;> rcases R2 with ⟨r', g', w', f'⟩ | ⟨c', f'⟩
    · have := nV_inj g.1 g'.1 (g.2.1.symm.trans g'.2.1)
      subst this
      exact f.trans f'.symm
    · exact absurd ⟨r, g, w⟩ c'
    · exact absurd ⟨r', g', w'⟩ c
    · exact f.trans f'.symm
  · exact ⟨R.1.trans R2.1.symm, R.2.trans R2.2.symm⟩
  · obtain ⟨t, a, e, R⟩ := R
    obtain ⟨t', a', e', R2⟩ := R2
    obtain ⟨rfl, rfl⟩ := sn1 (e.symm.trans e')
    rcases R with ⟨c, d, f⟩ | ⟨c, d, f⟩ <;> rcases R2 with ⟨c', d', f'⟩ | ⟨c', d', f'⟩
    · exact ⟨d.trans d'.symm, f.trans f'.symm⟩
    · exact absurd c c'
    · exact absurd c' c
    · exact ⟨d.trans d'.symm, f.trans f'.symm⟩
  · exact ⟨R.1.trans R2.1.symm, R.2.trans R2.2.symm⟩
  · obtain ⟨e0, t, a, e, f⟩ := R
    obtain ⟨e0', t', a', e', f'⟩ := R2
    obtain ⟨rfl, rfl⟩ := sn1 (e.symm.trans e')
    exact ⟨e0.trans e0'.symm, f.trans f'.symm⟩
  · obtain ⟨t, a, e, R⟩ := R
    obtain ⟨t', a', e', R2⟩ := R2
    obtain ⟨rfl, rfl⟩ := sn1 (e.symm.trans e')
    rcases R with ⟨k1, hk1, g, R⟩ | ⟨c, d, f⟩ <;> rcases R2 with ⟨k2, hk2', g', R2⟩ | ⟨c', d', f'⟩
    · have := (nI_eq (by omega) (by omega)).mp (g.symm.trans g')
      subst this
      rcases R with ⟨c, d, f⟩ | ⟨c, d, f⟩ <;> rcases R2 with ⟨c', d', f'⟩ | ⟨c', d', f'⟩
      · exact ⟨d.trans d'.symm, f.trans f'.symm⟩
      · exact absurd c c'
      · exact absurd c' c
      · exact ⟨d.trans d'.symm, f.trans f'.symm⟩
    · exact absurd ⟨k1, hk1, g⟩ c'
    · exact absurd ⟨k2, hk2', g'⟩ c
    · exact ⟨d.trans d'.symm, f.trans f'.symm⟩
  · obtain ⟨t, a, e, R⟩ := R
    obtain ⟨t', a', e', R2⟩ := R2
    obtain ⟨rfl, rfl⟩ := sn1 (e.symm.trans e')
    rcases R with ⟨k1, hk1, g, e0, R⟩ | ⟨c, d, f⟩ <;> rcases R2 with ⟨k2, hk2', g', e0', R2⟩ | ⟨c', d', f'⟩
    · have := (nI_eq (by omega) (by omega)).mp (g.symm.trans g')
      subst this
      refine ⟨e0.trans e0'.symm, ?_⟩
      rcases R with ⟨r, u, c, d, f⟩ | ⟨d, f⟩ <;> rcases R2 with ⟨r', u', c', d', f'⟩ | ⟨d', f'⟩
      · obtain ⟨z, -⟩ := List.cons.inj (d.symm.trans d')
        have := nV_inj c c' z
        subst this
        exact f.trans f'.symm
      · rw [d'] at d
        simp at d
      · rw [d] at d'
        simp at d'
      · exact f.trans f'.symm
    · exact absurd ⟨k1, hk1, g⟩ c'
    · exact absurd ⟨k2, hk2', g'⟩ c
    · exact ⟨d.trans d'.symm, f.trans f'.symm⟩
theorem m_set_det {q : Nat} {v : Int32} {M M' M2 : n_M} (h : m_set q v M M') (h2 : m_set q v M M2) : M' = M2 := by
  rcases h with ⟨a, b⟩ | ⟨a, t, x, c, b⟩ | ⟨a, b⟩ | ⟨a, b⟩ | ⟨a, b⟩ <;> rcases h2 with ⟨a', b'⟩ | ⟨a', t', x', c', b'⟩ | ⟨a', b'⟩ | ⟨a', b'⟩ | ⟨a', b'⟩
  all_goals first
    | (exfalso; rw [a] at a'; revert a'; decide)
    | (exfalso; rw [a'] at a; revert a; decide)
    | with_reducible exact b.trans b'.symm
    | (obtain ⟨rfl, rfl⟩ := sn1 (c.symm.trans c'); with_reducible exact b.trans b'.symm)
theorem m_mw_nw {M M' : n_M} {q k : Nat} (h : m_mw M q k M') (h2 : m_nw M q k) : False := by
  rcases h with ⟨a, b, -⟩ | ⟨a, b, -⟩ | ⟨a, t, x, r, b, c, d, -⟩
  · exact h2.1 a b
  · exact h2.2.1 a b
  · obtain ⟨t', x', b', n'⟩ := h2.2.2 a
    obtain ⟨rfl, rfl⟩ := sn1 (b.symm.trans b')
    exact n' ⟨r, c, d⟩
theorem m_mw_det {M M' M2 : n_M} {q k : Nat} (h : m_mw M q k M') (h2 : m_mw M q k M2) : M' = M2 := by
  rcases h with ⟨a, b, c⟩ | ⟨a, b, c⟩ | ⟨a, t, x, r, b, g, d, c⟩ <;> rcases h2 with ⟨a', b', c'⟩ | ⟨a', b', c'⟩ | ⟨a', t', x', r', b', g', d', c'⟩ <;> first | (exfalso; omega) | skip
  · exact c.trans c'.symm
  · exact c.trans c'.symm
  · obtain ⟨rfl, rfl⟩ := sn1 (b.symm.trans b')
    have := nV_inj g.1 g'.1 (g.2.1.symm.trans g'.2.1)
    subst this
    exact c.trans c'.symm
theorem m_act_det {M M' M2 : n_M} {q : Nat} (hI : II M) (hq : n_V q) (ha : m_al M q) (h : m_act M q M') (h2 : m_act M q M2) : M' = M2 := by
  obtain ⟨i0, n0, hi0, h40, hpr, -, -, -⟩ := hI.prog hq ha
  obtain ⟨i, hi, h4, R⟩ := h
  obtain ⟨i', hi', h4', R2⟩ := h2
  have e1 : i = i0 := by
    have := (nI_eq (by omega) (by omega)).mp (h4.symm.trans h40)
    omega
  have e2 : i' = i0 := by
    have := (nI_eq (by omega) (by omega)).mp (h4'.symm.trans h40)
    omega
  subst e1
  subst e2
  have hl := hpr.2.1
  rcases R with ⟨a, b⟩ | ⟨n1, k, hk, hn, h5, hop, R⟩ <;> rcases R2 with ⟨a', b'⟩ | ⟨n2, k', hk', hn', h5', hop', R2⟩
  · exact b.trans b'.symm
  · have := (nI_eq (by omega) (by omega)).mp (a.symm.trans h5')
    omega
  · have := (nI_eq (by omega) (by omega)).mp (a'.symm.trans h5)
    omega
  · have := (nI_eq (by omega) (by omega)).mp (h5.symm.trans h5')
    subst this
    have := (nI_eq (by omega) (by omega)).mp (hop.symm.trans hop')
    have : k = k' := by omega
    subst this
    rcases R with ⟨a, b⟩ | ⟨a, R⟩ <;> rcases R2 with ⟨a', b'⟩ | ⟨a', R2⟩
    · exact b.trans b'.symm
    · omega
    · omega
    · rcases R with w | ⟨w, R⟩ <;> rcases R2 with w' | ⟨w', R2⟩
      · exact m_mw_det w w'
      · exact (m_mw_nw w w').elim
      · exact (m_mw_nw w' w).elim
      · rcases R with ⟨a, b⟩ | ⟨a, v, M1, d, s⟩ <;> rcases R2 with ⟨a', b'⟩ | ⟨a', v', M1', d', s'⟩
        · exact b.trans b'.symm
        · omega
        · omega
        · obtain ⟨rfl, rfl⟩ := m_do_det (show IB (m_s M 5 q _) from IB_cong hI.2.1 (fun _ => ms_n (by omega)) (fun _ => ms_n (by omega)) rfl rfl) d d'
          exact m_set_det s s'
theorem m_tick_det {M M' M2 : n_M} {v v2 : Int32} (hI : II M) (h : m_tick M v M') (h2 : m_tick M v2 M2) : v = v2 ∧ M' = M2 := by
  have iW := II_wake hI
  rcases h with ⟨a, b, c⟩ | ⟨r, q, t, hr, he, hq, hx, hv, hA⟩ <;> rcases h2 with ⟨a', b', c'⟩ | ⟨r', q', t', hr', he', hq', hx', hv', hA'⟩
  · exact ⟨b.trans b'.symm, c.trans c'.symm⟩
  · rw [a r' hr'] at hx'
    simp at hx'
  · rw [a' r hr] at hx
    simp at hx
  · have er : r = r' := by
      rcases Nat.lt_trichotomy r r' with z | z | z
      · rw [he' r z] at hx
        simp at hx
      · exact z
      · rw [he r' z] at hx'
        simp at hx'
    subst er
    obtain ⟨z, -⟩ := List.cons.inj (hx.symm.trans hx')
    have := nV_inj hq hq' z
    subst this
    obtain ⟨q2, k1, k2, k3, k4⟩ := (iW.1.2.1 r hr).2 (nI q) (by rw [hx]; simp)
    have := nV_inj hq k1 k2
    subst this
    exact ⟨hv.trans hv'.symm, m_act_det iW hq (m_al1 k3) hA hA'⟩
