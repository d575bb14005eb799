theorem m_kids_o {M : n_M} {r q c : Nat} (h3 : M.1 3 q ≠ nI r) (hc : c ≠ 12) : ∀ n, (m_kids r n M).1 c q = M.1 c q ∧ (m_kids r n M).1 3 q = M.1 3 q
  | 0 => ⟨rfl, rfl⟩
  | n + 1 => by
    obtain ⟨g1, g2⟩ := m_kids_o h3 hc n
    show (m_kid1 (m_kids r n M) r (n + 1)).1 c q = _ ∧ (m_kid1 (m_kids r n M) r (n + 1)).1 3 q = _
    rw [← g1, ← g2]
    rw [← g2] at h3
    generalize m_kids r n M = K at h3 ⊢
    unfold m_kid1
    by_cases e : K.1 3 (n + 1) = nI r
    · have hne : q ≠ n + 1 := fun z => h3 (by rw [z]; exact e)
      rw [if_pos e]
      by_cases e7 : K.1 0 (n + 1) = 7
      · rw [if_pos e7, m_van_o hc hne, m_van_o (by omega) hne, ms_n (by omega), ms_n (by omega)]
        exact ⟨rfl, rfl⟩
      · rw [if_neg e7, ms_n (by omega), ms_n (by omega)]
        exact ⟨rfl, rfl⟩
    · rw [if_neg e]
      exact ⟨rfl, rfl⟩
theorem m_fin1_o {M : n_M} {r q c : Nat} {v : Int32} (hrr : M.1 3 r ≠ nI r) (hne : q ≠ r) (h3 : M.1 3 q ≠ nI r) (hc : c ≠ 12 ∧ c ≠ 11 ∧ c ≠ 13) : (m_fin1 M r v).1 c q = M.1 c q := by
  rw [m_fin1_f0 hrr]
  have e : ∀ c, c ≠ 12 ∧ c ≠ 11 ∧ c ≠ 13 → (m_f0 M r v).1 c q = M.1 c q := fun c hc => by rw [m_f0_K, ms_n (by omega), ms_n (by omega), m_K0_s (by omega) (by omega)]
  rw [(m_kids_o (by rw [e 3 (by omega)]; exact h3) hc.1 12).1, e c hc]
/-- a child is ended while its parent q runs: the parent's row and status stay -/
theorem m_fin_kid {M : n_M} (h : II M) {r q : Nat} {v : Int32} (hr : n_V r) (hq : n_V q) (h1 : M.1 0 q = 1) (h3 : M.1 3 r = nI q) : m_fin M r v = m_fin1 M r v ∧ (m_fin M r v).1 0 q = 1 ∧ q ≠ r := by
  have hne : q ≠ r := fun z => h.pn hr (by rw [h3, z])
  have hq3 : M.1 3 q ≠ nI r := by
    rcases h.2.2.2.1 r hr with g | ⟨q', g1, g2, g3, g4, g5⟩
    · exact absurd (g.symm.trans h3) (fun z => nI_ne0 (by have := hq.1; omega) (by have := hq.2; omega) z.symm)
    · have := nV_inj g1 hq (g3.symm.trans h3)
      rw [this] at g5
      exact g5
  have e0 : (m_fin1 M r v).1 0 q = 1 := (m_fin1_o (h.pn hr) hne hq3 (by omega)).trans h1
  have eu : m_up M r = q := by
    unfold m_up
    rw [h3, nI_clamp (by have := hq.2; omega)]
  have ef : m_fin M r v = m_fin1 M r v := by
    unfold m_fin
    rw [if_neg]
    rw [eu, e0]
    exact fun z => absurd z.2.1 (by decide)
  exact ⟨ef, by rw [ef]; exact e0, hne⟩
theorem II_van {M : n_M} (h : II M) {p : Nat} (hp : n_V p) (h7 : M.1 0 p = 7) : II (m_van M p) := by
  have hn : ¬ m_al M p := fun z => (m_al_st z).2 h7
  refine (IW_van h.w hp h7).ii (fun r hr => ?_)
  by_cases e : r = p
  · rw [e]; exact Or.inl (m_van_p M p).2.2.2.1
  · have e3 : (m_van M p).1 3 r = M.1 3 r := m_van_o (by omega) e
    rcases h.2.2.2.1 r hr with g | ⟨r', g1, g2, g3, g4, g5⟩
    · exact Or.inl (e3.trans g)
    · have er : r' ≠ p := fun z => hn (by rw [← z]; exact g4)
      refine Or.inr ⟨r', g1, g2, e3.trans g3, ?_, by rw [m_van_o (by omega) er]; exact g5⟩
      unfold m_al
      rw [m_van_o (by omega) er]
      exact g4
theorem II_box {M : n_M} (h : II M) {r : Nat} (hr : n_V r) (ha : m_al M r) (x y : Int32) : II (m_box M r x y) := by
  refine II_own h hr ha (fun _ _ _ _ => rfl) (fun c i a b _ _ => ?_)
  unfold m_box
  rw [ml_n (by omega), ml_n (by omega)]
theorem II_del {M : n_M} (h : II M) {r : Nat} (hr : n_V r) (ha : m_al M r) (x y : Int32) : II (m_del M r x y) := by
  unfold m_del
  by_cases e : M.1 0 r = 2
  · rw [if_pos e]
    have e' : (m_box M r x y).1 0 r = 2 := e
    exact II_rdy (II_box h hr ha x y) hr ha (by rw [e']; decide)
  · rw [if_neg e]
    exact II_box h hr ha x y
theorem m_del_st {M : n_M} {r q : Nat} {x y : Int32} (h1 : M.1 0 q = 1) : (m_del M r x y).1 0 q = 1 := by
  unfold m_del
  by_cases e : M.1 0 r = 2
  · rw [if_pos e]
    by_cases e2 : q = r
    · rw [e2]; exact m_rdy_0 _ _
    · rw [m_rdy_sn (by omega)]; exact h1
  · rw [if_neg e]; exact h1
theorem m_al1 {M : n_M} {q : Nat} (h : M.1 0 q = 1) : m_al M q := by unfold m_al; rw [h]; decide
theorem II_sem {M : n_M} (h : II M) {q : Nat} (hq : n_V q) (ha : m_al M q) {c i : Nat} (hc : m_frS c) (v : Int32) : II (m_s M c i v) :=
  II_own h hq ha (fun c' i' _ b => ms_n (fun z => b (by rw [z.1]; exact hc))) (fun _ _ _ _ _ _ => rfl)
theorem II_do {M M' : n_M} {q k i : Nat} {n v : Int32} (h : II M) (hq : n_V q) (h1 : M.1 0 q = 1) (hclk : M.1 15 0 < 2147483647) (hi : i < 12) (h4 : M.1 4 q = nI (i + 1)) (hn : (k = 20 ∨ k = 21 ∨ k = 22 ∨ k = 34) → m_tg (M.2 12 i).length n) (hnw : m_nw M q k) (hd : m_do q k n M v M') : II M' ∧ m_al M' q ∧ (v ≠ 1 → M'.1 0 q = 1) := by
  have ha := m_al1 h1
  obtain ⟨hn5, hret⟩ : m_tg (M.2 12 i).length (M.1 5 q) ∧ ∀ x ∈ M.2 1 q, m_tg (M.2 12 i).length x := by
    obtain ⟨i', hi', x1, x2, x3⟩ := (h.2.2.1 q hq).2.2.2.1 (m_al_st ha).1
    have : i' = i := by
      have := (nI_eq (by omega) (by omega)).mp (x1.symm.trans h4)
      omega
    rw [this] at x2 x3
    exact ⟨x2, x3⟩
  have stk : ∀ l, II (m_l M 0 q l) ∧ m_al (m_l M 0 q l) q ∧ (v ≠ 1 → (m_l M 0 q l).1 0 q = 1) := fun l => ⟨II_stk h hq ha l, ha, fun _ => h1⟩
  have stk2 : ∀ {N : n_M} (l : List Int32), II N → N.1 0 q = 1 → II (m_l N 0 q l) ∧ m_al (m_l N 0 q l) q ∧ (v ≠ 1 → (m_l N 0 q l).1 0 q = 1) := fun l a b => ⟨II_stk a hq (m_al1 b) l, m_al1 b, fun _ => b⟩
  have nx : ∀ x l, m_tg (M.2 12 i).length x → (∀ y ∈ l, m_tg (M.2 12 i).length y) → II (m_s (m_l M 1 q l) 5 q x) ∧ m_al (m_s (m_l M 1 q l) 5 q x) q ∧ (v ≠ 1 → (m_s (m_l M 1 q l) 5 q x).1 0 q = 1) := fun x l a b => ⟨II_next h hq ha hi h4 a b, ha, fun _ => h1⟩
  have lvq := h.1.1 q hq
  rcases hd with ⟨-, -, st', -, rfl⟩ | hd
  · exact stk _
  rcases hd with ⟨-, t, a, b, -, ⟨-, -, rfl⟩ | ⟨-, -, rfl⟩⟩ | hd
  · exact stk _
  · exact stk _
  rcases hd with ⟨hk, -, rfl⟩ | hd
  · have := nx n (M.2 1 q) (hn (by omega)) hret
    rw [ml_id rfl] at this
    exact this
  rcases hd with ⟨hk, -, t, a, -, rfl⟩ | hd
  · by_cases e : a = 0
    · rw [if_pos e]
      have hh := II_next (II_stk h hq ha t) hq ha hi h4 (hn (by omega)) hret
      rw [ml_id (M := m_l M 0 q t) (c := 1) (i := q) (x := M.2 1 q) (ml_n (by omega))] at hh
      exact ⟨hh, ha, fun _ => h1⟩
    · rw [if_neg e]
      exact stk _
  rcases hd with ⟨hk, ⟨-, -, rfl⟩ | ⟨-, -, rfl⟩⟩ | hd
  · exact ⟨h, ha, fun _ => h1⟩
  · refine nx n _ (hn (by omega)) (fun y hy => ?_)
    rcases List.mem_append.mp hy with hy | hy
    · exact hret y hy
    · rw [List.mem_singleton.mp hy]; exact hn5
  rcases hd with ⟨hk, ⟨-, -, rfl⟩ | ⟨t, a, ht, -, rfl⟩⟩ | hd
  · exact ⟨h, ha, fun _ => h1⟩
  · rw [ht] at hret
    exact nx a t (hret a (by simp)) (fun y hy => hret y (by simp [hy]))
  rcases hd with ⟨hk, -, rfl⟩ | hd
  · exact ⟨h, ha, fun _ => h1⟩
  rcases hd with ⟨hk, t, a, -, ⟨j, -, -, rfl⟩ | ⟨-, -, rfl⟩⟩ | hd
  · exact stk _
  · exact stk _
  rcases hd with ⟨hk, t, x, a, -, ⟨j, -, -, rfl⟩ | ⟨-, -, rfl⟩⟩ | hd
  · exact ⟨II_sem (II_stk h hq ha t) hq ha (Or.inr (Or.inl rfl)) _, ha, fun _ => h1⟩
  · exact stk _
  rcases hd with ⟨hk, -, t, a, -, ⟨n', j, ⟨hn1, -⟩, -, hf, rfl⟩ | ⟨-, rfl⟩⟩ | hd
  · exact stk2 _ (II_cut (II_stk h hq ha t) hf hn1) ((m_cut_s (by omega)).trans h1)
  · exact stk _
  rcases hd with ⟨hk, -, t, a, -, ⟨-, rfl⟩ | ⟨-, rfl⟩⟩ | hd
  · exact stk2 _ (II_free (II_stk h hq ha t) _ _) ((m_free_s (by omega)).trans h1)
  · exact stk _
  rcases hd with ⟨hk, -, t, a, x, -, ⟨r, j, -, -, -, hj, rfl⟩ | ⟨-, rfl⟩⟩ | hd
  · exact stk2 _ (II_own1 (II_stk h hq ha t) hj.1 _) ((m_mem_s (by omega)).trans h1)
  · exact stk _
  rcases hd with ⟨hk, -, t, x, y, -, ⟨-, rfl⟩ | ⟨r, hr, -, har, ⟨-, rfl⟩ | ⟨-, rfl⟩⟩⟩ | hd
  · exact stk _
  · exact stk _
  · exact stk2 _ (II_del (II_stk h hq ha t) hr har _ _) (m_del_st h1)
  rcases hd with ⟨hk, -, x, y, bs, ws, -, -, rfl⟩ | hd
  · refine ⟨II_own h hq ha (fun _ _ _ _ => rfl) (fun c i a b _ _ => ?_), ha, fun _ => h1⟩
    rw [ml_n (by omega), ml_n (by omega), ml_n (by omega)]
  rcases hd with ⟨hk, -, t, x, -, rfl⟩ | hd
  · unfold m_show
    by_cases e : ((m_l M 0 q t).2 7 0).length < 2000
    · rw [if_pos e]
      refine ⟨II_own h hq ha (fun _ _ _ _ => rfl) (fun c i a b d _ => ?_), ha, fun _ => h1⟩
      rw [ml_n (by omega), ml_n (by omega)]
    · rw [if_neg e]
      exact ⟨II_sem (II_stk h hq ha t) hq ha (by unfold m_frS; omega) _, ha, fun _ => h1⟩
  rcases hd with ⟨hk, -, x, bs, -, rfl⟩ | hd
  · refine ⟨II_own h hq ha (fun _ _ _ _ => rfl) (fun c i a b _ _ => ?_), ha, fun _ => h1⟩
    rw [ml_n (by omega), ml_n (by omega), ml_n (by omega)]
  rcases hd with ⟨hk, -, ⟨r, i', hi', h4', ⟨hr, hr0, -⟩, rfl⟩ | ⟨-, rfl⟩⟩ | hd
  · have hii : i' = i := by
      have := (nI_eq (by omega) (by omega)).mp (h4'.symm.trans h4)
      omega
    subst hii
    have hu : 0 < M.1 12 i' := by
      rw [h.2.2.2.2.1 i' hi]
      have hc := m_cnt_off (M := M) (M' := m_s M 4 q 0) i' (fun r hr => ms_n (by omega)) (ms_e _ _ _ _) hq.1 12 (Nat.le_refl _) hi
      rw [if_pos ⟨hq.2, h4⟩] at hc
      have := m_cnt_le M i' 12
      exact (nI_ltI (a := 0) (by omega) (by omega)).mpr (by omega)
    have hne : q ≠ r := fun z => by rw [z, hr0] at h1; exact absurd h1 (by decide)
    unfold m_spn
    have hN := II_new h hr hr0 hi (h.2.2.2.2.2 i' hi hu) (a := M.1 2 q) lvq (x := nI q) (Or.inr ⟨q, hq, ha, rfl⟩) (hn (by omega))
    refine stk2 _ hN ?_
    rw [ms_n (by omega), ms_n (by omega), m_adm_s (by omega) (by omega)]
    exact h1
  · exact stk _
  rcases hd with ⟨hk, -, t, x, ht, ⟨r, hr, rfl⟩ | ⟨-, rfl⟩⟩ | hd
  · obtain ⟨hr1, hr2, hr3⟩ := hr
    have hne : q ≠ r := fun z => h.pn hr1 (by rw [hr3, z])
    have hnal : ¬ m_al M r := by
      obtain ⟨t', x', ht', hno⟩ := hnw.2.2 hk
      rw [ht] at ht'
      obtain ⟨rfl, e2⟩ := List.append_inj' ht' rfl
      obtain rfl : x = x' := by simpa using e2
      exact fun z => hno ⟨r, ⟨hr1, hr2, hr3⟩, z⟩
    have h70 : M.1 0 r ≠ 0 := fun z => by
      have := ((h.2.2.1 r hr1).2.1 z).2.2.2.1
      rw [hr3] at this
      exact nI_ne0 (by have := hq.1; omega) (by have := hq.2; omega) this
    have h7 : M.1 0 r = 7 := by
      refine Classical.byContradiction (fun z => hnal (m_st_al (h.2.2.1 r hr1) ⟨h70, z⟩))
    have hN : II (m_van (m_l M 0 q (t ++ [M.1 1 r] ++ [1])) r) := II_van (II_stk h hq ha _) hr1 h7
    have e0 : (m_van (m_l M 0 q (t ++ [M.1 1 r] ++ [1])) r).1 0 q = 1 := (m_van_o (by omega) hne).trans h1
    exact ⟨hN, m_al1 e0, fun _ => e0⟩
  · exact stk _
  rcases hd with ⟨hk, -, t, x, ht, ⟨r, ⟨hr1, hr2, hr3⟩, har, rfl⟩ | ⟨-, rfl⟩⟩ | hd
  · obtain ⟨-, e0, -⟩ := m_fin_kid (v := -1) (II_stk h hq ha t) hr1 hq h1 hr3
    exact stk2 _ (II_fin (II_stk h hq ha t) hr1 har _) e0
  · exact stk _
  rcases hd with ⟨hk, -, rfl⟩ | hd
  · exact stk _
  have pl : ∀ {N : n_M} (a : Int32), II N → N.1 0 q = 1 → (∃ r, r < 3 ∧ a = nI r) → v = 1 → II (m_plast N q a) ∧ m_al (m_plast N q a) q ∧ (v ≠ 1 → (m_plast N q a).1 0 q = 1) := by
    intro N a a1 a2 a3 a4
    refine ⟨II_plast a1 hq a2 a3, m_al1 ?_, fun z => absurd a4 z⟩
    unfold m_plast
    rw [m_rdy_0]
  rcases hd with ⟨hk, t, a, -, ⟨hr, hv, rfl⟩ | ⟨-, -, rfl⟩⟩ | hd
  · exact pl a (II_stk h hq ha t) h1 hr hv
  · exact stk _
  rcases hd with ⟨hk, hv, rfl⟩ | hd
  · exact pl _ h h1 lvq hv
  rcases hd with ⟨hk, hv, t, a, -, rfl⟩ | hd
  · by_cases e : a < 1
    · rw [if_pos e]
      exact pl _ (II_stk h hq ha t) h1 lvq hv
    · rw [if_neg e]
      refine ⟨II_slp (II_stk h hq ha t) hq h1 e hclk, ?_, fun z => absurd hv z⟩
      unfold m_al m_slp
      rw [m_susp_0]
      decide
  rcases hd with ⟨hk, t, a, -, ⟨k', hk', -, ⟨-, -, rfl⟩ | ⟨-, hv, rfl⟩⟩ | ⟨-, -, rfl⟩⟩ | hd
  · exact ⟨II_sem (II_stk h hq ha t) hq ha (Or.inl rfl) _, ha, fun _ => h1⟩
  · refine ⟨II_jn (II_stk h hq ha t) hq hk' h1, ?_, fun z => absurd hv z⟩
    unfold m_al
    rw [m_jn_eq, m_l_s, m_susp_0]
    decide
  · exact stk _
  rcases hd with ⟨hk, t, a, -, ⟨k', hk', -, -, ⟨r, u, hr, hu, rfl⟩ | ⟨-, rfl⟩⟩ | ⟨-, -, rfl⟩⟩
  · have hN := II_up (II_stk h hq ha t) hk' hr hu
    have e6 := (IR_up h.1 hk' hr hu).1
    have hne : q ≠ r := fun z => by rw [z, e6] at h1; exact absurd h1 (by decide)
    have e0 : (m_rdy (m_out (m_l M 0 q t) (k' + 3) r) r).1 0 q = 1 := (m_rdy_sn (by omega)).trans h1
    exact ⟨hN, m_al1 e0, fun _ => e0⟩
  · by_cases e : M.1 9 k' < 1000000
    · rw [if_pos e]
      exact ⟨II_sem (II_stk h hq ha t) hq ha (Or.inl rfl) _, ha, fun _ => h1⟩
    · rw [if_neg e]
      exact stk _
  · exact stk _
