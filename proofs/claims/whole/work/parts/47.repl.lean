set_option maxHeartbeats 2000000 in
theorem rl_0 {M : n_M} {τ τ' : n_S} {i : Nat} {l0 : List Int32} (h : RepC M (r_v M τ)) (hi : n_V i) (ht : ∀ κ x, ¬ (κ = 26 ∧ x = i) → ¬ (κ = 27 ∧ 40 * i ≤ x ∧ x < 40 * i + 40) → τ' κ 0 x = τ κ 0 x) (hn : τ' 26 0 i = nI l0.length) (hl : l0.length ≤ 40) (hh : ∀ j, j < l0.length → τ' 27 0 (40 * i + j) = l0.getD j 0) : RepC (m_l M 0 i l0) (r_v (m_l M 0 i l0) τ') := by
  have hs : ∀ κ i' k, ¬ (κ = 21 ∧ i' = i ∧ k = 5) → ¬ (κ = 22 ∧ i' = i) → r_v (m_l M 0 i l0) τ' κ i' k = r_v M τ κ i' k := by
    intro κ i' k h0 h1
    unfold r_v
    split
    all_goals first
      | rfl
      | exact ht _ _ (by omega) (by omega)
      | (unfold r_v1; split <;> first | rfl | exact ht _ _ (by omega) (by omega))
      | (split <;> first | rfl | (unfold r_v9; split <;> first | rfl | exact ht _ _ (by omega) (by omega)))
      | (split <;> first | rfl | exact ht _ _ (by omega) (by omega) | (split <;> first | rfl | exact ht _ _ (by omega) (by omega)))
      | (rw [ml_n (by omega), ml_n (by omega)]; split <;> first | rfl | (split <;> first | rfl | exact ht _ _ (by omega) (by omega)))
      | (split <;> first | rfl | (split <;> first | rfl | exact ht _ _ (by omega) (by omega) | rw [ml_n (by omega)]))
  refine cl_0 h hi hs hn hl (fun j hj => ?_)
  show (if j < 40 then τ' 27 0 (40 * i + j) else 0) = _
  rw [if_pos (by omega)]
  exact hh j hj
set_option maxHeartbeats 2000000 in
theorem rl_1 {M : n_M} {τ τ' : n_S} {i : Nat} {l0 : List Int32} (h : RepC M (r_v M τ)) (hi : n_V i) (ht : ∀ κ x, ¬ (κ = 28 ∧ x = i) → ¬ (κ = 29 ∧ 20 * i ≤ x ∧ x < 20 * i + 20) → τ' κ 0 x = τ κ 0 x) (hn : τ' 28 0 i = nI l0.length) (hl : l0.length ≤ 20) (hh : ∀ j, j < l0.length → τ' 29 0 (20 * i + j) = l0.getD j 0) : RepC (m_l M 1 i l0) (r_v (m_l M 1 i l0) τ') := by
  have hs : ∀ κ i' k, ¬ (κ = 21 ∧ i' = i ∧ k = 6) → ¬ (κ = 23 ∧ i' = i) → r_v (m_l M 1 i l0) τ' κ i' k = r_v M τ κ i' k := by
    intro κ i' k h0 h1
    unfold r_v
    split
    all_goals first
      | rfl
      | exact ht _ _ (by omega) (by omega)
      | (unfold r_v1; split <;> first | rfl | exact ht _ _ (by omega) (by omega))
      | (split <;> first | rfl | (unfold r_v9; split <;> first | rfl | exact ht _ _ (by omega) (by omega)))
      | (split <;> first | rfl | exact ht _ _ (by omega) (by omega) | (split <;> first | rfl | exact ht _ _ (by omega) (by omega)))
      | (rw [ml_n (by omega), ml_n (by omega)]; split <;> first | rfl | (split <;> first | rfl | exact ht _ _ (by omega) (by omega)))
      | (split <;> first | rfl | (split <;> first | rfl | exact ht _ _ (by omega) (by omega) | rw [ml_n (by omega)]))
  refine cl_1 h hi hs hn hl (fun j hj => ?_)
  show (if j < 20 then τ' 29 0 (20 * i + j) else 0) = _
  rw [if_pos (by omega)]
  exact hh j hj
set_option maxHeartbeats 2000000 in
theorem rl_2 {M : n_M} {τ τ' : n_S} {q : Nat} {l0 l1 : List Int32} (h : RepC M (r_v M τ)) (hq : n_V q) (ht : ∀ κ x, ¬ (κ = 30 ∧ x = q) → ¬ (κ = 31 ∧ 8 * q ≤ x ∧ x < 8 * q + 8) → ¬ (κ = 32 ∧ 8 * q ≤ x ∧ x < 8 * q + 8) → τ' κ 0 x = τ κ 0 x) (hn : τ' 30 0 q = nI l0.length) (hl : l0.length ≤ 8) (he : l1.length = l0.length) (hh : ∀ j, j < l0.length → τ' 31 0 (8 * q + j) = l0.getD j 0) (hk : ∀ j, j < l1.length → τ' 32 0 (8 * q + j) = l1.getD j 0) : RepC (m_l (m_l M 2 (2 * q) l0) 3 (2 * q) l1) (r_v (m_l (m_l M 2 (2 * q) l0) 3 (2 * q) l1) τ') := by
  have hs : ∀ κ i' k, ¬ (κ = 24 ∧ i' = 2 * q ∧ k = 2) → ¬ (κ = 26 ∧ i' = 2 * q) → ¬ (κ = 27 ∧ i' = 2 * q) → r_v (m_l (m_l M 2 (2 * q) l0) 3 (2 * q) l1) τ' κ i' k = r_v M τ κ i' k := by
    intro κ i' k h0 h1 h2
    unfold r_v
    split
    all_goals first
      | rfl
      | exact ht _ _ (by omega) (by omega) (by omega)
      | (unfold r_v1; split <;> first | rfl | exact ht _ _ (by omega) (by omega) (by omega))
      | (split <;> first | rfl | (unfold r_v9; split <;> first | rfl | exact ht _ _ (by omega) (by omega) (by omega)))
      | (split <;> first | rfl | exact ht _ _ (by omega) (by omega) (by omega) | (split <;> first | rfl | exact ht _ _ (by omega) (by omega) (by omega)))
      | (rw [ml_n (by omega), ml_n (by omega)]; split <;> first | rfl | (split <;> first | rfl | exact ht _ _ (by omega) (by omega) (by omega)))
      | (split <;> first | rfl | (split <;> first | rfl | exact ht _ _ (by omega) (by omega) (by omega) | rw [ml_n (by omega)]))
  have e1 : 2 * q % 2 = 0 := by omega
  have e2 : 2 * q / 2 = q := by omega
  have hi : m_vL 2 (2 * q) := by
    show 2 ≤ 2 * q ∧ 2 * q ≤ 25
    obtain ⟨h1, h2⟩ := hq
    omega
  refine cl_2 h hi hs ?_ hl (fun j hj => ?_) (by omega) (fun j hj => ?_) he
  · show (if 2 = 2 then (if 2 * q % 2 = 0 then τ' 30 0 (2 * q / 2) else _) else 0) = _
    rw [if_pos rfl, if_pos e1, e2]
    exact hn
  · show (if j < 8 then (if 2 * q % 2 = 0 then τ' 31 0 (8 * (2 * q / 2) + j) else _) else 0) = _
    rw [if_pos (by omega), if_pos e1, e2]
    exact hh j hj
  · show (if j < 8 then (if 2 * q % 2 = 0 then τ' 32 0 (8 * (2 * q / 2) + j) else _) else 0) = _
    rw [if_pos (by omega), if_pos e1, e2]
    exact hk j hj
set_option maxHeartbeats 2000000 in
theorem rl_k {M : n_M} {τ τ' : n_S} {q : Nat} {l0 l1 : List Int32} (h : RepC M (r_v M τ)) (hq : n_V q) (ht : ∀ κ x, ¬ (κ = 33 ∧ x = q) → ¬ (κ = 34 ∧ 8 * q ≤ x ∧ x < 8 * q + 8) → τ' κ 0 x = τ κ 0 x) (hn : τ' 33 0 q = nI l0.length) (hl : l0.length ≤ 8) (he : l1.length = l0.length) (hh : ∀ j, j < l0.length → τ' 34 0 (8 * q + j) = l0.getD j 0) : RepC (m_l (m_l M 2 (2 * q + 1) l0) 3 (2 * q + 1) l1) (r_v (m_l (m_l M 2 (2 * q + 1) l0) 3 (2 * q + 1) l1) τ') := by
  have hs : ∀ κ i' k, ¬ (κ = 24 ∧ i' = 2 * q + 1 ∧ k = 2) → ¬ (κ = 26 ∧ i' = 2 * q + 1) → ¬ (κ = 27 ∧ i' = 2 * q + 1) → r_v (m_l (m_l M 2 (2 * q + 1) l0) 3 (2 * q + 1) l1) τ' κ i' k = r_v M τ κ i' k := by
    intro κ i' k h0 h1 h2
    unfold r_v
    split
    all_goals first
      | rfl
      | exact ht _ _ (by omega) (by omega)
      | (unfold r_v1; split <;> first | rfl | exact ht _ _ (by omega) (by omega))
      | (split <;> first | rfl | (unfold r_v9; split <;> first | rfl | exact ht _ _ (by omega) (by omega)))
      | (split <;> first | rfl | exact ht _ _ (by omega) (by omega) | (split <;> first | rfl | exact ht _ _ (by omega) (by omega)))
      | (rw [ml_n (by omega), ml_n (by omega)]; split <;> first | rfl | (split <;> first | rfl | exact ht _ _ (by omega) (by omega)))
      | (split <;> first | rfl | (split <;> first | rfl | exact ht _ _ (by omega) (by omega) | rw [ml_n (by omega)]))
  have e1 : ¬ (2 * q + 1) % 2 = 0 := by omega
  have e2 : (2 * q + 1) / 2 = q := by omega
  have hi : m_vL 2 (2 * q + 1) := by
    show 2 ≤ 2 * q + 1 ∧ 2 * q + 1 ≤ 25
    obtain ⟨h1, h2⟩ := hq
    omega
  refine cl_2 h hi hs ?_ hl (fun j hj => ?_) (by omega) (fun j hj => ?_) he
  · show (if 2 = 2 then (if (2 * q + 1) % 2 = 0 then _ else τ' 33 0 ((2 * q + 1) / 2)) else 0) = _
    rw [if_pos rfl, if_neg e1, e2]
    exact hn
  · show (if j < 8 then (if (2 * q + 1) % 2 = 0 then _ else τ' 34 0 (8 * ((2 * q + 1) / 2) + j)) else 0) = _
    rw [if_pos (by omega), if_neg e1, e2]
    exact hh j hj
  · show (if j < 8 then (if (2 * q + 1) % 2 = 0 then _ else ((m_l (m_l M 2 (2 * q + 1) l0) 3 (2 * q + 1) l1).2 3 (2 * q + 1)).getD j 0) else 0) = _
    rw [if_pos (by omega), if_neg e1, ml_e]
set_option maxHeartbeats 2000000 in
theorem rl_5 {M : n_M} {τ τ' : n_S} {i : Nat} {l0 : List Int32} (h : RepC M (r_v M τ)) (hi : i < 3) (ht : ∀ κ x, ¬ (κ = 39 ∧ x = i) → ¬ (κ = 38 ∧ 13 * i ≤ x ∧ x < 13 * i + 13) → τ' κ 0 x = τ κ 0 x) (hn : τ' 39 0 i = nI l0.length) (hl : l0.length ≤ 12) (hh : ∀ j, j < l0.length → τ' 38 0 (13 * i + j) = l0.getD j 0) : RepC (m_l M 5 i l0) (r_v (m_l M 5 i l0) τ') := by
  have hs : ∀ κ i' k, ¬ (κ = 31 ∧ i' = i ∧ k = 1) → ¬ (κ = 32 ∧ i' = i) → r_v (m_l M 5 i l0) τ' κ i' k = r_v M τ κ i' k := by
    intro κ i' k h0 h1
    unfold r_v
    split
    all_goals first
      | rfl
      | exact ht _ _ (by omega) (by omega)
      | (unfold r_v1; split <;> first | rfl | exact ht _ _ (by omega) (by omega))
      | (split <;> first | rfl | (unfold r_v9; split <;> first | rfl | exact ht _ _ (by omega) (by omega)))
      | (split <;> first | rfl | exact ht _ _ (by omega) (by omega) | (split <;> first | rfl | exact ht _ _ (by omega) (by omega)))
      | (rw [ml_n (by omega), ml_n (by omega)]; split <;> first | rfl | (split <;> first | rfl | exact ht _ _ (by omega) (by omega)))
      | (split <;> first | rfl | (split <;> first | rfl | exact ht _ _ (by omega) (by omega) | rw [ml_n (by omega)]))
  have hv : m_vL 5 i := by show i < 11; omega
  refine cl_5 h hv hs ?_ hl (fun j hj => ?_)
  · show (if 1 = 1 then (if i < 3 then τ' 39 0 i else _) else 0) = _
    rw [if_pos rfl, if_pos hi]
    exact hn
  · show (if j < 13 then (if i < 3 then τ' 38 0 (13 * i + j) else _) else 0) = _
    rw [if_pos (by omega), if_pos hi]
    exact hh j hj
set_option maxHeartbeats 2000000 in
theorem rl_q {M : n_M} {τ τ' : n_S} {k0 : Nat} {l0 : List Int32} (h : RepC M (r_v M τ)) (hi : k0 < 8) (ht : ∀ κ x, ¬ (κ = 44 ∧ x = k0) → ¬ (κ = 43 ∧ 13 * k0 ≤ x ∧ x < 13 * k0 + 13) → τ' κ 0 x = τ κ 0 x) (hn : τ' 44 0 k0 = nI l0.length) (hl : l0.length ≤ 12) (hh : ∀ j, j < l0.length → τ' 43 0 (13 * k0 + j) = l0.getD j 0) : RepC (m_l M 5 (k0 + 3) l0) (r_v (m_l M 5 (k0 + 3) l0) τ') := by
  have hs : ∀ κ i' k, ¬ (κ = 31 ∧ i' = k0 + 3 ∧ k = 1) → ¬ (κ = 32 ∧ i' = k0 + 3) → r_v (m_l M 5 (k0 + 3) l0) τ' κ i' k = r_v M τ κ i' k := by
    intro κ i' k h0 h1
    unfold r_v
    split
    all_goals first
      | rfl
      | exact ht _ _ (by omega) (by omega)
      | (unfold r_v1; split <;> first | rfl | exact ht _ _ (by omega) (by omega))
      | (split <;> first | rfl | (unfold r_v9; split <;> first | rfl | exact ht _ _ (by omega) (by omega)))
      | (split <;> first | rfl | exact ht _ _ (by omega) (by omega) | (split <;> first | rfl | exact ht _ _ (by omega) (by omega)))
      | (rw [ml_n (by omega), ml_n (by omega)]; split <;> first | rfl | (split <;> first | rfl | exact ht _ _ (by omega) (by omega)))
      | (split <;> first | rfl | (split <;> first | rfl | exact ht _ _ (by omega) (by omega) | rw [ml_n (by omega)]))
  have hv : m_vL 5 (k0 + 3) := by show k0 + 3 < 11; omega
  have e3 : k0 + 3 - 3 = k0 := by omega
  refine cl_5 h hv hs ?_ hl (fun j hj => ?_)
  · show (if 1 = 1 then (if k0 + 3 < 3 then τ' 39 0 (k0 + 3) else τ' 44 0 (k0 + 3 - 3)) else 0) = _
    rw [if_pos rfl, if_neg (by omega), e3]
    exact hn
  · show (if j < 13 then (if k0 + 3 < 3 then τ' 38 0 (13 * (k0 + 3) + j) else τ' 43 0 (13 * (k0 + 3 - 3) + j)) else 0) = _
    rw [if_pos (by omega), if_neg (by omega), e3]
    exact hh j hj
set_option maxHeartbeats 2000000 in
theorem rl_7 {M : n_M} {τ τ' : n_S} {l0 : List Int32} (h : RepC M (r_v M τ))  (ht : ∀ κ x, ¬ (κ = 0 ∧ x = 50) → ¬ (κ = 50) → τ' κ 0 x = τ κ 0 x) (hn : τ' 0 0 50 = nI l0.length) (hl : l0.length ≤ 2000) (hh : ∀ j, j < l0.length → τ' 50 0 j = l0.getD j 0) : RepC (m_l M 7 0 l0) (r_v (m_l M 7 0 l0) τ') := by
  have hs : ∀ κ i' k, ¬ (κ = 9 ∧ i' = 0 ∧ k = 7) → ¬ (κ = 19 ∧ i' = 0) → r_v (m_l M 7 0 l0) τ' κ i' k = r_v M τ κ i' k := by
    intro κ i' k h0 h1
    unfold r_v
    split
    all_goals first
      | rfl
      | exact ht _ _ (by omega) (by omega)
      | (unfold r_v1; split <;> first | rfl | exact ht _ _ (by omega) (by omega))
      | (split <;> first | rfl | (unfold r_v9; split <;> first | rfl | exact ht _ _ (by omega) (by omega)))
      | (split <;> first | rfl | exact ht _ _ (by omega) (by omega) | (split <;> first | rfl | exact ht _ _ (by omega) (by omega)))
      | (rw [ml_n (by omega), ml_n (by omega)]; split <;> first | rfl | (split <;> first | rfl | exact ht _ _ (by omega) (by omega)))
      | (split <;> first | rfl | (split <;> first | rfl | exact ht _ _ (by omega) (by omega) | rw [ml_n (by omega)]))
  exact cl_7 h rfl hs hn hl (fun j hj => hh j hj)
set_option maxHeartbeats 2000000 in
theorem rl_8 {M : n_M} {τ τ' : n_S} {l0 : List Int32} (h : RepC M (r_v M τ))  (ht : ∀ κ x, ¬ (κ = 0 ∧ x = 4) → ¬ (κ = 4) → τ' κ 0 x = τ κ 0 x) (hn : τ' 0 0 4 = nI l0.length) (hl : l0.length ≤ 8192) (hh : ∀ j, j < l0.length → τ' 4 0 j = l0.getD j 0) : RepC (m_l M 8 0 l0) (r_v (m_l M 8 0 l0) τ') := by
  have hs : ∀ κ i' k, ¬ (κ = 1 ∧ i' = 0 ∧ k = 1) → ¬ (κ = 2 ∧ i' = 0) → r_v (m_l M 8 0 l0) τ' κ i' k = r_v M τ κ i' k := by
    intro κ i' k h0 h1
    unfold r_v
    split
    all_goals first
      | rfl
      | exact ht _ _ (by omega) (by omega)
      | (unfold r_v1; split <;> first | rfl | exact ht _ _ (by omega) (by omega))
      | (split <;> first | rfl | (unfold r_v9; split <;> first | rfl | exact ht _ _ (by omega) (by omega)))
      | (split <;> first | rfl | exact ht _ _ (by omega) (by omega) | (split <;> first | rfl | exact ht _ _ (by omega) (by omega)))
      | (rw [ml_n (by omega), ml_n (by omega)]; split <;> first | rfl | (split <;> first | rfl | exact ht _ _ (by omega) (by omega)))
      | (split <;> first | rfl | (split <;> first | rfl | exact ht _ _ (by omega) (by omega) | rw [ml_n (by omega)]))
  exact cl_8 h rfl hs hn hl (fun j hj => hh j hj)
