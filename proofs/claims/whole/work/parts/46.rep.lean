def r_v1 (M : n_M) (τ : n_S) (i k : Nat) : Int32 := match k with
  | 5 => τ 26 0 i
  | 6 => τ 28 0 i
  | 7 => τ 20 0 i
  | 8 => τ 21 0 i
  | 9 => τ 22 0 i
  | 10 => τ 23 0 i
  | 11 => M.1 4 i
  | 12 => τ 25 0 i
  | 13 => τ 35 0 i
  | 14 => τ 37 0 i
  | 15 => τ 36 0 i
  | _ => 0
def r_v9 (M : n_M) (τ : n_S) (k : Nat) : Int32 := match k with
  | 7 => τ 0 0 50
  | 8 => τ 0 0 51
  | 9 => τ 0 0 39
  | 10 => M.1 19 0
  | _ => 0
def r_v (M : n_M) (τ : n_S) : n_S := fun κ i k => match κ with
  | 1 => if i = 0 ∧ k = 1 then τ 0 0 4 else 0
  | 2 => if i = 0 then τ 4 0 k else 0
  | 3 => τ 0 0 5
  | 9 => if i = 0 then r_v9 M τ k else 0
  | 14 => τ 42 0 k
  | 16 => τ 45 0 k
  | 17 => M.1 11 k
  | 18 => M.1 13 k
  | 19 => if i = 0 then τ 50 0 k else 0
  | 20 => τ 0 0 40
  | 21 => r_v1 M τ i k
  | 22 => if k < 40 then τ 27 0 (40 * i + k) else 0
  | 23 => if k < 20 then τ 29 0 (20 * i + k) else 0
  | 24 => if k = 2 then (if i % 2 = 0 then τ 30 0 (i / 2) else τ 33 0 (i / 2)) else 0
  | 26 => if k < 8 then (if i % 2 = 0 then τ 31 0 (8 * (i / 2) + k) else τ 34 0 (8 * (i / 2) + k)) else 0
  | 27 => if k < 8 then (if i % 2 = 0 then τ 32 0 (8 * (i / 2) + k) else (M.2 3 i).getD k 0) else 0
  | 28 => if k = 3 then M.1 12 i else nI (M.2 12 i).length
  | 29 => (M.2 12 i).getD k 0
  | 30 => (M.2 13 i).getD k 0
  | 31 => if k = 1 then (if i < 3 then τ 39 0 i else τ 44 0 (i - 3)) else 0
  | 32 => if k < 13 then (if i < 3 then τ 38 0 (13 * i + k) else τ 43 0 (13 * (i - 3) + k)) else 0
  | _ => 0
def r_opL : List Nat := [0, 0, 1, 2, 3, 4, 5, 14, 6, 7, 8, 9, 10, 11, 12, 13, 15, 16, 17, 18, 19, 39, 40, 41, 22, 38, 20, 21, 23, 24, 25, 26, 27, 36, 37, 42, 28, 29, 30, 31, 32, 33, 34, 35]
def r_op (k : Nat) : Nat := r_opL.getD k 0
def RY (M : n_M) (τ : n_S) : Prop := (∀ p i, n_V p → i < 12 → M.1 4 p = nI (i + 1) → τ 24 0 p = nI i) ∧ (∀ i, i < 12 → 0 < M.1 12 i → τ 10 0 i = nI (M.2 12 i).length ∧ ∀ j, j < (M.2 12 i).length → τ 8 0 (256 * i + j) = nI (r_op ((M.2 12 i).getD j 0).toNatClampNeg) ∧ τ 9 0 (256 * i + j) = (M.2 13 i).getD j 0) ∧ τ 0 0 48 = nI (M.2 10 0).length ∧ ∀ j, j < (M.2 10 0).length → τ 46 0 j = nI ((m_nsl M).take j).sum ∧ τ 47 0 j = (M.2 10 0).getD j 0 ∧ τ 48 0 j = (M.2 11 0).getD j 0
def RF (M : n_M) (τ : n_S) : Prop := (∀ i, i < 12 → τ 11 0 i = if 0 < M.1 12 i then 1 else 0) ∧ τ 11 0 12 = 0
def RepQ (M : n_M) (τ : n_S) : Prop := RepC M (r_v M τ) ∧ RY M τ
def RepR (M : n_M) (τ : n_S) : Prop := RepQ M τ ∧ RF M τ
/-- what of the reference lies outside the system's view -/
def r_pk (κ x : Nat) : Prop := κ = 24 ∨ κ = 10 ∨ κ = 8 ∨ κ = 9 ∨ κ = 46 ∨ κ = 47 ∨ κ = 48 ∨ (κ = 0 ∧ x = 48)
theorem RY_cong {M M' : n_M} {τ τ' : n_S} (h : RY M τ) (h4 : ∀ p, n_V p → M'.1 4 p = M.1 4 p) (h12 : ∀ i, i < 12 → M'.1 12 i = M.1 12 i) (l12 : ∀ i, i < 12 → M'.2 12 i = M.2 12 i) (l13 : ∀ i, i < 12 → M'.2 13 i = M.2 13 i) (l10 : M'.2 10 0 = M.2 10 0) (l11 : M'.2 11 0 = M.2 11 0) (ht : ∀ κ x, r_pk κ x → τ' κ 0 x = τ κ 0 x) : RY M' τ' := by
  obtain ⟨g1, g2, g3, g4⟩ := h
  refine ⟨fun p i hp hi e => ?_, fun i hi hu => ?_, ?_, fun j hj => ?_⟩
  · rw [ht 24 p (by unfold r_pk; omega)]
    exact g1 p i hp hi (by rw [← h4 p hp]; exact e)
  · rw [h12 i hi] at hu
    rw [l12 i hi, l13 i hi, ht 10 i (by unfold r_pk; omega)]
    refine ⟨(g2 i hi hu).1, fun j hj => ?_⟩
    rw [ht 8 _ (by unfold r_pk; omega), ht 9 _ (by unfold r_pk; omega)]
    exact (g2 i hi hu).2 j hj
  · rw [l10, ht 0 48 (by unfold r_pk; omega)]
    exact g3
  · unfold m_nsl
    rw [l10, l11, ht 46 j (by unfold r_pk; omega), ht 47 j (by unfold r_pk; omega), ht 48 j (by unfold r_pk; omega)]
    rw [l10] at hj
    exact g4 j hj
theorem RF_cong {M M' : n_M} {τ τ' : n_S} (h : RF M τ) (h12 : ∀ i, i < 12 → M'.1 12 i = M.1 12 i) (ht : ∀ x, τ' 11 0 x = τ 11 0 x) : RF M' τ' := by
  refine ⟨fun i hi => ?_, ?_⟩
  · rw [ht, h12 i hi]; exact h.1 i hi
  · rw [ht]; exact h.2
set_option maxHeartbeats 4000000 in
theorem rs_0 {M : n_M} {τ : n_S} {i : Nat} {v : Int32} (h : RepC M (r_v M τ)) (hi : n_V i) : RepC (m_s M 0 i v) (r_v (m_s M 0 i v) (n_up τ 20 0 i v)) := by
  have h1 := cu_0 (v := v) h hi
  refine ⟨fun c' i' hv => ?_, fun c' i' hv => ?_⟩
  · have h2 := h1.1 c' i' hv
    have hc := m_vS_c hv
    simp only [List.mem_cons, List.not_mem_nil, or_false] at hc
    rcases hc with rfl | rfl | rfl | rfl | rfl | rfl | rfl | rfl | rfl | rfl | rfl | rfl | rfl | rfl | rfl | rfl | rfl | rfl | rfl <;> simp only [cS, m_vS, r_v, r_v1, r_v9, n_up_k] at h2 ⊢ <;> simp_all [m_s]
  · have h2 := h1.2 c' i' hv
    have hc := m_vL_c hv
    simp only [List.mem_cons, List.not_mem_nil, or_false] at hc
    rcases hc with rfl | rfl | rfl | rfl | rfl | rfl | rfl | rfl | rfl <;> simp only [cN, cA, m_vL, r_v, r_v1, r_v9, n_up_k, n_h, m_s_l] at h2 ⊢ <;> simp_all
set_option maxHeartbeats 4000000 in
theorem rs_1 {M : n_M} {τ : n_S} {i : Nat} {v : Int32} (h : RepC M (r_v M τ)) (hi : n_V i) : RepC (m_s M 1 i v) (r_v (m_s M 1 i v) (n_up τ 21 0 i v)) := by
  have h1 := cu_1 (v := v) h hi
  refine ⟨fun c' i' hv => ?_, fun c' i' hv => ?_⟩
  · have h2 := h1.1 c' i' hv
    have hc := m_vS_c hv
    simp only [List.mem_cons, List.not_mem_nil, or_false] at hc
    rcases hc with rfl | rfl | rfl | rfl | rfl | rfl | rfl | rfl | rfl | rfl | rfl | rfl | rfl | rfl | rfl | rfl | rfl | rfl | rfl <;> simp only [cS, m_vS, r_v, r_v1, r_v9, n_up_k] at h2 ⊢ <;> simp_all [m_s]
  · have h2 := h1.2 c' i' hv
    have hc := m_vL_c hv
    simp only [List.mem_cons, List.not_mem_nil, or_false] at hc
    rcases hc with rfl | rfl | rfl | rfl | rfl | rfl | rfl | rfl | rfl <;> simp only [cN, cA, m_vL, r_v, r_v1, r_v9, n_up_k, n_h, m_s_l] at h2 ⊢ <;> simp_all
set_option maxHeartbeats 4000000 in
theorem rs_2 {M : n_M} {τ : n_S} {i : Nat} {v : Int32} (h : RepC M (r_v M τ)) (hi : n_V i) : RepC (m_s M 2 i v) (r_v (m_s M 2 i v) (n_up τ 22 0 i v)) := by
  have h1 := cu_2 (v := v) h hi
  refine ⟨fun c' i' hv => ?_, fun c' i' hv => ?_⟩
  · have h2 := h1.1 c' i' hv
    have hc := m_vS_c hv
    simp only [List.mem_cons, List.not_mem_nil, or_false] at hc
    rcases hc with rfl | rfl | rfl | rfl | rfl | rfl | rfl | rfl | rfl | rfl | rfl | rfl | rfl | rfl | rfl | rfl | rfl | rfl | rfl <;> simp only [cS, m_vS, r_v, r_v1, r_v9, n_up_k] at h2 ⊢ <;> simp_all [m_s]
  · have h2 := h1.2 c' i' hv
    have hc := m_vL_c hv
    simp only [List.mem_cons, List.not_mem_nil, or_false] at hc
    rcases hc with rfl | rfl | rfl | rfl | rfl | rfl | rfl | rfl | rfl <;> simp only [cN, cA, m_vL, r_v, r_v1, r_v9, n_up_k, n_h, m_s_l] at h2 ⊢ <;> simp_all
set_option maxHeartbeats 4000000 in
theorem rs_3 {M : n_M} {τ : n_S} {i : Nat} {v : Int32} (h : RepC M (r_v M τ)) (hi : n_V i) : RepC (m_s M 3 i v) (r_v (m_s M 3 i v) (n_up τ 23 0 i v)) := by
  have h1 := cu_3 (v := v) h hi
  refine ⟨fun c' i' hv => ?_, fun c' i' hv => ?_⟩
  · have h2 := h1.1 c' i' hv
    have hc := m_vS_c hv
    simp only [List.mem_cons, List.not_mem_nil, or_false] at hc
    rcases hc with rfl | rfl | rfl | rfl | rfl | rfl | rfl | rfl | rfl | rfl | rfl | rfl | rfl | rfl | rfl | rfl | rfl | rfl | rfl <;> simp only [cS, m_vS, r_v, r_v1, r_v9, n_up_k] at h2 ⊢ <;> simp_all [m_s]
  · have h2 := h1.2 c' i' hv
    have hc := m_vL_c hv
    simp only [List.mem_cons, List.not_mem_nil, or_false] at hc
    rcases hc with rfl | rfl | rfl | rfl | rfl | rfl | rfl | rfl | rfl <;> simp only [cN, cA, m_vL, r_v, r_v1, r_v9, n_up_k, n_h, m_s_l] at h2 ⊢ <;> simp_all
set_option maxHeartbeats 4000000 in
theorem rs_5 {M : n_M} {τ : n_S} {i : Nat} {v : Int32} (h : RepC M (r_v M τ)) (hi : n_V i) : RepC (m_s M 5 i v) (r_v (m_s M 5 i v) (n_up τ 25 0 i v)) := by
  have h1 := cu_5 (v := v) h hi
  refine ⟨fun c' i' hv => ?_, fun c' i' hv => ?_⟩
  · have h2 := h1.1 c' i' hv
    have hc := m_vS_c hv
    simp only [List.mem_cons, List.not_mem_nil, or_false] at hc
    rcases hc with rfl | rfl | rfl | rfl | rfl | rfl | rfl | rfl | rfl | rfl | rfl | rfl | rfl | rfl | rfl | rfl | rfl | rfl | rfl <;> simp only [cS, m_vS, r_v, r_v1, r_v9, n_up_k] at h2 ⊢ <;> simp_all [m_s]
  · have h2 := h1.2 c' i' hv
    have hc := m_vL_c hv
    simp only [List.mem_cons, List.not_mem_nil, or_false] at hc
    rcases hc with rfl | rfl | rfl | rfl | rfl | rfl | rfl | rfl | rfl <;> simp only [cN, cA, m_vL, r_v, r_v1, r_v9, n_up_k, n_h, m_s_l] at h2 ⊢ <;> simp_all
set_option maxHeartbeats 4000000 in
theorem rs_6 {M : n_M} {τ : n_S} {i : Nat} {v : Int32} (h : RepC M (r_v M τ)) (hi : n_V i) : RepC (m_s M 6 i v) (r_v (m_s M 6 i v) (n_up τ 35 0 i v)) := by
  have h1 := cu_6 (v := v) h hi
  refine ⟨fun c' i' hv => ?_, fun c' i' hv => ?_⟩
  · have h2 := h1.1 c' i' hv
    have hc := m_vS_c hv
    simp only [List.mem_cons, List.not_mem_nil, or_false] at hc
    rcases hc with rfl | rfl | rfl | rfl | rfl | rfl | rfl | rfl | rfl | rfl | rfl | rfl | rfl | rfl | rfl | rfl | rfl | rfl | rfl <;> simp only [cS, m_vS, r_v, r_v1, r_v9, n_up_k] at h2 ⊢ <;> simp_all [m_s]
  · have h2 := h1.2 c' i' hv
    have hc := m_vL_c hv
    simp only [List.mem_cons, List.not_mem_nil, or_false] at hc
    rcases hc with rfl | rfl | rfl | rfl | rfl | rfl | rfl | rfl | rfl <;> simp only [cN, cA, m_vL, r_v, r_v1, r_v9, n_up_k, n_h, m_s_l] at h2 ⊢ <;> simp_all
set_option maxHeartbeats 4000000 in
theorem rs_7 {M : n_M} {τ : n_S} {i : Nat} {v : Int32} (h : RepC M (r_v M τ)) (hi : n_V i) : RepC (m_s M 7 i v) (r_v (m_s M 7 i v) (n_up τ 36 0 i v)) := by
  have h1 := cu_7 (v := v) h hi
  refine ⟨fun c' i' hv => ?_, fun c' i' hv => ?_⟩
  · have h2 := h1.1 c' i' hv
    have hc := m_vS_c hv
    simp only [List.mem_cons, List.not_mem_nil, or_false] at hc
    rcases hc with rfl | rfl | rfl | rfl | rfl | rfl | rfl | rfl | rfl | rfl | rfl | rfl | rfl | rfl | rfl | rfl | rfl | rfl | rfl <;> simp only [cS, m_vS, r_v, r_v1, r_v9, n_up_k] at h2 ⊢ <;> simp_all [m_s]
  · have h2 := h1.2 c' i' hv
    have hc := m_vL_c hv
    simp only [List.mem_cons, List.not_mem_nil, or_false] at hc
    rcases hc with rfl | rfl | rfl | rfl | rfl | rfl | rfl | rfl | rfl <;> simp only [cN, cA, m_vL, r_v, r_v1, r_v9, n_up_k, n_h, m_s_l] at h2 ⊢ <;> simp_all
set_option maxHeartbeats 4000000 in
theorem rs_8 {M : n_M} {τ : n_S} {i : Nat} {v : Int32} (h : RepC M (r_v M τ)) (hi : n_V i) : RepC (m_s M 8 i v) (r_v (m_s M 8 i v) (n_up τ 37 0 i v)) := by
  have h1 := cu_8 (v := v) h hi
  refine ⟨fun c' i' hv => ?_, fun c' i' hv => ?_⟩
  · have h2 := h1.1 c' i' hv
    have hc := m_vS_c hv
    simp only [List.mem_cons, List.not_mem_nil, or_false] at hc
    rcases hc with rfl | rfl | rfl | rfl | rfl | rfl | rfl | rfl | rfl | rfl | rfl | rfl | rfl | rfl | rfl | rfl | rfl | rfl | rfl <;> simp only [cS, m_vS, r_v, r_v1, r_v9, n_up_k] at h2 ⊢ <;> simp_all [m_s]
  · have h2 := h1.2 c' i' hv
    have hc := m_vL_c hv
    simp only [List.mem_cons, List.not_mem_nil, or_false] at hc
    rcases hc with rfl | rfl | rfl | rfl | rfl | rfl | rfl | rfl | rfl <;> simp only [cN, cA, m_vL, r_v, r_v1, r_v9, n_up_k, n_h, m_s_l] at h2 ⊢ <;> simp_all
set_option maxHeartbeats 4000000 in
theorem rs_9 {M : n_M} {τ : n_S} {i : Nat} {v : Int32} (h : RepC M (r_v M τ)) (hi : i < 8) : RepC (m_s M 9 i v) (r_v (m_s M 9 i v) (n_up τ 42 0 i v)) := by
  have h1 := cu_9 (v := v) h hi
  refine ⟨fun c' i' hv => ?_, fun c' i' hv => ?_⟩
  · have h2 := h1.1 c' i' hv
    have hc := m_vS_c hv
    simp only [List.mem_cons, List.not_mem_nil, or_false] at hc
    rcases hc with rfl | rfl | rfl | rfl | rfl | rfl | rfl | rfl | rfl | rfl | rfl | rfl | rfl | rfl | rfl | rfl | rfl | rfl | rfl <;> simp only [cS, m_vS, r_v, r_v1, r_v9, n_up_k] at h2 ⊢ <;> simp_all [m_s]
  · have h2 := h1.2 c' i' hv
    have hc := m_vL_c hv
    simp only [List.mem_cons, List.not_mem_nil, or_false] at hc
    rcases hc with rfl | rfl | rfl | rfl | rfl | rfl | rfl | rfl | rfl <;> simp only [cN, cA, m_vL, r_v, r_v1, r_v9, n_up_k, n_h, m_s_l] at h2 ⊢ <;> simp_all
set_option maxHeartbeats 4000000 in
theorem rs_10 {M : n_M} {τ : n_S} {i : Nat} {v : Int32} (h : RepC M (r_v M τ)) (hi : i < 1024) : RepC (m_s M 10 i v) (r_v (m_s M 10 i v) (n_up τ 45 0 i v)) := by
  have h1 := cu_10 (v := v) h hi
  refine ⟨fun c' i' hv => ?_, fun c' i' hv => ?_⟩
  · have h2 := h1.1 c' i' hv
    have hc := m_vS_c hv
    simp only [List.mem_cons, List.not_mem_nil, or_false] at hc
    rcases hc with rfl | rfl | rfl | rfl | rfl | rfl | rfl | rfl | rfl | rfl | rfl | rfl | rfl | rfl | rfl | rfl | rfl | rfl | rfl <;> simp only [cS, m_vS, r_v, r_v1, r_v9, n_up_k] at h2 ⊢ <;> simp_all [m_s]
  · have h2 := h1.2 c' i' hv
    have hc := m_vL_c hv
    simp only [List.mem_cons, List.not_mem_nil, or_false] at hc
    rcases hc with rfl | rfl | rfl | rfl | rfl | rfl | rfl | rfl | rfl <;> simp only [cN, cA, m_vL, r_v, r_v1, r_v9, n_up_k, n_h, m_s_l] at h2 ⊢ <;> simp_all
set_option maxHeartbeats 4000000 in
theorem rs_15 {M : n_M} {τ : n_S} {i : Nat} {v : Int32} (h : RepC M (r_v M τ)) (hi : i = 0) : RepC (m_s M 15 i v) (r_v (m_s M 15 i v) (n_up τ 0 0 39 v)) := by
  have h1 := cu_15 (v := v) h hi
  refine ⟨fun c' i' hv => ?_, fun c' i' hv => ?_⟩
  · have h2 := h1.1 c' i' hv
    have hc := m_vS_c hv
    simp only [List.mem_cons, List.not_mem_nil, or_false] at hc
    rcases hc with rfl | rfl | rfl | rfl | rfl | rfl | rfl | rfl | rfl | rfl | rfl | rfl | rfl | rfl | rfl | rfl | rfl | rfl | rfl <;> simp only [cS, m_vS, r_v, r_v1, r_v9, n_up_k] at h2 ⊢ <;> simp_all [m_s]
  · have h2 := h1.2 c' i' hv
    have hc := m_vL_c hv
    simp only [List.mem_cons, List.not_mem_nil, or_false] at hc
    rcases hc with rfl | rfl | rfl | rfl | rfl | rfl | rfl | rfl | rfl <;> simp only [cN, cA, m_vL, r_v, r_v1, r_v9, n_up_k, n_h, m_s_l] at h2 ⊢ <;> simp_all
set_option maxHeartbeats 4000000 in
theorem rs_16 {M : n_M} {τ : n_S} {i : Nat} {v : Int32} (h : RepC M (r_v M τ)) (hi : i = 0) : RepC (m_s M 16 i v) (r_v (m_s M 16 i v) (n_up τ 0 0 40 v)) := by
  have h1 := cu_16 (v := v) h hi
  refine ⟨fun c' i' hv => ?_, fun c' i' hv => ?_⟩
  · have h2 := h1.1 c' i' hv
    have hc := m_vS_c hv
    simp only [List.mem_cons, List.not_mem_nil, or_false] at hc
    rcases hc with rfl | rfl | rfl | rfl | rfl | rfl | rfl | rfl | rfl | rfl | rfl | rfl | rfl | rfl | rfl | rfl | rfl | rfl | rfl <;> simp only [cS, m_vS, r_v, r_v1, r_v9, n_up_k] at h2 ⊢ <;> simp_all [m_s]
  · have h2 := h1.2 c' i' hv
    have hc := m_vL_c hv
    simp only [List.mem_cons, List.not_mem_nil, or_false] at hc
    rcases hc with rfl | rfl | rfl | rfl | rfl | rfl | rfl | rfl | rfl <;> simp only [cN, cA, m_vL, r_v, r_v1, r_v9, n_up_k, n_h, m_s_l] at h2 ⊢ <;> simp_all
set_option maxHeartbeats 4000000 in
theorem rs_17 {M : n_M} {τ : n_S} {i : Nat} {v : Int32} (h : RepC M (r_v M τ)) (hi : i = 0) : RepC (m_s M 17 i v) (r_v (m_s M 17 i v) (n_up τ 0 0 5 v)) := by
  have h1 := cu_17 (v := v) h hi
  refine ⟨fun c' i' hv => ?_, fun c' i' hv => ?_⟩
  · have h2 := h1.1 c' i' hv
    have hc := m_vS_c hv
    simp only [List.mem_cons, List.not_mem_nil, or_false] at hc
    rcases hc with rfl | rfl | rfl | rfl | rfl | rfl | rfl | rfl | rfl | rfl | rfl | rfl | rfl | rfl | rfl | rfl | rfl | rfl | rfl <;> simp only [cS, m_vS, r_v, r_v1, r_v9, n_up_k] at h2 ⊢ <;> simp_all [m_s]
  · have h2 := h1.2 c' i' hv
    have hc := m_vL_c hv
    simp only [List.mem_cons, List.not_mem_nil, or_false] at hc
    rcases hc with rfl | rfl | rfl | rfl | rfl | rfl | rfl | rfl | rfl <;> simp only [cN, cA, m_vL, r_v, r_v1, r_v9, n_up_k, n_h, m_s_l] at h2 ⊢ <;> simp_all
set_option maxHeartbeats 4000000 in
theorem rs_18 {M : n_M} {τ : n_S} {i : Nat} {v : Int32} (h : RepC M (r_v M τ)) (hi : i = 0) : RepC (m_s M 18 i v) (r_v (m_s M 18 i v) (n_up τ 0 0 51 v)) := by
  have h1 := cu_18 (v := v) h hi
  refine ⟨fun c' i' hv => ?_, fun c' i' hv => ?_⟩
  · have h2 := h1.1 c' i' hv
    have hc := m_vS_c hv
    simp only [List.mem_cons, List.not_mem_nil, or_false] at hc
    rcases hc with rfl | rfl | rfl | rfl | rfl | rfl | rfl | rfl | rfl | rfl | rfl | rfl | rfl | rfl | rfl | rfl | rfl | rfl | rfl <;> simp only [cS, m_vS, r_v, r_v1, r_v9, n_up_k] at h2 ⊢ <;> simp_all [m_s]
  · have h2 := h1.2 c' i' hv
    have hc := m_vL_c hv
    simp only [List.mem_cons, List.not_mem_nil, or_false] at hc
    rcases hc with rfl | rfl | rfl | rfl | rfl | rfl | rfl | rfl | rfl <;> simp only [cN, cA, m_vL, r_v, r_v1, r_v9, n_up_k, n_h, m_s_l] at h2 ⊢ <;> simp_all
