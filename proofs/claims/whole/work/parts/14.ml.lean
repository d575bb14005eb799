set_option maxHeartbeats 4000000 in
theorem cl_0 {M : n_M} {σ σ' : n_S} {i : Nat} {l0 : List Int32} (h : RepC M σ) (hi : m_vL 0 i) (hs : ∀ κ i' k, ¬ (κ = 21 ∧ i' = i ∧ k = 5) → ¬ (κ = 22 ∧ i' = i) → σ' κ i' k = σ κ i' k) (hn : σ' 21 i 5 = nI l0.length) (hl0 : l0.length ≤ 40) (hh0 : n_h (σ' 22 i) l0)  : RepC (m_l M 0 i l0) σ' := by
  refine ⟨fun c' i' hv => ?_, fun c' i' hv => ?_⟩
  · have h1 := h.1 c' i' hv
    have hc := m_vS_c hv
    simp only [List.mem_cons, List.not_mem_nil, or_false] at hc
    rcases hc with rfl | rfl | rfl | rfl | rfl | rfl | rfl | rfl | rfl | rfl | rfl | rfl | rfl | rfl | rfl | rfl | rfl | rfl | rfl <;> simp only [cS, m_vS, m_vL] at * <;> by_cases hq : i' = i <;> simp_all [m_l]
  · have h1 := h.2 c' i' hv
    have hc := m_vL_c hv
    simp only [List.mem_cons, List.not_mem_nil, or_false] at hc
    rcases hc with rfl | rfl | rfl | rfl | rfl | rfl | rfl | rfl | rfl <;> simp only [cN, cA, m_vL, m_cap] at * <;> by_cases hq : i' = i <;> simp_all [m_l, n_h]
set_option maxHeartbeats 4000000 in
theorem cl_1 {M : n_M} {σ σ' : n_S} {i : Nat} {l0 : List Int32} (h : RepC M σ) (hi : m_vL 1 i) (hs : ∀ κ i' k, ¬ (κ = 21 ∧ i' = i ∧ k = 6) → ¬ (κ = 23 ∧ i' = i) → σ' κ i' k = σ κ i' k) (hn : σ' 21 i 6 = nI l0.length) (hl0 : l0.length ≤ 20) (hh0 : n_h (σ' 23 i) l0)  : RepC (m_l M 1 i l0) σ' := by
  refine ⟨fun c' i' hv => ?_, fun c' i' hv => ?_⟩
  · have h1 := h.1 c' i' hv
    have hc := m_vS_c hv
    simp only [List.mem_cons, List.not_mem_nil, or_false] at hc
    rcases hc with rfl | rfl | rfl | rfl | rfl | rfl | rfl | rfl | rfl | rfl | rfl | rfl | rfl | rfl | rfl | rfl | rfl | rfl | rfl <;> simp only [cS, m_vS, m_vL] at * <;> by_cases hq : i' = i <;> simp_all [m_l]
  · have h1 := h.2 c' i' hv
    have hc := m_vL_c hv
    simp only [List.mem_cons, List.not_mem_nil, or_false] at hc
    rcases hc with rfl | rfl | rfl | rfl | rfl | rfl | rfl | rfl | rfl <;> simp only [cN, cA, m_vL, m_cap] at * <;> by_cases hq : i' = i <;> simp_all [m_l, n_h]
set_option maxHeartbeats 4000000 in
theorem cl_2 {M : n_M} {σ σ' : n_S} {i : Nat} {l0 l1 : List Int32} (h : RepC M σ) (hi : m_vL 2 i) (hs : ∀ κ i' k, ¬ (κ = 24 ∧ i' = i ∧ k = 2) → ¬ (κ = 26 ∧ i' = i) → ¬ (κ = 27 ∧ i' = i) → σ' κ i' k = σ κ i' k) (hn : σ' 24 i 2 = nI l0.length) (hl0 : l0.length ≤ 8) (hh0 : n_h (σ' 26 i) l0) (hl1 : l1.length ≤ 8) (hh1 : n_h (σ' 27 i) l1) (hq1 : l1.length = l0.length) : RepC (m_l (m_l M 2 i l0) 3 i l1) σ' := by
  refine ⟨fun c' i' hv => ?_, fun c' i' hv => ?_⟩
  · have h1 := h.1 c' i' hv
    have hc := m_vS_c hv
    simp only [List.mem_cons, List.not_mem_nil, or_false] at hc
    rcases hc with rfl | rfl | rfl | rfl | rfl | rfl | rfl | rfl | rfl | rfl | rfl | rfl | rfl | rfl | rfl | rfl | rfl | rfl | rfl <;> simp only [cS, m_vS, m_vL] at * <;> by_cases hq : i' = i <;> simp_all [m_l]
  · have h1 := h.2 c' i' hv
    have hc := m_vL_c hv
    simp only [List.mem_cons, List.not_mem_nil, or_false] at hc
    rcases hc with rfl | rfl | rfl | rfl | rfl | rfl | rfl | rfl | rfl <;> simp only [cN, cA, m_vL, m_cap] at * <;> by_cases hq : i' = i <;> simp_all [m_l, n_h]
set_option maxHeartbeats 4000000 in
theorem cl_5 {M : n_M} {σ σ' : n_S} {i : Nat} {l0 : List Int32} (h : RepC M σ) (hi : m_vL 5 i) (hs : ∀ κ i' k, ¬ (κ = 31 ∧ i' = i ∧ k = 1) → ¬ (κ = 32 ∧ i' = i) → σ' κ i' k = σ κ i' k) (hn : σ' 31 i 1 = nI l0.length) (hl0 : l0.length ≤ 12) (hh0 : n_h (σ' 32 i) l0)  : RepC (m_l M 5 i l0) σ' := by
  refine ⟨fun c' i' hv => ?_, fun c' i' hv => ?_⟩
  · have h1 := h.1 c' i' hv
    have hc := m_vS_c hv
    simp only [List.mem_cons, List.not_mem_nil, or_false] at hc
    rcases hc with rfl | rfl | rfl | rfl | rfl | rfl | rfl | rfl | rfl | rfl | rfl | rfl | rfl | rfl | rfl | rfl | rfl | rfl | rfl <;> simp only [cS, m_vS, m_vL] at * <;> by_cases hq : i' = i <;> simp_all [m_l]
  · have h1 := h.2 c' i' hv
    have hc := m_vL_c hv
    simp only [List.mem_cons, List.not_mem_nil, or_false] at hc
    rcases hc with rfl | rfl | rfl | rfl | rfl | rfl | rfl | rfl | rfl <;> simp only [cN, cA, m_vL, m_cap] at * <;> by_cases hq : i' = i <;> simp_all [m_l, n_h]
set_option maxHeartbeats 4000000 in
theorem cl_7 {M : n_M} {σ σ' : n_S} {i : Nat} {l0 : List Int32} (h : RepC M σ) (hi : m_vL 7 i) (hs : ∀ κ i' k, ¬ (κ = 9 ∧ i' = 0 ∧ k = 7) → ¬ (κ = 19 ∧ i' = 0) → σ' κ i' k = σ κ i' k) (hn : σ' 9 0 7 = nI l0.length) (hl0 : l0.length ≤ 2000) (hh0 : n_h (σ' 19 0) l0)  : RepC (m_l M 7 i l0) σ' := by
  refine ⟨fun c' i' hv => ?_, fun c' i' hv => ?_⟩
  · have h1 := h.1 c' i' hv
    have hc := m_vS_c hv
    simp only [List.mem_cons, List.not_mem_nil, or_false] at hc
    rcases hc with rfl | rfl | rfl | rfl | rfl | rfl | rfl | rfl | rfl | rfl | rfl | rfl | rfl | rfl | rfl | rfl | rfl | rfl | rfl <;> simp only [cS, m_vS, m_vL] at * <;> by_cases hq : i' = i <;> simp_all [m_l]
  · have h1 := h.2 c' i' hv
    have hc := m_vL_c hv
    simp only [List.mem_cons, List.not_mem_nil, or_false] at hc
    rcases hc with rfl | rfl | rfl | rfl | rfl | rfl | rfl | rfl | rfl <;> simp only [cN, cA, m_vL, m_cap] at * <;> by_cases hq : i' = i <;> simp_all [m_l, n_h]
set_option maxHeartbeats 4000000 in
theorem cl_8 {M : n_M} {σ σ' : n_S} {i : Nat} {l0 : List Int32} (h : RepC M σ) (hi : m_vL 8 i) (hs : ∀ κ i' k, ¬ (κ = 1 ∧ i' = 0 ∧ k = 1) → ¬ (κ = 2 ∧ i' = 0) → σ' κ i' k = σ κ i' k) (hn : σ' 1 0 1 = nI l0.length) (hl0 : l0.length ≤ 8192) (hh0 : n_h (σ' 2 0) l0)  : RepC (m_l M 8 i l0) σ' := by
  refine ⟨fun c' i' hv => ?_, fun c' i' hv => ?_⟩
  · have h1 := h.1 c' i' hv
    have hc := m_vS_c hv
    simp only [List.mem_cons, List.not_mem_nil, or_false] at hc
    rcases hc with rfl | rfl | rfl | rfl | rfl | rfl | rfl | rfl | rfl | rfl | rfl | rfl | rfl | rfl | rfl | rfl | rfl | rfl | rfl <;> simp only [cS, m_vS, m_vL] at * <;> by_cases hq : i' = i <;> simp_all [m_l]
  · have h1 := h.2 c' i' hv
    have hc := m_vL_c hv
    simp only [List.mem_cons, List.not_mem_nil, or_false] at hc
    rcases hc with rfl | rfl | rfl | rfl | rfl | rfl | rfl | rfl | rfl <;> simp only [cN, cA, m_vL, m_cap] at * <;> by_cases hq : i' = i <;> simp_all [m_l, n_h]
set_option maxHeartbeats 4000000 in
theorem cl_12 {M : n_M} {σ σ' : n_S} {i : Nat} {l0 l1 : List Int32} (h : RepC M σ) (hi : m_vL 12 i) (hs : ∀ κ i' k, ¬ (κ = 28 ∧ i' = i ∧ k = 2) → ¬ (κ = 29 ∧ i' = i) → ¬ (κ = 30 ∧ i' = i) → σ' κ i' k = σ κ i' k) (hn : σ' 28 i 2 = nI l0.length) (hl0 : l0.length ≤ 256) (hh0 : n_h (σ' 29 i) l0) (hl1 : l1.length ≤ 256) (hh1 : n_h (σ' 30 i) l1) (hq1 : l1.length = l0.length) : RepC (m_l (m_l M 12 i l0) 13 i l1) σ' := by
  refine ⟨fun c' i' hv => ?_, fun c' i' hv => ?_⟩
  · have h1 := h.1 c' i' hv
    have hc := m_vS_c hv
    simp only [List.mem_cons, List.not_mem_nil, or_false] at hc
    rcases hc with rfl | rfl | rfl | rfl | rfl | rfl | rfl | rfl | rfl | rfl | rfl | rfl | rfl | rfl | rfl | rfl | rfl | rfl | rfl <;> simp only [cS, m_vS, m_vL] at * <;> by_cases hq : i' = i <;> simp_all [m_l]
  · have h1 := h.2 c' i' hv
    have hc := m_vL_c hv
    simp only [List.mem_cons, List.not_mem_nil, or_false] at hc
    rcases hc with rfl | rfl | rfl | rfl | rfl | rfl | rfl | rfl | rfl <;> simp only [cN, cA, m_vL, m_cap] at * <;> by_cases hq : i' = i <;> simp_all [m_l, n_h]
theorem n_h_push {f : Nat → Int32} {l : List Int32} {x : Int32} (h : n_h f l) : n_h (upd f l.length x) (l ++ [x]) := by
  intro i hi
  by_cases hl : i = l.length
  · subst hl
    simp [upd]
  · have h2 : i < l.length := by simp at hi; omega
    have h3 := h i h2
    simp [upd, hl, h3, List.getD_eq_getElem?_getD, List.getElem?_append_left h2]
def n_kp (q : Int32 → Bool) (l : List Int32) (k t : Nat) (f : Nat → Int32) : Prop := k ≤ l.length ∧ t = ((l.take k).filter q).length ∧ t ≤ k ∧ n_h f ((l.take k).filter q) ∧ ∀ i, k ≤ i → i < l.length → f i = l.getD i 0
theorem n_kp_0 {q : Int32 → Bool} {l : List Int32} {f : Nat → Int32} (h : n_h f l) : n_kp q l 0 0 f := ⟨Nat.zero_le _, by simp, Nat.le_refl _, by intro i hi; simp at hi, fun i _ hi => h i hi⟩
theorem n_take1 {l : List Int32} {k : Nat} (hk : k < l.length) : l.take (k + 1) = l.take k ++ [l.getD k 0] := by
  rw [List.take_succ, List.getElem?_eq_getElem hk, List.getD_eq_getElem?_getD, List.getElem?_eq_getElem hk]; rfl
theorem n_kp_no {q : Int32 → Bool} {l : List Int32} {k t : Nat} {f : Nat → Int32} (h : n_kp q l k t f) (hk : k < l.length) (hq : q (l.getD k 0) = false) : n_kp q l (k + 1) t f := by
  obtain ⟨h1, h2, h3, h4, h5⟩ := h
  have e : (l.take (k + 1)).filter q = (l.take k).filter q := by rw [n_take1 hk, List.filter_append, List.filter_cons, hq]; simp
  exact ⟨hk, by rw [e]; exact h2, by omega, by rw [e]; exact h4, fun i a b => h5 i (by omega) b⟩
theorem n_kp_yes {q : Int32 → Bool} {l : List Int32} {k t : Nat} {f : Nat → Int32} (h : n_kp q l k t f) (hk : k < l.length) (hq : q (l.getD k 0) = true) : n_kp q l (k + 1) (t + 1) (upd f t (l.getD k 0)) := by
  obtain ⟨h1, h2, h3, h4, h5⟩ := h
  have e : (l.take (k + 1)).filter q = (l.take k).filter q ++ [l.getD k 0] := by rw [n_take1 hk, List.filter_append, List.filter_cons, hq]; rfl
  refine ⟨hk, by rw [e, List.length_append, ← h2]; rfl, by omega, by rw [e, h2]; exact n_h_push h4, fun i a b => ?_⟩
  have : ¬ i = t := by omega
  simp [upd, this, h5 i (by omega) b]
theorem n_kp_end {q : Int32 → Bool} {l : List Int32} {t : Nat} {f : Nat → Int32} (h : n_kp q l l.length t f) : t = (l.filter q).length ∧ n_h f (l.filter q) := by
  obtain ⟨-, h2, -, h4, -⟩ := h
  rw [List.take_length] at h2 h4
  exact ⟨h2, h4⟩
