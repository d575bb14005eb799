abbrev n_M : Type := (Nat → Nat → Int32) × (Nat → Nat → List Int32)
def m_s (M : n_M) (c i : Nat) (v : Int32) : n_M := (fun c' i' => if c' = c ∧ i' = i then v else M.1 c' i', M.2)
def m_l (M : n_M) (c i : Nat) (l : List Int32) : n_M := (M.1, fun c' i' => if c' = c ∧ i' = i then l else M.2 c' i')
theorem m_s_s (M : n_M) (c i c' i' : Nat) (v : Int32) : (m_s M c i v).1 c' i' = if c' = c ∧ i' = i then v else M.1 c' i' := rfl
theorem m_s_l (M : n_M) (c i : Nat) (v : Int32) : (m_s M c i v).2 = M.2 := rfl
theorem m_l_s (M : n_M) (c i : Nat) (l : List Int32) : (m_l M c i l).1 = M.1 := rfl
theorem m_l_l (M : n_M) (c i c' i' : Nat) (l : List Int32) : (m_l M c i l).2 c' i' = if c' = c ∧ i' = i then l else M.2 c' i' := rfl
def n_h (f : Nat → Int32) (l : List Int32) : Prop := ∀ i, i < l.length → f i = l.getD i 0
def m_vS (c i : Nat) : Prop := match c with
  | 0 => 1 ≤ i ∧ i ≤ 12
  | 1 => 1 ≤ i ∧ i ≤ 12
  | 2 => 1 ≤ i ∧ i ≤ 12
  | 3 => 1 ≤ i ∧ i ≤ 12
  | 4 => 1 ≤ i ∧ i ≤ 12
  | 5 => 1 ≤ i ∧ i ≤ 12
  | 6 => 1 ≤ i ∧ i ≤ 12
  | 7 => 1 ≤ i ∧ i ≤ 12
  | 8 => 1 ≤ i ∧ i ≤ 12
  | 9 => i < 8
  | 10 => i < 1024
  | 11 => i < 1024
  | 12 => i < 12
  | 13 => i < 1024
  | 15 => i = 0
  | 16 => i = 0
  | 17 => i = 0
  | 18 => i = 0
  | 19 => i = 0
  | _ => False
def m_vL (c i : Nat) : Prop := match c with
  | 0 => 1 ≤ i ∧ i ≤ 12
  | 1 => 1 ≤ i ∧ i ≤ 12
  | 2 => 2 ≤ i ∧ i ≤ 25
  | 3 => 2 ≤ i ∧ i ≤ 25
  | 5 => i < 11
  | 7 => i = 0
  | 8 => i = 0
  | 12 => i < 12
  | 13 => i < 12
  | _ => False
def m_cap (c : Nat) : Nat := match c with
  | 0 => 40
  | 1 => 20
  | 2 => 8
  | 3 => 8
  | 5 => 12
  | 7 => 2000
  | 8 => 8192
  | 12 => 256
  | 13 => 256
  | _ => 0
def cS (c i : Nat) (σ : n_S) : Int32 := match c with
  | 0 => σ 21 i 7
  | 1 => σ 21 i 8
  | 2 => σ 21 i 9
  | 3 => σ 21 i 10
  | 4 => σ 21 i 11
  | 5 => σ 21 i 12
  | 6 => σ 21 i 13
  | 7 => σ 21 i 15
  | 8 => σ 21 i 14
  | 9 => σ 14 0 i
  | 10 => σ 16 0 i
  | 11 => σ 17 0 i
  | 12 => σ 28 i 3
  | 13 => σ 18 0 i
  | 15 => σ 9 0 9
  | 16 => σ 20 0 1
  | 17 => σ 3 0 9
  | 18 => σ 9 0 8
  | 19 => σ 9 0 10
  | _ => 0
def cN (c i : Nat) (σ : n_S) : Int32 := match c with
  | 0 => σ 21 i 5
  | 1 => σ 21 i 6
  | 2 => σ 24 i 2
  | 3 => σ 24 i 2
  | 5 => σ 31 i 1
  | 7 => σ 9 0 7
  | 8 => σ 1 0 1
  | 12 => σ 28 i 2
  | 13 => σ 28 i 2
  | _ => 0
def cA (c i : Nat) (σ : n_S) : Nat → Int32 := match c with
  | 0 => σ 22 i
  | 1 => σ 23 i
  | 2 => σ 26 i
  | 3 => σ 27 i
  | 5 => σ 32 i
  | 7 => σ 19 0
  | 8 => σ 2 0
  | 12 => σ 29 i
  | 13 => σ 30 i
  | _ => fun _ => 0
def RepC (M : n_M) (σ : n_S) : Prop := (∀ c i, m_vS c i → cS c i σ = M.1 c i) ∧ ∀ c i, m_vL c i → (M.2 c i).length ≤ m_cap c ∧ cN c i σ = nI (M.2 c i).length ∧ n_h (cA c i σ) (M.2 c i)
theorem m_vS_c {c i : Nat} (h : m_vS c i) : c ∈ [0, 1, 2, 3, 4, 5, 6, 7, 8, 9, 10, 11, 12, 13, 15, 16, 17, 18, 19] := by
  unfold m_vS at h
  split at h <;> simp at h ⊢
theorem m_vL_c {c i : Nat} (h : m_vL c i) : c ∈ [0, 1, 2, 3, 5, 7, 8, 12, 13] := by
  unfold m_vL at h
  split at h <;> simp at h ⊢
set_option maxHeartbeats 4000000 in
theorem cu_0 {M : n_M} {σ : n_S} {i : Nat} {v : Int32} (h : RepC M σ) (hi : m_vS 0 i) : RepC (m_s M 0 i v) (n_up σ 21 i 7 v) := by
  refine ⟨fun c' i' hv => ?_, fun c' i' hv => ?_⟩
  · have h1 := h.1 c' i' hv
    have hc := m_vS_c hv
    simp only [List.mem_cons, List.not_mem_nil, or_false] at hc
    rcases hc with rfl | rfl | rfl | rfl | rfl | rfl | rfl | rfl | rfl | rfl | rfl | rfl | rfl | rfl | rfl | rfl | rfl | rfl | rfl <;> simp only [cS, m_vS] at * <;> by_cases hq : i' = i <;> simp_all [m_s, n_up, upd]
  · have h1 := h.2 c' i' hv
    have hc := m_vL_c hv
    simp only [List.mem_cons, List.not_mem_nil, or_false] at hc
    rcases hc with rfl | rfl | rfl | rfl | rfl | rfl | rfl | rfl | rfl <;> simp only [cN, cA, m_vL, m_vS] at * <;> by_cases hq : i' = i <;> simp_all [m_s, n_up, upd, n_h]
set_option maxHeartbeats 4000000 in
theorem cu_1 {M : n_M} {σ : n_S} {i : Nat} {v : Int32} (h : RepC M σ) (hi : m_vS 1 i) : RepC (m_s M 1 i v) (n_up σ 21 i 8 v) := by
  refine ⟨fun c' i' hv => ?_, fun c' i' hv => ?_⟩
  · have h1 := h.1 c' i' hv
    have hc := m_vS_c hv
    simp only [List.mem_cons, List.not_mem_nil, or_false] at hc
    rcases hc with rfl | rfl | rfl | rfl | rfl | rfl | rfl | rfl | rfl | rfl | rfl | rfl | rfl | rfl | rfl | rfl | rfl | rfl | rfl <;> simp only [cS, m_vS] at * <;> by_cases hq : i' = i <;> simp_all [m_s, n_up, upd]
  · have h1 := h.2 c' i' hv
    have hc := m_vL_c hv
    simp only [List.mem_cons, List.not_mem_nil, or_false] at hc
    rcases hc with rfl | rfl | rfl | rfl | rfl | rfl | rfl | rfl | rfl <;> simp only [cN, cA, m_vL, m_vS] at * <;> by_cases hq : i' = i <;> simp_all [m_s, n_up, upd, n_h]
set_option maxHeartbeats 4000000 in
theorem cu_2 {M : n_M} {σ : n_S} {i : Nat} {v : Int32} (h : RepC M σ) (hi : m_vS 2 i) : RepC (m_s M 2 i v) (n_up σ 21 i 9 v) := by
  refine ⟨fun c' i' hv => ?_, fun c' i' hv => ?_⟩
  · have h1 := h.1 c' i' hv
    have hc := m_vS_c hv
    simp only [List.mem_cons, List.not_mem_nil, or_false] at hc
    rcases hc with rfl | rfl | rfl | rfl | rfl | rfl | rfl | rfl | rfl | rfl | rfl | rfl | rfl | rfl | rfl | rfl | rfl | rfl | rfl <;> simp only [cS, m_vS] at * <;> by_cases hq : i' = i <;> simp_all [m_s, n_up, upd]
  · have h1 := h.2 c' i' hv
    have hc := m_vL_c hv
    simp only [List.mem_cons, List.not_mem_nil, or_false] at hc
    rcases hc with rfl | rfl | rfl | rfl | rfl | rfl | rfl | rfl | rfl <;> simp only [cN, cA, m_vL, m_vS] at * <;> by_cases hq : i' = i <;> simp_all [m_s, n_up, upd, n_h]
set_option maxHeartbeats 4000000 in
theorem cu_3 {M : n_M} {σ : n_S} {i : Nat} {v : Int32} (h : RepC M σ) (hi : m_vS 3 i) : RepC (m_s M 3 i v) (n_up σ 21 i 10 v) := by
  refine ⟨fun c' i' hv => ?_, fun c' i' hv => ?_⟩
  · have h1 := h.1 c' i' hv
    have hc := m_vS_c hv
    simp only [List.mem_cons, List.not_mem_nil, or_false] at hc
    rcases hc with rfl | rfl | rfl | rfl | rfl | rfl | rfl | rfl | rfl | rfl | rfl | rfl | rfl | rfl | rfl | rfl | rfl | rfl | rfl <;> simp only [cS, m_vS] at * <;> by_cases hq : i' = i <;> simp_all [m_s, n_up, upd]
  · have h1 := h.2 c' i' hv
    have hc := m_vL_c hv
    simp only [List.mem_cons, List.not_mem_nil, or_false] at hc
    rcases hc with rfl | rfl | rfl | rfl | rfl | rfl | rfl | rfl | rfl <;> simp only [cN, cA, m_vL, m_vS] at * <;> by_cases hq : i' = i <;> simp_all [m_s, n_up, upd, n_h]
set_option maxHeartbeats 4000000 in
theorem cu_4 {M : n_M} {σ : n_S} {i : Nat} {v : Int32} (h : RepC M σ) (hi : m_vS 4 i) : RepC (m_s M 4 i v) (n_up σ 21 i 11 v) := by
  refine ⟨fun c' i' hv => ?_, fun c' i' hv => ?_⟩
  · have h1 := h.1 c' i' hv
    have hc := m_vS_c hv
    simp only [List.mem_cons, List.not_mem_nil, or_false] at hc
    rcases hc with rfl | rfl | rfl | rfl | rfl | rfl | rfl | rfl | rfl | rfl | rfl | rfl | rfl | rfl | rfl | rfl | rfl | rfl | rfl <;> simp only [cS, m_vS] at * <;> by_cases hq : i' = i <;> simp_all [m_s, n_up, upd]
  · have h1 := h.2 c' i' hv
    have hc := m_vL_c hv
    simp only [List.mem_cons, List.not_mem_nil, or_false] at hc
    rcases hc with rfl | rfl | rfl | rfl | rfl | rfl | rfl | rfl | rfl <;> simp only [cN, cA, m_vL, m_vS] at * <;> by_cases hq : i' = i <;> simp_all [m_s, n_up, upd, n_h]
set_option maxHeartbeats 4000000 in
theorem cu_5 {M : n_M} {σ : n_S} {i : Nat} {v : Int32} (h : RepC M σ) (hi : m_vS 5 i) : RepC (m_s M 5 i v) (n_up σ 21 i 12 v) := by
  refine ⟨fun c' i' hv => ?_, fun c' i' hv => ?_⟩
  · have h1 := h.1 c' i' hv
    have hc := m_vS_c hv
    simp only [List.mem_cons, List.not_mem_nil, or_false] at hc
    rcases hc with rfl | rfl | rfl | rfl | rfl | rfl | rfl | rfl | rfl | rfl | rfl | rfl | rfl | rfl | rfl | rfl | rfl | rfl | rfl <;> simp only [cS, m_vS] at * <;> by_cases hq : i' = i <;> simp_all [m_s, n_up, upd]
  · have h1 := h.2 c' i' hv
    have hc := m_vL_c hv
    simp only [List.mem_cons, List.not_mem_nil, or_false] at hc
    rcases hc with rfl | rfl | rfl | rfl | rfl | rfl | rfl | rfl | rfl <;> simp only [cN, cA, m_vL, m_vS] at * <;> by_cases hq : i' = i <;> simp_all [m_s, n_up, upd, n_h]
set_option maxHeartbeats 4000000 in
theorem cu_6 {M : n_M} {σ : n_S} {i : Nat} {v : Int32} (h : RepC M σ) (hi : m_vS 6 i) : RepC (m_s M 6 i v) (n_up σ 21 i 13 v) := by
  refine ⟨fun c' i' hv => ?_, fun c' i' hv => ?_⟩
  · have h1 := h.1 c' i' hv
    have hc := m_vS_c hv
    simp only [List.mem_cons, List.not_mem_nil, or_false] at hc
    rcases hc with rfl | rfl | rfl | rfl | rfl | rfl | rfl | rfl | rfl | rfl | rfl | rfl | rfl | rfl | rfl | rfl | rfl | rfl | rfl <;> simp only [cS, m_vS] at * <;> by_cases hq : i' = i <;> simp_all [m_s, n_up, upd]
  · have h1 := h.2 c' i' hv
    have hc := m_vL_c hv
    simp only [List.mem_cons, List.not_mem_nil, or_false] at hc
    rcases hc with rfl | rfl | rfl | rfl | rfl | rfl | rfl | rfl | rfl <;> simp only [cN, cA, m_vL, m_vS] at * <;> by_cases hq : i' = i <;> simp_all [m_s, n_up, upd, n_h]
set_option maxHeartbeats 4000000 in
theorem cu_7 {M : n_M} {σ : n_S} {i : Nat} {v : Int32} (h : RepC M σ) (hi : m_vS 7 i) : RepC (m_s M 7 i v) (n_up σ 21 i 15 v) := by
  refine ⟨fun c' i' hv => ?_, fun c' i' hv => ?_⟩
  · have h1 := h.1 c' i' hv
    have hc := m_vS_c hv
    simp only [List.mem_cons, List.not_mem_nil, or_false] at hc
    rcases hc with rfl | rfl | rfl | rfl | rfl | rfl | rfl | rfl | rfl | rfl | rfl | rfl | rfl | rfl | rfl | rfl | rfl | rfl | rfl <;> simp only [cS, m_vS] at * <;> by_cases hq : i' = i <;> simp_all [m_s, n_up, upd]
  · have h1 := h.2 c' i' hv
    have hc := m_vL_c hv
    simp only [List.mem_cons, List.not_mem_nil, or_false] at hc
    rcases hc with rfl | rfl | rfl | rfl | rfl | rfl | rfl | rfl | rfl <;> simp only [cN, cA, m_vL, m_vS] at * <;> by_cases hq : i' = i <;> simp_all [m_s, n_up, upd, n_h]
set_option maxHeartbeats 4000000 in
theorem cu_8 {M : n_M} {σ : n_S} {i : Nat} {v : Int32} (h : RepC M σ) (hi : m_vS 8 i) : RepC (m_s M 8 i v) (n_up σ 21 i 14 v) := by
  refine ⟨fun c' i' hv => ?_, fun c' i' hv => ?_⟩
  · have h1 := h.1 c' i' hv
    have hc := m_vS_c hv
    simp only [List.mem_cons, List.not_mem_nil, or_false] at hc
    rcases hc with rfl | rfl | rfl | rfl | rfl | rfl | rfl | rfl | rfl | rfl | rfl | rfl | rfl | rfl | rfl | rfl | rfl | rfl | rfl <;> simp only [cS, m_vS] at * <;> by_cases hq : i' = i <;> simp_all [m_s, n_up, upd]
  · have h1 := h.2 c' i' hv
    have hc := m_vL_c hv
    simp only [List.mem_cons, List.not_mem_nil, or_false] at hc
    rcases hc with rfl | rfl | rfl | rfl | rfl | rfl | rfl | rfl | rfl <;> simp only [cN, cA, m_vL, m_vS] at * <;> by_cases hq : i' = i <;> simp_all [m_s, n_up, upd, n_h]
set_option maxHeartbeats 4000000 in
theorem cu_9 {M : n_M} {σ : n_S} {i : Nat} {v : Int32} (h : RepC M σ) (hi : m_vS 9 i) : RepC (m_s M 9 i v) (n_up σ 14 0 i v) := by
  refine ⟨fun c' i' hv => ?_, fun c' i' hv => ?_⟩
  · have h1 := h.1 c' i' hv
    have hc := m_vS_c hv
    simp only [List.mem_cons, List.not_mem_nil, or_false] at hc
    rcases hc with rfl | rfl | rfl | rfl | rfl | rfl | rfl | rfl | rfl | rfl | rfl | rfl | rfl | rfl | rfl | rfl | rfl | rfl | rfl <;> simp only [cS, m_vS] at * <;> by_cases hq : i' = i <;> simp_all [m_s, n_up, upd]
  · have h1 := h.2 c' i' hv
    have hc := m_vL_c hv
    simp only [List.mem_cons, List.not_mem_nil, or_false] at hc
    rcases hc with rfl | rfl | rfl | rfl | rfl | rfl | rfl | rfl | rfl <;> simp only [cN, cA, m_vL, m_vS] at * <;> by_cases hq : i' = i <;> simp_all [m_s, n_up, upd, n_h]
set_option maxHeartbeats 4000000 in
theorem cu_10 {M : n_M} {σ : n_S} {i : Nat} {v : Int32} (h : RepC M σ) (hi : m_vS 10 i) : RepC (m_s M 10 i v) (n_up σ 16 0 i v) := by
  refine ⟨fun c' i' hv => ?_, fun c' i' hv => ?_⟩
  · have h1 := h.1 c' i' hv
    have hc := m_vS_c hv
    simp only [List.mem_cons, List.not_mem_nil, or_false] at hc
    rcases hc with rfl | rfl | rfl | rfl | rfl | rfl | rfl | rfl | rfl | rfl | rfl | rfl | rfl | rfl | rfl | rfl | rfl | rfl | rfl <;> simp only [cS, m_vS] at * <;> by_cases hq : i' = i <;> simp_all [m_s, n_up, upd]
  · have h1 := h.2 c' i' hv
    have hc := m_vL_c hv
    simp only [List.mem_cons, List.not_mem_nil, or_false] at hc
    rcases hc with rfl | rfl | rfl | rfl | rfl | rfl | rfl | rfl | rfl <;> simp only [cN, cA, m_vL, m_vS] at * <;> by_cases hq : i' = i <;> simp_all [m_s, n_up, upd, n_h]
set_option maxHeartbeats 4000000 in
theorem cu_11 {M : n_M} {σ : n_S} {i : Nat} {v : Int32} (h : RepC M σ) (hi : m_vS 11 i) : RepC (m_s M 11 i v) (n_up σ 17 0 i v) := by
  refine ⟨fun c' i' hv => ?_, fun c' i' hv => ?_⟩
  · have h1 := h.1 c' i' hv
    have hc := m_vS_c hv
    simp only [List.mem_cons, List.not_mem_nil, or_false] at hc
    rcases hc with rfl | rfl | rfl | rfl | rfl | rfl | rfl | rfl | rfl | rfl | rfl | rfl | rfl | rfl | rfl | rfl | rfl | rfl | rfl <;> simp only [cS, m_vS] at * <;> by_cases hq : i' = i <;> simp_all [m_s, n_up, upd]
  · have h1 := h.2 c' i' hv
    have hc := m_vL_c hv
    simp only [List.mem_cons, List.not_mem_nil, or_false] at hc
    rcases hc with rfl | rfl | rfl | rfl | rfl | rfl | rfl | rfl | rfl <;> simp only [cN, cA, m_vL, m_vS] at * <;> by_cases hq : i' = i <;> simp_all [m_s, n_up, upd, n_h]
set_option maxHeartbeats 4000000 in
theorem cu_12 {M : n_M} {σ : n_S} {i : Nat} {v : Int32} (h : RepC M σ) (hi : m_vS 12 i) : RepC (m_s M 12 i v) (n_up σ 28 i 3 v) := by
  refine ⟨fun c' i' hv => ?_, fun c' i' hv => ?_⟩
  · have h1 := h.1 c' i' hv
    have hc := m_vS_c hv
    simp only [List.mem_cons, List.not_mem_nil, or_false] at hc
    rcases hc with rfl | rfl | rfl | rfl | rfl | rfl | rfl | rfl | rfl | rfl | rfl | rfl | rfl | rfl | rfl | rfl | rfl | rfl | rfl <;> simp only [cS, m_vS] at * <;> by_cases hq : i' = i <;> simp_all [m_s, n_up, upd]
  · have h1 := h.2 c' i' hv
    have hc := m_vL_c hv
    simp only [List.mem_cons, List.not_mem_nil, or_false] at hc
    rcases hc with rfl | rfl | rfl | rfl | rfl | rfl | rfl | rfl | rfl <;> simp only [cN, cA, m_vL, m_vS] at * <;> by_cases hq : i' = i <;> simp_all [m_s, n_up, upd, n_h]
set_option maxHeartbeats 4000000 in
theorem cu_13 {M : n_M} {σ : n_S} {i : Nat} {v : Int32} (h : RepC M σ) (hi : m_vS 13 i) : RepC (m_s M 13 i v) (n_up σ 18 0 i v) := by
  refine ⟨fun c' i' hv => ?_, fun c' i' hv => ?_⟩
  · have h1 := h.1 c' i' hv
    have hc := m_vS_c hv
    simp only [List.mem_cons, List.not_mem_nil, or_false] at hc
    rcases hc with rfl | rfl | rfl | rfl | rfl | rfl | rfl | rfl | rfl | rfl | rfl | rfl | rfl | rfl | rfl | rfl | rfl | rfl | rfl <;> simp only [cS, m_vS] at * <;> by_cases hq : i' = i <;> simp_all [m_s, n_up, upd]
  · have h1 := h.2 c' i' hv
    have hc := m_vL_c hv
    simp only [List.mem_cons, List.not_mem_nil, or_false] at hc
    rcases hc with rfl | rfl | rfl | rfl | rfl | rfl | rfl | rfl | rfl <;> simp only [cN, cA, m_vL, m_vS] at * <;> by_cases hq : i' = i <;> simp_all [m_s, n_up, upd, n_h]
set_option maxHeartbeats 4000000 in
theorem cu_15 {M : n_M} {σ : n_S} {i : Nat} {v : Int32} (h : RepC M σ) (hi : m_vS 15 i) : RepC (m_s M 15 i v) (n_up σ 9 0 9 v) := by
  refine ⟨fun c' i' hv => ?_, fun c' i' hv => ?_⟩
  · have h1 := h.1 c' i' hv
    have hc := m_vS_c hv
    simp only [List.mem_cons, List.not_mem_nil, or_false] at hc
    rcases hc with rfl | rfl | rfl | rfl | rfl | rfl | rfl | rfl | rfl | rfl | rfl | rfl | rfl | rfl | rfl | rfl | rfl | rfl | rfl <;> simp only [cS, m_vS] at * <;> by_cases hq : i' = i <;> simp_all [m_s, n_up, upd]
  · have h1 := h.2 c' i' hv
    have hc := m_vL_c hv
    simp only [List.mem_cons, List.not_mem_nil, or_false] at hc
    rcases hc with rfl | rfl | rfl | rfl | rfl | rfl | rfl | rfl | rfl <;> simp only [cN, cA, m_vL, m_vS] at * <;> by_cases hq : i' = i <;> simp_all [m_s, n_up, upd, n_h]
set_option maxHeartbeats 4000000 in
theorem cu_16 {M : n_M} {σ : n_S} {i : Nat} {v : Int32} (h : RepC M σ) (hi : m_vS 16 i) : RepC (m_s M 16 i v) (n_up σ 20 0 1 v) := by
  refine ⟨fun c' i' hv => ?_, fun c' i' hv => ?_⟩
  · have h1 := h.1 c' i' hv
    have hc := m_vS_c hv
    simp only [List.mem_cons, List.not_mem_nil, or_false] at hc
    rcases hc with rfl | rfl | rfl | rfl | rfl | rfl | rfl | rfl | rfl | rfl | rfl | rfl | rfl | rfl | rfl | rfl | rfl | rfl | rfl <;> simp only [cS, m_vS] at * <;> by_cases hq : i' = i <;> simp_all [m_s, n_up, upd]
  · have h1 := h.2 c' i' hv
    have hc := m_vL_c hv
    simp only [List.mem_cons, List.not_mem_nil, or_false] at hc
    rcases hc with rfl | rfl | rfl | rfl | rfl | rfl | rfl | rfl | rfl <;> simp only [cN, cA, m_vL, m_vS] at * <;> by_cases hq : i' = i <;> simp_all [m_s, n_up, upd, n_h]
set_option maxHeartbeats 4000000 in
theorem cu_17 {M : n_M} {σ : n_S} {i : Nat} {v : Int32} (h : RepC M σ) (hi : m_vS 17 i) : RepC (m_s M 17 i v) (n_up σ 3 0 9 v) := by
  refine ⟨fun c' i' hv => ?_, fun c' i' hv => ?_⟩
  · have h1 := h.1 c' i' hv
    have hc := m_vS_c hv
    simp only [List.mem_cons, List.not_mem_nil, or_false] at hc
    rcases hc with rfl | rfl | rfl | rfl | rfl | rfl | rfl | rfl | rfl | rfl | rfl | rfl | rfl | rfl | rfl | rfl | rfl | rfl | rfl <;> simp only [cS, m_vS] at * <;> by_cases hq : i' = i <;> simp_all [m_s, n_up, upd]
  · have h1 := h.2 c' i' hv
    have hc := m_vL_c hv
    simp only [List.mem_cons, List.not_mem_nil, or_false] at hc
    rcases hc with rfl | rfl | rfl | rfl | rfl | rfl | rfl | rfl | rfl <;> simp only [cN, cA, m_vL, m_vS] at * <;> by_cases hq : i' = i <;> simp_all [m_s, n_up, upd, n_h]
set_option maxHeartbeats 4000000 in
theorem cu_18 {M : n_M} {σ : n_S} {i : Nat} {v : Int32} (h : RepC M σ) (hi : m_vS 18 i) : RepC (m_s M 18 i v) (n_up σ 9 0 8 v) := by
  refine ⟨fun c' i' hv => ?_, fun c' i' hv => ?_⟩
  · have h1 := h.1 c' i' hv
    have hc := m_vS_c hv
    simp only [List.mem_cons, List.not_mem_nil, or_false] at hc
    rcases hc with rfl | rfl | rfl | rfl | rfl | rfl | rfl | rfl | rfl | rfl | rfl | rfl | rfl | rfl | rfl | rfl | rfl | rfl | rfl <;> simp only [cS, m_vS] at * <;> by_cases hq : i' = i <;> simp_all [m_s, n_up, upd]
  · have h1 := h.2 c' i' hv
    have hc := m_vL_c hv
    simp only [List.mem_cons, List.not_mem_nil, or_false] at hc
    rcases hc with rfl | rfl | rfl | rfl | rfl | rfl | rfl | rfl | rfl <;> simp only [cN, cA, m_vL, m_vS] at * <;> by_cases hq : i' = i <;> simp_all [m_s, n_up, upd, n_h]
set_option maxHeartbeats 4000000 in
theorem cu_19 {M : n_M} {σ : n_S} {i : Nat} {v : Int32} (h : RepC M σ) (hi : m_vS 19 i) : RepC (m_s M 19 i v) (n_up σ 9 0 10 v) := by
  refine ⟨fun c' i' hv => ?_, fun c' i' hv => ?_⟩
  · have h1 := h.1 c' i' hv
    have hc := m_vS_c hv
    simp only [List.mem_cons, List.not_mem_nil, or_false] at hc
    rcases hc with rfl | rfl | rfl | rfl | rfl | rfl | rfl | rfl | rfl | rfl | rfl | rfl | rfl | rfl | rfl | rfl | rfl | rfl | rfl <;> simp only [cS, m_vS] at * <;> by_cases hq : i' = i <;> simp_all [m_s, n_up, upd]
  · have h1 := h.2 c' i' hv
    have hc := m_vL_c hv
    simp only [List.mem_cons, List.not_mem_nil, or_false] at hc
    rcases hc with rfl | rfl | rfl | rfl | rfl | rfl | rfl | rfl | rfl <;> simp only [cN, cA, m_vL, m_vS] at * <;> by_cases hq : i' = i <;> simp_all [m_s, n_up, upd, n_h]
