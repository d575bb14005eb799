/-- the state behind a text that was read into program i -/
def m_ld (M : n_M) (i : Nat) (o n : List Int32) (fv : Int32) : n_M := m_l (m_s (m_l (m_l M 12 i o) 13 i n) 17 0 fv) 8 0 []
def m_sp (M : n_M) (i : Nat) : Prop := i < 12 ∧ M.1 12 i = 0 ∧ ∀ r, r < i → M.1 12 r ≠ 0
theorem m_ld_s {M : n_M} {i c j : Nat} {o n : List Int32} {fv : Int32} (h : c ≠ 17) : (m_ld M i o n fv).1 c j = M.1 c j := ms_n (by omega)
theorem m_ld_17 (M : n_M) (i : Nat) (o n : List Int32) (fv : Int32) : (m_ld M i o n fv).1 17 0 = fv := by
  show (m_s (m_l (m_l M 12 i o) 13 i n) 17 0 fv).1 17 0 = fv
  exact ms_e _ _ _ _
theorem m_ld_l {M : n_M} {i c j : Nat} {o n : List Int32} {fv : Int32} (h : c ≠ 8) (h2 : ¬ ((c = 12 ∨ c = 13) ∧ j = i)) : (m_ld M i o n fv).2 c j = M.2 c j := by
  show (m_l (m_s (m_l (m_l M 12 i o) 13 i n) 17 0 fv) 8 0 []).2 c j = M.2 c j
  rw [ml_n (by omega), m_s_l, ml_n (by omega), ml_n (by omega)]
theorem m_ld_12 (M : n_M) (i : Nat) (o n : List Int32) (fv : Int32) : (m_ld M i o n fv).2 12 i = o := by
  show (m_l (m_s (m_l (m_l M 12 i o) 13 i n) 17 0 fv) 8 0 []).2 12 i = o
  rw [ml_n (by omega), m_s_l, ml_n (by omega), ml_e]
theorem m_ld_13 (M : n_M) (i : Nat) (o n : List Int32) (fv : Int32) : (m_ld M i o n fv).2 13 i = n := by
  show (m_l (m_s (m_l (m_l M 12 i o) 13 i n) 17 0 fv) 8 0 []).2 13 i = n
  rw [ml_n (by omega), m_s_l, ml_e]
theorem m_cnt_0 {M : n_M} {i : Nat} : ∀ {n}, m_cnt M i n = 0 → ∀ p, 1 ≤ p → p ≤ n → M.1 4 p ≠ nI (i + 1)
  | 0, _, p, h1, h2 => by omega
  | n + 1, h, p, h1, h2 => by
    have h : m_cnt M i n + (if M.1 4 (n + 1) = nI (i + 1) then 1 else 0) = 0 := h
    by_cases z : p = n + 1
    · intro e
      rw [z] at e
      rw [if_pos e] at h
      omega
    · exact m_cnt_0 (n := n) (by omega) p h1 (by omega)
theorem m_use0 {M : n_M} (h : II M) {i : Nat} (hi : i < 12) (h0 : M.1 12 i = 0) : ∀ p, n_V p → M.1 4 p ≠ nI (i + 1) := by
  have h5 := h.2.2.2.2.1 i hi
  rw [h0] at h5
  have hle := m_cnt_le M i 12
  have := (nI_eq (a := 0) (by omega) (by omega)).mp h5
  exact fun p hp => m_cnt_0 this.symm p hp.1 hp.2
theorem II_ld {M : n_M} (h : II M) {i : Nat} (hi : i < 12) (h0 : M.1 12 i = 0) (o n : List Int32) (fv : Int32) : II (m_ld M i o n fv) := by
  have hu := m_use0 h hi h0
  obtain ⟨i1, i2, i3, i4, i5, i6⟩ := h
  have hS : ∀ c j, c ≠ 17 → (m_ld M i o n fv).1 c j = M.1 c j := fun c j e => m_ld_s e
  have hL : ∀ c j, c ≠ 8 → ¬ ((c = 12 ∨ c = 13) ∧ j = i) → (m_ld M i o n fv).2 c j = M.2 c j := fun c j a b => m_ld_l a b
  refine ⟨IR_cong i1 (fun r _ => hS 0 r (by omega)) (fun r _ => hS 2 r (by omega)) (fun r _ => hS 7 r (by omega)) (fun r _ => hL 5 r (by omega) (by omega)), IB_cong i2 (fun k => hS 11 k (by omega)) (fun k => hS 13 k (by omega)) (hL 10 0 (by omega) (by omega)) (hL 11 0 (by omega) (by omega)), fun p hp => ?_, fun p hp => ?_, fun j hj => ?_, fun j hj hu2 => ?_⟩
  · obtain ⟨g1, g2, g3, g4, g5⟩ := i3 p hp
    refine ⟨by rw [hS 0 p (by omega)]; exact g1, fun z => ?_, fun z => ?_, fun z => ?_, fun z => ?_⟩
    · rw [hS 0 p (by omega)] at z
      unfold m_zero
      rw [hS 4 p (by omega), hS 1 p (by omega), hS 2 p (by omega), hS 3 p (by omega), hS 6 p (by omega)]
      exact g2 z
    · rw [hS 0 p (by omega)] at z
      unfold m_clean
      rw [hL 0 p (by omega) (by omega), hL 1 p (by omega) (by omega), hL 2 (2 * p) (by omega) (by omega), hL 3 (2 * p) (by omega) (by omega), hL 2 (2 * p + 1) (by omega) (by omega), hL 3 (2 * p + 1) (by omega) (by omega), hS 5 p (by omega), hS 7 p (by omega), hS 8 p (by omega)]
      exact g3 z
    · rw [hS 0 p (by omega)] at z
      obtain ⟨i', k1, k2, k3, k4⟩ := g4 z
      have hne : i' ≠ i := fun z => hu p hp (by rw [k2, z])
      refine ⟨i', k1, by rw [hS 4 p (by omega)]; exact k2, ?_, fun x hx => ?_⟩
      · rw [hL 12 i' (by omega) (by omega), hS 5 p (by omega)]
        exact k3
      · rw [hL 1 p (by omega) (by omega)] at hx
        rw [hL 12 i' (by omega) (by omega)]
        exact k4 x hx
    · rw [hS 0 p (by omega)] at z
      rw [hS 19 0 (by omega), hS 7 p (by omega), hS 15 0 (by omega)]
      exact g5 z
  · unfold m_par m_al
    rw [hS 3 p (by omega)]
    rcases i4 p hp with g | ⟨r, g1, g2, g3, g4, g5⟩
    · exact Or.inl g
    · exact Or.inr ⟨r, g1, g2, g3, by rw [hS 0 r (by omega)]; exact g4, by rw [hS 3 r (by omega)]; exact g5⟩
  · rw [hS 12 j (by omega), i5 j hj, m_cnt_cong 12 (fun p _ _ => hS 4 p (by omega))]
  · rw [hS 12 j (by omega)] at hu2
    have hne : j ≠ i := fun z => by rw [z, h0] at hu2; exact absurd hu2 (by decide)
    have := i6 j hj hu2
    unfold m_prg at this ⊢
    rw [hL 12 j (by omega) (by omega), hL 13 j (by omega) (by omega)]
    exact this
theorem S7_ld (M : n_M) (i : Nat) (o n : List Int32) (fv : Int32) : S7 M (m_ld M i o n fv) := fun p => Or.inl ⟨m_ld_s (by omega), m_ld_s (by omega)⟩
/-- where a process is free, a program is -/
def m_sm (M : n_M) (n : Nat) : Nat → Nat
  | 0 => 0
  | k + 1 => m_sm M n k + m_cnt M k n
def m_idc (x : Int32) : Nat → Nat
  | 0 => 0
  | k + 1 => m_idc x k + (if x = nI (k + 1) then 1 else 0)
theorem m_idc_0 {x : Int32} : ∀ {k : Nat}, (∀ j, j < k → x ≠ nI (j + 1)) → m_idc x k = 0
  | 0, _ => rfl
  | k + 1, h => by
    show m_idc x k + (if x = nI (k + 1) then 1 else 0) = 0
    rw [m_idc_0 (fun j hj => h j (by omega)), if_neg (h k (by omega))]
theorem m_idc_1 (x : Int32) : ∀ k : Nat, k ≤ 12 → m_idc x k ≤ 1
  | 0, _ => by unfold m_idc; omega
  | k + 1, hk => by
    have ih := m_idc_1 x k (by omega)
    show m_idc x k + (if x = nI (k + 1) then 1 else 0) ≤ 1
    by_cases z : x = nI (k + 1)
    · rw [if_pos z, m_idc_0 (fun j hj e => by
        rw [z] at e
        have := (nI_eq (by omega) (by omega)).mp e
        omega)]
      omega
    · rw [if_neg z]
      omega
theorem m_sm_s (M : n_M) (n : Nat) : ∀ k, m_sm M (n + 1) k = m_sm M n k + m_idc (M.1 4 (n + 1)) k
  | 0 => rfl
  | k + 1 => by
    show m_sm M (n + 1) k + (m_cnt M k n + (if M.1 4 (n + 1) = nI (k + 1) then 1 else 0)) = (m_sm M n k + m_cnt M k n) + (m_idc (M.1 4 (n + 1)) k + (if M.1 4 (n + 1) = nI (k + 1) then 1 else 0))
    rw [m_sm_s M n k]
    omega
theorem m_sm_0 (M : n_M) : ∀ k, m_sm M 0 k = 0
  | 0 => rfl
  | k + 1 => by
    show m_sm M 0 k + 0 = 0
    rw [m_sm_0 M k]
theorem m_sm_le (M : n_M) (r : Nat) (h0 : M.1 4 r = 0) (h1 : 1 ≤ r) : ∀ n, m_sm M n 12 ≤ n ∧ (r ≤ n → m_sm M n 12 + 1 ≤ n)
  | 0 => by rw [m_sm_0]; omega
  | n + 1 => by
    have ih := m_sm_le M r h0 h1 n
    rw [m_sm_s]
    have hi := m_idc_1 (M.1 4 (n + 1)) 12 (Nat.le_refl _)
    by_cases z : r = n + 1
    · have : m_idc (M.1 4 (n + 1)) 12 = 0 := by
        rw [← z, h0]
        refine m_idc_0 (fun j hj e => ?_)
        have := (nI_eq (a := 0) (by omega) (by omega)).mp e
        omega
      omega
    · omega
theorem m_sm_ge {M : n_M} {n : Nat} : ∀ {k : Nat}, (∀ j, j < k → 1 ≤ m_cnt M j n) → k ≤ m_sm M n k
  | 0, _ => Nat.zero_le _
  | k + 1, h => by
    have h1 := m_sm_ge (k := k) (fun j hj => h j (by omega))
    have h2 := h k (by omega)
    show k + 1 ≤ m_sm M n k + m_cnt M k n
    omega
theorem m_sp_ex {M : n_M} (h : II M) {r : Nat} (hr : m_lfree M r) : ∃ i, m_sp M i := by
  have go : ∀ k, k ≤ 12 → (∀ i, i < k → M.1 12 i ≠ 0) ∨ ∃ i, m_sp M i := by
    intro k
    induction k with
    | zero => exact fun _ => Or.inl (fun i hi => by omega)
    | succ k ih =>
      intro hk
      rcases ih (by omega) with g | g
      · by_cases z : M.1 12 k = 0
        · exact Or.inr ⟨k, by omega, z, g⟩
        · refine Or.inl (fun i hi => ?_)
          by_cases e : i = k
          · rw [e]; exact z
          · exact g i (by omega)
      · exact Or.inr g
  rcases go 12 (Nat.le_refl _) with g | g
  · exfalso
    have z4 := ((h.2.2.1 r hr.1).2.1 hr.2.1).1
    have hle := (m_sm_le M r z4 hr.1.1 12).2 hr.1.2
    have hge : 12 ≤ m_sm M 12 12 := m_sm_ge (fun j hj => by
      have h5 := h.2.2.2.2.1 j hj
      rcases Nat.eq_zero_or_pos (m_cnt M j 12) with z | z
      · rw [z] at h5
        exact absurd h5 (g j hj)
      · exact z)
    omega
  · exact g
theorem m_sp_un {M : n_M} {i j : Nat} (h : m_sp M i) (h' : m_sp M j) : i = j := by
  rcases Nat.lt_trichotomy i j with z | z | z
  · exact absurd h.2.1 (h'.2.2 i z)
  · exact z
  · exact absurd h'.2.1 (h.2.2 j z)
theorem m_lfree_un {M : n_M} {i j : Nat} (h : m_lfree M i) (h' : m_lfree M j) : i = j := by
  rcases Nat.lt_trichotomy i j with z | z | z
  · exact absurd h.2.1 (h'.2.2 i h.1.1 z)
  · exact z
  · exact absurd h'.2.1 (h.2.2 j h'.1.1 z)
theorem m_lfree_ld {M : n_M} {i r : Nat} {o n : List Int32} {fv : Int32} : m_lfree (m_ld M i o n fv) r ↔ m_lfree M r := by
  unfold m_lfree
  rw [m_ld_s (by omega)]
  constructor
  · rintro ⟨a, b, c⟩
    exact ⟨a, b, fun r' h1 h2 => by rw [← m_ld_s (M := M) (i := i) (o := o) (n := n) (fv := fv) (show (0 : Nat) ≠ 17 by omega)]; exact c r' h1 h2⟩
  · rintro ⟨a, b, c⟩
    exact ⟨a, b, fun r' h1 h2 => by rw [m_ld_s (by omega)]; exact c r' h1 h2⟩
theorem m_prg_ld {M : n_M} {i : Nat} {o n : List Int32} {B : List Int32} {fv : Int32} (h : p_all B = .inr (o, n)) : m_prg (m_ld M i o n fv) i := by
  obtain ⟨h1, h2, h3⟩ := p_all_ok h
  unfold m_prg
  rw [m_ld_12, m_ld_13]
  exact ⟨h1, h2, h3⟩
/-- a load that goes through: the new process as the reference and the system make it -/
theorem m_adm_new {M : n_M} (h : II M) {r i : Nat} {a : Int32} (hr : m_lfree M r) : m_s (m_s (m_adm M r i a) 3 r 0) 5 r 0 = m_adm M r i a := by
  have z := (h.2.2.1 r hr.1)
  have z3 := (z.2.1 hr.2.1).2.2.2.1
  have z5 := (z.2.2.1 (Or.inl hr.2.1)).2.2.2.2.2.2.1
  refine m_ext (fun c j => ?_) (fun c j => rfl)
  rw [m_s_s]
  by_cases e5 : c = 5 ∧ j = r
  · rw [if_pos e5, e5.1, e5.2, m_adm_s (by omega) (by omega), z5]
  · rw [if_neg e5, m_s_s]
    by_cases e3 : c = 3 ∧ j = r
    · rw [if_pos e3, e3.1, e3.2, m_adm_s (by omega) (by omega), z3]
    · rw [if_neg e3]
theorem II_load {M : n_M} (h : II M) {r i : Nat} {o n B : List Int32} {x : Int32} (hr : m_lfree M r) (hs : m_sp M i) (hp : p_all B = .inr (o, n)) (hx : ∃ q, q < 3 ∧ x = nI q) : II (m_adm (m_ld M i o n 0) r i x) := by
  have h1 := II_ld h hs.1 hs.2.1 o n 0
  have hr1 : m_lfree (m_ld M i o n 0) r := m_lfree_ld.mpr hr
  have h2 := II_new h1 hr1.1 hr1.2.1 hs.1 (m_prg_ld hp) hx (x := 0) (Or.inl rfl) (n := 0) ⟨0, Nat.zero_le _, rfl⟩
  rw [m_adm_new h1 hr1] at h2
  exact h2
/-- the reference's view does not hold what reading writes, the fault aside -/
theorem r_v_read {M : n_M} {i : Nat} {τ τ' : n_S} (hf : XF i τ τ') (h5 : τ' 0 0 5 = τ 0 0 5) : r_v M τ' = r_v M τ := by
  have g : ∀ κ x, ((κ = 0 ∧ (x = 4 ∨ x = 39 ∨ x = 40 ∨ x = 50 ∨ x = 51)) ∨ κ = 4 ∨ κ = 20 ∨ κ = 21 ∨ κ = 22 ∨ κ = 23 ∨ κ = 25 ∨ (26 ≤ κ ∧ κ ≤ 50)) → τ' κ 0 x = τ κ 0 x := fun κ x u => hf κ x (by unfold p_wr; omega)
  funext κ y k
  unfold r_v
  split
  all_goals first
    | rfl
    | exact h5
    | exact g _ _ (by omega)
    | (unfold r_v1; split <;> first | rfl | exact g _ _ (by omega))
    | (split <;> first | rfl | exact g _ _ (by omega) | (unfold r_v9; split <;> first | rfl | exact g _ _ (by omega)) | (split <;> first | rfl | exact g _ _ (by omega)))
theorem RepC_txt {M : n_M} {τ : n_S} {i : Nat} {o n : List Int32} (h : RepC M (r_v M τ)) (h1 : n.length = o.length) (h2 : o.length ≤ 256) : RepC (m_l (m_l M 12 i o) 13 i n) (r_v (m_l (m_l M 12 i o) 13 i n) τ) := by
  refine ⟨fun c j hv => ?_, fun c j hv => ?_⟩
  · have h3 := h.1 c j hv
    have hc := m_vS_c hv
    simp only [List.mem_cons, List.not_mem_nil, or_false] at hc
    rcases hc with rfl | rfl | rfl | rfl | rfl | rfl | rfl | rfl | rfl | rfl | rfl | rfl | rfl | rfl | rfl | rfl | rfl | rfl | rfl <;> exact h3
  · have h3 := h.2 c j hv
    by_cases e12 : c = 12
    · subst e12
      have e : (m_l (m_l M 12 i o) 13 i n).2 12 j = if j = i then o else M.2 12 j := by
        rw [ml_n (by omega)]
        by_cases z : j = i
        · rw [z, ml_e, if_pos rfl]
        · rw [ml_n (by omega), if_neg z]
      refine ⟨?_, rfl, fun k hk => rfl⟩
      rw [e]
      by_cases z : j = i
      · rw [if_pos z]; exact h2
      · rw [if_neg z]; exact h3.1
    · by_cases e13 : c = 13
      · subst e13
        have e : (m_l (m_l M 12 i o) 13 i n).2 13 j = if j = i then n else M.2 13 j := by
          by_cases z : j = i
          · rw [z, ml_e, if_pos rfl]
          · rw [ml_n (by omega), if_neg z, ml_n (by omega)]
        have e2 : (m_l (m_l M 12 i o) 13 i n).2 12 j = if j = i then o else M.2 12 j := by
          rw [ml_n (by omega)]
          by_cases z : j = i
          · rw [z, ml_e, if_pos rfl]
          · rw [ml_n (by omega), if_neg z]
        refine ⟨?_, ?_, fun k hk => rfl⟩
        · rw [e]
          by_cases z : j = i
          · rw [if_pos z, h1]; exact h2
          · rw [if_neg z]; exact h3.1
        · show nI ((m_l (m_l M 12 i o) 13 i n).2 12 j).length = nI ((m_l (m_l M 12 i o) 13 i n).2 13 j).length
          rw [e, e2]
          by_cases z : j = i
          · rw [if_pos z, if_pos z, h1]
          · rw [if_neg z, if_neg z]
            exact h3.2.1
      · have e : (m_l (m_l M 12 i o) 13 i n).2 c j = M.2 c j := by rw [ml_n (by omega), ml_n (by omega)]
        have e3 : ∀ j, (m_l (m_l M 12 i o) 13 i n).2 3 j = M.2 3 j := fun j => by rw [ml_n (by omega), ml_n (by omega)]
        rw [e]
        have hc := m_vL_c hv
        simp only [List.mem_cons, List.not_mem_nil, or_false] at hc
        rcases hc with rfl | rfl | rfl | rfl | rfl | rfl | rfl | rfl | rfl
        · exact h3
        · exact h3
        · exact h3
        · refine ⟨h3.1, h3.2.1, ?_⟩
          have e4 : cA 3 j (r_v (m_l (m_l M 12 i o) 13 i n) τ) = cA 3 j (r_v M τ) := by
            funext k
            show (if k < 8 then (if j % 2 = 0 then τ 32 0 (8 * (j / 2) + k) else ((m_l (m_l M 12 i o) 13 i n).2 3 j).getD k 0) else 0) = (if k < 8 then (if j % 2 = 0 then τ 32 0 (8 * (j / 2) + k) else (M.2 3 j).getD k 0) else 0)
            rw [e3]
          rw [e4]
          exact h3.2.2
        · exact h3
        · exact h3
        · exact h3
        · exact absurd rfl e12
        · exact absurd rfl e13
theorem rq_read {τ0 τ τ' : n_S} {M : n_M} {i : Nat} (h : RQ τ0 M τ) (hi : i < 12) (h0 : M.1 12 i = 0) (hf : XF i τ τ') {o n : List Int32} (h1 : n.length = o.length) (h2 : o.length ≤ 256) : RQ τ0 (m_s (m_l (m_l M 12 i o) 13 i n) 17 0 (τ' 0 0 5)) τ' := by
  obtain ⟨⟨c1, y1, y2, y3, y4⟩, f1, f2, f3⟩ := h
  have k1 := RepC_txt (i := i) c1 h1 h2
  have k2 := rs_17 (v := τ' 0 0 5) k1 rfl
  have hf' : XF i (n_up τ 0 0 5 (τ' 0 0 5)) τ' := fun κ x u => (hf κ x u).trans (n_up_o (fun z => u (by rw [z.1, z.2]; unfold p_wr; omega))).symm
  rw [← r_v_read hf' (n_up_e _ _ _ _).symm] at k2
  refine ⟨⟨k2, fun p' i' hp' hi' e => ?_, fun i' hi' hu => ?_, ?_, fun j hj => ?_⟩, fun x => ?_, ?_, ?_⟩
  · rw [ms_n (by omega)] at e
    exact (hf 24 p' (by unfold p_wr; omega)).trans (y1 p' i' hp' hi' e)
  · rw [ms_n (by omega)] at hu
    have hu : 0 < M.1 12 i' := hu
    have hne : i' ≠ i := fun z => by rw [z, h0] at hu; exact absurd hu (by decide)
    have hl := (c1.2 12 i' hi').1
    have hl : (M.2 12 i').length ≤ 256 := hl
    have e12 : (m_s (m_l (m_l M 12 i o) 13 i n) 17 0 (τ' 0 0 5)).2 12 i' = M.2 12 i' := by rw [m_s_l, ml_n (by omega), ml_n (by omega)]
    have e13 : (m_s (m_l (m_l M 12 i o) 13 i n) 17 0 (τ' 0 0 5)).2 13 i' = M.2 13 i' := by rw [m_s_l, ml_n (by omega), ml_n (by omega)]
    rw [e12, e13]
    obtain ⟨q1, q2⟩ := y2 i' hi' hu
    refine ⟨(hf 10 i' (by unfold p_wr; omega)).trans q1, fun j hj => ⟨(hf 8 _ (by unfold p_wr; omega)).trans (q2 j hj).1, (hf 9 _ (by unfold p_wr; omega)).trans (q2 j hj).2⟩⟩
  · exact (hf 0 48 (by unfold p_wr; omega)).trans y3
  · obtain ⟨w1, w2, w3⟩ := y4 j hj
    exact ⟨(hf 46 _ (by unfold p_wr; omega)).trans w1, (hf 47 _ (by unfold p_wr; omega)).trans w2, (hf 48 _ (by unfold p_wr; omega)).trans w3⟩
  · exact (hf 11 x (by unfold p_wr; omega)).trans (f1 x)
  · exact (hf 0 52 (by unfold p_wr; omega)).trans f2
  · exact (hf 0 2 (by unfold p_wr; omega)).trans f3
theorem rq_11 {τ0 τ : n_S} {M : n_M} {i : Nat} {v : Int32} (h : RQ τ0 M τ) : RQ (n_up τ 11 0 i v) M (n_up τ 11 0 i v) := by
  obtain ⟨⟨c1, y1, y2, y3, y4⟩, -⟩ := h
  have ht : ∀ κ x, κ ≠ 11 → n_up τ 11 0 i v κ 0 x = τ κ 0 x := fun κ x hk => n_up_o (fun z => hk z.1)
  have e : r_v M (n_up τ 11 0 i v) = r_v M τ := by
    funext κ y k
    unfold r_v
    split
    all_goals first
      | rfl
      | exact ht _ _ (by omega)
      | (unfold r_v1; split <;> first | rfl | exact ht _ _ (by omega))
      | (split <;> first | rfl | exact ht _ _ (by omega) | (unfold r_v9; split <;> first | rfl | exact ht _ _ (by omega)) | (split <;> first | rfl | exact ht _ _ (by omega)))
  refine ⟨⟨by rw [e]; exact c1, fun p' i' hp' hi' e => (ht 24 p' (by omega)).trans (y1 p' i' hp' hi' e), fun i' hi' hu => ?_, (ht 0 48 (by omega)).trans y3, fun j hj => ?_⟩, fun x => rfl, rfl, rfl⟩
  · obtain ⟨q1, q2⟩ := y2 i' hi' hu
    exact ⟨(ht 10 _ (by omega)).trans q1, fun j hj => ⟨(ht 8 _ (by omega)).trans (q2 j hj).1, (ht 9 _ (by omega)).trans (q2 j hj).2⟩⟩
  · obtain ⟨w1, w2, w3⟩ := y4 j hj
    exact ⟨(ht 46 _ (by omega)).trans w1, (ht 47 _ (by omega)).trans w2, (ht 48 _ (by omega)).trans w3⟩
/-- what load does to the reference -/
def XLd (M : n_M) (x : Int32) (rv : Option Value) (τ' : n_S) : Prop := (¬ (¬ x < 0 ∧ x < 3) ∧ rv = some (.int 0) ∧ τ' 0 0 2 = 1 ∧ RepR M τ') ∨ ((¬ x < 0 ∧ x < 3) ∧ m_nofree M ∧ rv = some (.int 0) ∧ τ' 0 0 2 = 2 ∧ RepR M τ') ∨ ((¬ x < 0 ∧ x < 3) ∧ ∃ r i, m_lfree M r ∧ m_sp M i ∧ τ' 0 0 2 = 0 ∧ ((∃ f, p_all (M.2 8 0) = .inl f ∧ rv = some (.int (-1 - nI f.2)) ∧ ∀ go gn, gn.length = go.length → go.length ≤ 256 → RepR (m_ld M i go gn (nI f.1)) τ') ∨ (∃ o n, p_all (M.2 8 0) = .inr (o, n) ∧ rv = some (.int (nI r)) ∧ RepR (m_adm (m_ld M i o n 0) r i x) τ')))
section RLD
variable {l : Launch} {D : va_G} {ca : Nat → ClassId} {ad : Nat → Nat → Nat} {Ex : State → Heap → Prop}
theorem x_load (d : Nat) (x : Int32) (M : n_M) (τ : n_S) (hR : RepR M τ) (hI : II M) : n_Ct l (rw D ca ad Ex) (d + 6) yX12_load cX12_load 3 (some .int) [.ref (ad 0 0), .int x] τ (fun rv τ' => XLd M x rv τ') := by
  refine n_ofW (by decide) (Nat.le_of_ble_eq_true rfl) ?_
  intro p e s m below meth c hC
  have ret : ∀ v : Int32, v = 1 ∨ v = 2 → XLd M x (some (.int 0)) (n_up τ 0 0 2 v) → n_W p l e s m [Value.ref (ad 0 0), Value.int x].toArray below meth c (rw D ca ad Ex) (d + 6) (fun rv τ' => XLd M x rv τ') 26 [some (.ref (ad 0 0)), some (.int x), none] [.int v, .ref (ad 0 0)] τ := by
    intro v hv hx
    refine pm_code hC wfX12_1 dX12_load_26 ?_
    refine n_aload_n hC dX12_load_29 rfl rfl ?_
    refine gm_code hC wfX12_1 dX12_load_30 ?_
    rw [n_up_e]
    refine n_if_le (tgt := 38) hC dX12_load_33 (by decide) (fun h => ?_) (fun h => ?_)
    · rcases hv with hv | hv <;> rw [hv] at h <;> exact absurd h (by decide)
    · refine n_iconst (v := 0) hC dX12_load_36 (by decide) ?_
      refine n_iret hC dX12_load_37 ?_
      exact hx
  have bad1 : ¬ (¬ x < 0 ∧ x < 3) → n_W p l e s m [Value.ref (ad 0 0), Value.int x].toArray below meth c (rw D ca ad Ex) (d + 6) (fun rv τ' => XLd M x rv τ') 10 [some (.ref (ad 0 0)), some (.int x), none] [.ref (ad 0 0)] τ := by
    intro hb
    refine n_iconst (v := 1) hC dX12_load_10 (by decide) ?_
    refine n_goto (tgt := 26) hC dX12_load_11 (by decide) ?_
    exact ret 1 (Or.inl rfl) (Or.inl ⟨hb, rfl, n_up_e _ _ _ _, hR.code 1⟩)
  refine n_aload_n hC dX12_load_0 rfl rfl ?_
  refine n_iload_n hC dX12_load_1 rfl rfl ?_
  refine n_if_lt (tgt := 10) hC dX12_load_2 (by decide) (fun h => ?_) (fun h => ?_)
  · exact bad1 (fun z => z.1 h)
  · have h0 := h
    clear h
    refine n_iload_n hC dX12_load_5 rfl rfl ?_
    refine n_iconst (v := 3) hC dX12_load_6 (by decide) ?_
    refine n_icmp_lt (tgt := 14) hC dX12_load_7 (by decide) (fun h => ?_) (fun h => ?_)
    · have h3 := h
      clear h
      refine n_aload_n hC dX12_load_14 rfl rfl ?_
      refine n_callV hC (x_free (d + 5) τ M τ hR.rq) (Nat.le_refl _) (by decide) (by first | exact rfl | with_reducible assumption) rfl rfl rfl ⟨wmX12_428, wi_yX12_free, wv_yX12_free, wzX12, wc_yX12_free⟩ hy_yX12_free rfl (Nat.le_of_ble_eq_true rfl) dX12_load_15 (fun rv σ' hpo => ?_)
      obtain ⟨hpo, hσ⟩ := hpo
      rw [hσ]
      rcases hpo with ⟨r, hr, rfl⟩ | ⟨hno, rfl⟩
      · obtain ⟨i, hsp⟩ := m_sp_ex hI hr
        have hi := hsp.1
        have hc := hR.code 0
        have hQ := hc.rq
        generalize hτ1 : n_up τ 0 0 2 0 = τ1 at *
        have c2 : τ1 0 0 2 = 0 := by rw [← hτ1, n_up_e]
        have hB : TB (M.2 8 0) τ1 := hQ.tap
        -- the slot is found
        have slot : n_W p l e s m [Value.ref (ad 0 0), Value.int x].toArray below meth c (rw D ca ad Ex) (d + 6) (fun rv τ' => XLd M x rv τ') 55 [some (.ref (ad 0 0)), some (.int x), some (.int (nI i))] [] τ1 := by
          refine n_aload_n hC dX12_load_55 rfl rfl ?_
          refine n_iload_n hC dX12_load_56 rfl rfl ?_
          refine n_callV hC (x_readAll d i (M.2 8 0) τ1 hi hB) (Nat.le_refl _) (by decide) (by first | exact rfl | with_reducible assumption) rfl rfl rfl ⟨wmX12_432, wi_yX12_readAll, wv_yX12_readAll, wzX12, wc_yX12_readAll⟩ hy_yX12_readAll rfl (Nat.le_of_ble_eq_true rfl) dX12_load_57 (fun rv τ2 hpo => ?_)
          obtain ⟨rfl, hF, hpo⟩ := hpo
          have t2 : τ2 0 0 2 = 0 := (hF 0 2 (by unfold p_wr; omega)).trans c2
          have t11 : ∀ y, τ2 11 0 y = τ1 11 0 y := fun y => hF 11 y (by unfold p_wr; omega)
          -- the state behind the reading, for any text of the slot
          have rd : ∀ o n : List Int32, n.length = o.length → o.length ≤ 256 → RQ τ1 (m_ld M i o n (τ2 0 0 5)) (n_up τ2 0 0 4 0) := fun o n q1 q2 => rql_8 (l0 := []) (rq_read hQ hi hsp.2.1 hF q1 q2) (fun κ y u1 u2 => n_up_o (by omega)) (n_up_e _ _ _ _) (by simp) (fun j hj => by simp at hj)
          have rf : ∀ o n : List Int32, ∀ fv : Int32, RF (m_ld M i o n fv) (n_up τ2 0 0 4 0) := fun o n fv => RF_cong hc.2 (fun j _ => m_ld_s (by omega)) (fun y => (n_up_o (by omega)).trans (t11 y))
          refine n_aload_n hC dX12_load_60 rfl rfl ?_
          refine n_iconst (v := 0) hC dX12_load_61 (by decide) ?_
          refine pm_size hC wfX12_227 dX12_load_62 ?_
          refine n_aload_n hC dX12_load_65 rfl rfl ?_
          refine gm_fault hC wfX12_271 dX12_load_66 ?_
          rw [n_up_o (by omega)]
          rcases hpo with ⟨f, g1, g5, g6, gl, gu⟩ | ⟨o, n, g1, g5, g10, gj⟩
          · rw [g5]
            refine n_if_le (tgt := 79) hC dX12_load_69 (by decide) (fun h => ?_) (fun h => ?_)
            · exact absurd h (nI_ge (b := f.1) (a := 0) (by omega) (by omega))
            · refine n_iconst (v := -1) hC dX12_load_72 (by decide) ?_
              refine n_aload_n hC dX12_load_73 rfl rfl ?_
              refine gm_place hC wfX12_274 dX12_load_74 ?_
              rw [n_up_o (by omega), g6]
              refine n_isub hC dX12_load_77 ?_
              refine n_iret hC dX12_load_78 ?_
              refine Or.inr (Or.inr ⟨⟨h0, h3⟩, r, i, hr, hsp, (n_up_o (by omega)).trans t2, Or.inl ⟨f, g1, rfl, fun go gn q1 q2 => ⟨?_, rf go gn _⟩⟩⟩)
              have := rd go gn q1 q2
              rw [g5] at this
              exact this.1
          · rw [g5]
            obtain ⟨q1, q2, -⟩ := p_all_ok g1
            have rd1 := rd o n q1 q2
            rw [g5] at rd1
            have hI1 := II_ld hI hi hsp.2.1 o n 0
            obtain ⟨lv, hlv, hx⟩ := nI_of3 (n := 3) h0 (by omega) h3
            refine n_if_le (tgt := 79) hC dX12_load_69 (by decide) (fun h => ?_) (fun h => ?_)
            · refine n_aload_n hC dX12_load_79 rfl rfl ?_
              refine gm_isProgram hC wfX12_118 dX12_load_80 ?_
              refine n_iload_n hC dX12_load_83 rfl rfl ?_
              refine n_iconst (v := 1) hC dX12_load_84 (by decide) ?_
              first | refine r_stb hC rfl (fun _ h => h) (fun _ => rfl) (by decide) (by first | omega | with_reducible assumption) dX12_load_85 ?_ | refine r_stz hC rfl (fun _ h => h) (fun _ => rfl) (by decide) (by first | omega | with_reducible assumption) rfl dX12_load_85 ?_
              refine n_aload_n hC dX12_load_86 rfl rfl ?_
              refine n_iload_n hC dX12_load_87 rfl rfl ?_
              refine n_iload_n hC dX12_load_88 rfl rfl ?_
              refine n_iconst (v := 0) hC dX12_load_89 (by decide) ?_
              refine n_iconst (v := 0) hC dX12_load_90 (by decide) ?_
              have rd2 := rq_11 (i := i) (v := 1) rd1
              have hpc : r_pc (m_ld M i o n 0) (n_up (n_up τ2 0 0 4 0) 11 0 i 1) i := by
                unfold r_pc
                rw [m_ld_12, m_ld_13]
                exact ⟨(n_up_o (by omega)).trans ((n_up_o (by omega)).trans g10), fun j hj => ⟨(n_up_o (by omega)).trans ((n_up_o (by omega)).trans (gj j hj).1), (n_up_o (by omega)).trans ((n_up_o (by omega)).trans (gj j hj).2)⟩⟩
              refine n_callV hC (x_start (d + 3) i x 0 0 _ (m_ld M i o n 0) _ rd2 hI1 hi hpc ⟨lv, hlv, hx⟩) (Nat.le_refl _) (by decide) (by first | exact rfl | with_reducible assumption) rfl rfl rfl ⟨wmX12_373, wi_yX12_start, wv_yX12_start, wzX12, wc_yX12_start⟩ hy_yX12_start rfl (Nat.le_of_ble_eq_true rfl) dX12_load_91 (fun rv τ5 hpo => ?_)
              rcases hpo with ⟨r', hr', rfl, hQ5⟩ | ⟨hno, -⟩
              · have er : r' = r := m_lfree_un (m_lfree_ld.mp hr') hr
                subst er
                rw [m_adm_new hI1 hr'] at hQ5
                refine n_iret hC dX12_load_94 ?_
                refine Or.inr (Or.inr ⟨⟨h0, h3⟩, r', i, hr, hsp, ?_, Or.inr ⟨o, n, g1, rfl, hQ5.1, ?_⟩⟩)
                · rw [hQ5.2.2.2, n_up_o (by omega), n_up_o (by omega), t2]
                · refine ⟨fun j hj => ?_, ?_⟩
                  · rw [hQ5.2.1 j]
                    by_cases z : j = i
                    · rw [z, n_up_e, (m_adm_4 _ r' i x).2.1, m_ld_s (by omega), hsp.2.1]
                      rfl
                    · rw [n_up_o (by omega), n_up_o (by omega), t11 j, hc.2.1 j hj, m_adm_s (by omega) (by omega), m_ld_s (by omega)]
                  · rw [hQ5.2.1 12, n_up_o (by omega), n_up_o (by omega), t11 12]
                    exact hc.2.2
              · exact absurd hr.2.1 (by have := hno r hr.1.1 hr.1.2; rw [m_ld_s (by omega)] at this; exact this)
            · exact absurd (by decide) h
        have find : ∀ (t k : Nat), t + k = i → n_W p l e s m [Value.ref (ad 0 0), Value.int x].toArray below meth c (rw D ca ad Ex) (d + 6) (fun rv τ' => XLd M x rv τ') 40 [some (.ref (ad 0 0)), some (.int x), some (.int (nI k))] [] τ1 := by
          intro t
          induction t with
          | zero =>
            intro k hk
            have : k = i := by omega
            subst this
            refine n_aload_n hC dX12_load_40 rfl rfl ?_
            refine gm_isProgram hC wfX12_118 dX12_load_41 ?_
            refine n_iload_n hC dX12_load_44 rfl rfl ?_
            first | refine r_ldb hC rfl (fun _ => rfl) (by decide) (by first | omega | with_reducible assumption) dX12_load_45 ?_ | refine r_ldz hC rfl (fun _ => rfl) (by decide) (by first | omega | with_reducible assumption) dX12_load_45 ?_
            rw [hc.2.1 k hi, hsp.2.1]
            refine n_if_eq (tgt := 55) hC dX12_load_46 (by decide) (fun h => ?_) (fun h => ?_)
            · exact slot
            · exact absurd (by decide) h
          | succ t ih =>
            intro k hk
            have hpos : 0 < M.1 12 k := by
              have h5 := hI.2.2.2.2.1 k (by omega)
              have hne := hsp.2.2 k (by omega)
              have hle := m_cnt_le M k 12
              rw [h5] at hne ⊢
              rcases Nat.eq_zero_or_pos (m_cnt M k 12) with z | z
              · exact absurd (by rw [z]; rfl) hne
              · exact nI_lt (a := 0) z (by omega)
            refine n_aload_n hC dX12_load_40 rfl rfl ?_
            refine gm_isProgram hC wfX12_118 dX12_load_41 ?_
            refine n_iload_n hC dX12_load_44 rfl rfl ?_
            first | refine r_ldb hC rfl (fun _ => rfl) (by decide) (by first | omega | with_reducible assumption) dX12_load_45 ?_ | refine r_ldz hC rfl (fun _ => rfl) (by decide) (by first | omega | with_reducible assumption) dX12_load_45 ?_
            rw [hc.2.1 k (by omega), if_pos hpos]
            refine n_if_eq (tgt := 55) hC dX12_load_46 (by decide) (fun h => ?_) (fun h => ?_)
            · exact absurd h (by decide)
            · refine n_iinc hC dX12_load_49 rfl (show _ + Int32.ofInt 1 = _ + 1 from rfl) ?_
              refine n_goto (tgt := 40) hC dX12_load_52 (by decide) ?_
              rw [nI_1]
              exact ih (k + 1) (by omega)
        refine n_if_ne (tgt := 25) hC dX12_load_18 (by decide) (fun h => ?_) (fun h => ?_)
        · clear h
          refine n_iconst (v := 0) hC dX12_load_25 (by decide) ?_
          refine pm_code hC wfX12_1 dX12_load_26 ?_
          refine n_aload_n hC dX12_load_29 rfl rfl ?_
          refine gm_code hC wfX12_1 dX12_load_30 ?_
          rw [hτ1, c2]
          refine n_if_le (tgt := 38) hC dX12_load_33 (by decide) (fun h => ?_) (fun h => ?_)
          · refine n_iconst (v := 0) hC dX12_load_38 (by decide) ?_
            refine n_istore_n hC dX12_load_39 rfl (Nat.le_of_ble_eq_true rfl) ?_
            exact find i 0 rfl
          · exact absurd (by decide) h
        · exfalso
          have := (nI_eq (b := 0) (by have := hr.1.2; omega) (by omega)).mp h
          have := hr.1.1
          omega
      · refine n_if_ne (tgt := 25) hC dX12_load_18 (by decide) (fun h => ?_) (fun h => ?_)
        · exact absurd rfl h
        · refine n_iconst (v := 2) hC dX12_load_21 (by decide) ?_
          refine n_goto (tgt := 26) hC dX12_load_22 (by decide) ?_
          exact ret 2 (Or.inr rfl) (Or.inr (Or.inl ⟨⟨h0, h3⟩, hno, rfl, n_up_e _ _ _ _, hR.code 2⟩))
    · exact bad1 (fun z => h z.2)
end RLD
