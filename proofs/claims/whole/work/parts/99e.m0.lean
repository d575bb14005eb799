/-! the first state of both, over one M -/
theorem c_rep0 (D : va_G) (ca : Nat → ClassId) (ae : Nat → Nat) (Ex : State → Heap → Prop) {b : Nat} {σ0 σ : a_S} {H : Heap} {zz : Nat} (hI : a_I (aA_C ca (b + 1)) b (b + 1) 186 σ0 σ (aO_C (b + 1))) (hR : a_R D σ zz H) : n_Rep (cw D ca (c_ad b) ae Ex) c_s0 H := by
  intro κ i h
  by_cases hk : κ = 0
  · subst hk
    have h : i = 0 := h
    subst h
    exact hR.2 b _ hI.1
  · obtain ⟨j, hj, e, hz⟩ := c_at0 D ca ae b h hk
    refine hz H ?_
    have := hR.2 _ _ (hI.2.1 j hj)
    rw [← e] at this
    exact this
def r_ofL : List (Nat × Nat) := [(1, 0), (2, 1), (4, 2), (8, 3), (9, 4), (10, 5), (11, 6), (12, 7), (13, 8), (14, 9), (16, 10), (17, 11), (20, 12), (21, 13), (22, 14), (23, 15), (24, 16), (25, 17), (26, 18), (27, 19), (28, 20), (29, 21), (30, 22), (31, 23), (32, 24), (33, 25), (34, 26), (35, 27), (36, 28), (37, 29), (38, 30), (39, 31), (42, 32), (43, 33), (44, 34), (45, 35), (46, 36), (47, 37), (48, 38), (50, 39)]
def r_ad (b : Nat) (κ _i : Nat) : Nat := match κ with
  | 0 => b
  | 1 => b + 1 + 0
  | 2 => b + 1 + 1
  | 4 => b + 1 + 2
  | 8 => b + 1 + 3
  | 9 => b + 1 + 4
  | 10 => b + 1 + 5
  | 11 => b + 1 + 6
  | 12 => b + 1 + 7
  | 13 => b + 1 + 8
  | 14 => b + 1 + 9
  | 16 => b + 1 + 10
  | 17 => b + 1 + 11
  | 20 => b + 1 + 12
  | 21 => b + 1 + 13
  | 22 => b + 1 + 14
  | 23 => b + 1 + 15
  | 24 => b + 1 + 16
  | 25 => b + 1 + 17
  | 26 => b + 1 + 18
  | 27 => b + 1 + 19
  | 28 => b + 1 + 20
  | 29 => b + 1 + 21
  | 30 => b + 1 + 22
  | 31 => b + 1 + 23
  | 32 => b + 1 + 24
  | 33 => b + 1 + 25
  | 34 => b + 1 + 26
  | 35 => b + 1 + 27
  | 36 => b + 1 + 28
  | 37 => b + 1 + 29
  | 38 => b + 1 + 30
  | 39 => b + 1 + 31
  | 42 => b + 1 + 32
  | 43 => b + 1 + 33
  | 44 => b + 1 + 34
  | 45 => b + 1 + 35
  | 46 => b + 1 + 36
  | 47 => b + 1 + 37
  | 48 => b + 1 + 38
  | 50 => b + 1 + 39
  | _ => 0
def r_s0 : n_S := fun κ _ k => if κ = 0 ∧ k = 40 then 4 else if κ = 0 ∧ k = 48 then 1 else if κ = 47 ∧ k = 0 then 1024 else 0
theorem r_dom_c {κ i : Nat} (h : rw_dom κ i) : i = 0 ∧ κ ∈ [0, 1, 2, 4, 8, 9, 10, 11, 12, 13, 14, 16, 17, 20, 21, 22, 23, 24, 25, 26, 27, 28, 29, 30, 31, 32, 33, 34, 35, 36, 37, 38, 39, 42, 43, 44, 45, 46, 47, 48, 50] := by
  unfold rw_dom at h
  split at h <;> first | exact h.elim | exact ⟨h, by decide⟩
def rr_inv (o : Nat) : Nat := ([0, 1, 2, 4, 8, 9, 10, 11, 12, 13, 14, 16, 17, 20, 21, 22, 23, 24, 25, 26, 27, 28, 29, 30, 31, 32, 33, 34, 35, 36, 37, 38, 39, 42, 43, 44, 45, 46, 47, 48, 50] : List Nat).getD o 0
theorem rr_inv_ad {b κ i : Nat} (h : rw_dom κ i) : b ≤ r_ad b κ i ∧ r_ad b κ i < b + 41 ∧ rr_inv (r_ad b κ i - b) = κ := by
  obtain ⟨rfl, hc⟩ := r_dom_c h
  simp only [List.mem_cons, List.not_mem_nil, or_false] at hc
  rcases hc with rfl | rfl | rfl | rfl | rfl | rfl | rfl | rfl | rfl | rfl | rfl | rfl | rfl | rfl | rfl | rfl | rfl | rfl | rfl | rfl | rfl | rfl | rfl | rfl | rfl | rfl | rfl | rfl | rfl | rfl | rfl | rfl | rfl | rfl | rfl | rfl | rfl | rfl | rfl | rfl | rfl
  all_goals
    simp only [r_ad]
    refine ⟨by omega, by omega, ?_⟩
    first
      | (rw [Nat.sub_self]; rfl)
      | (rw [Nat.add_assoc b, Nat.add_sub_cancel_left]; rfl)
theorem r_ad_inj (b : Nat) {κ i κ' i' : Nat} (h : rw_dom κ i) (h' : rw_dom κ' i') (e : r_ad b κ i = r_ad b κ' i') : κ = κ' ∧ i = i' := by
  have h1 := (rr_inv_ad (b := b) h).2.2
  rw [e, (rr_inv_ad (b := b) h').2.2] at h1
  exact ⟨h1.symm, (r_dom_c h).1.trans (r_dom_c h').1.symm⟩
theorem r_s0_47 : r_s0 47 0 = upd (fun _ => 0) 0 1024 := by
  funext k
  show (if 47 = 0 ∧ k = 40 then (4 : Int32) else if 47 = 0 ∧ k = 48 then 1 else if 47 = 47 ∧ k = 0 then 1024 else 0) = if k = 0 then 1024 else 0
  rw [if_neg (by omega), if_neg (by omega)]
  by_cases h : k = 0
  · rw [if_pos ⟨rfl, h⟩, if_pos h]
  · rw [if_neg (fun q => h q.2), if_neg h]
theorem r_rep0 (D : va_G) (ca : Nat → ClassId) (Ex : State → Heap → Prop) {b : Nat} {σ0 σ : a_S} {H : Heap} {zz : Nat} (hI : a_I (aB_M ca) b (b + 1) 40 σ0 σ (aO_M (b + 1))) (hR : a_R D σ zz H) : n_Rep (rw D ca (r_ad b) Ex) r_s0 H := by
  have key : ∀ j, j < 40 → va_at D n_cls (b + 1 + j, aB_M ca j) H := fun j hj => hR.2 _ _ (hI.2.1 j hj)
  intro κ i h
  obtain ⟨rfl, hc⟩ := r_dom_c h
  simp only [List.mem_cons, List.not_mem_nil, or_false] at hc
  rcases hc with rfl | rfl | rfl | rfl | rfl | rfl | rfl | rfl | rfl | rfl | rfl | rfl | rfl | rfl | rfl | rfl | rfl | rfl | rfl | rfl | rfl | rfl | rfl | rfl | rfl | rfl | rfl | rfl | rfl | rfl | rfl | rfl | rfl | rfl | rfl | rfl | rfl | rfl | rfl | rfl | rfl
  · exact hR.2 b _ hI.1
  · have h1 := key 0 (by decide)
    have e : aB_M ca 0 = .inl (ca 2, 42, .inr (.inl (fun j => rw_wo.getD j 0))) := by
      rw [← aWo_e]
      rfl
    rw [e] at h1
    exact h1
  · have h1 := key 1 (by decide)
    have e : aB_M ca 1 = .inl (ca 0, 43, .inl (fun j => rw_ne.getD j 0)) := by
      rw [← aNe_e]
      rfl
    rw [e] at h1
    exact h1
  · exact key 2 (by decide)
  · exact key 3 (by decide)
  · exact key 4 (by decide)
  · exact key 5 (by decide)
  · exact key 6 (by decide)
  · exact key 7 (by decide)
  · exact key 8 (by decide)
  · exact key 9 (by decide)
  · exact key 10 (by decide)
  · exact key 11 (by decide)
  · exact key 12 (by decide)
  · exact key 13 (by decide)
  · exact key 14 (by decide)
  · exact key 15 (by decide)
  · exact key 16 (by decide)
  · exact key 17 (by decide)
  · exact key 18 (by decide)
  · exact key 19 (by decide)
  · exact key 20 (by decide)
  · exact key 21 (by decide)
  · exact key 22 (by decide)
  · exact key 23 (by decide)
  · exact key 24 (by decide)
  · exact key 25 (by decide)
  · exact key 26 (by decide)
  · exact key 27 (by decide)
  · exact key 28 (by decide)
  · exact key 29 (by decide)
  · exact key 30 (by decide)
  · exact key 31 (by decide)
  · exact key 32 (by decide)
  · exact key 33 (by decide)
  · exact key 34 (by decide)
  · exact key 35 (by decide)
  · exact key 36 (by decide)
  · show va_at D n_cls (_, rw_eL ca (r_ad b) 47 (r_s0 47 0)) H
    rw [r_s0_47]
    exact key 37 (by decide)
  · exact key 38 (by decide)
  · exact key 39 (by decide)
def m_0 : n_M := (fun c i => if c = 13 ∧ i = 0 then 1024 else if c = 16 ∧ i = 0 then 4 else if c = 19 ∧ i = 0 then 2147483647 else 0, fun c i => if c = 10 ∧ i = 0 then [1024] else if c = 11 ∧ i = 0 then [0] else [])
theorem m_0s {c i : Nat} (h : c ≠ 13 ∧ c ≠ 16 ∧ c ≠ 19) : m_0.1 c i = 0 := by
  show (if c = 13 ∧ i = 0 then (1024 : Int32) else if c = 16 ∧ i = 0 then 4 else if c = 19 ∧ i = 0 then 2147483647 else 0) = 0
  rw [if_neg (fun q => h.1 q.1), if_neg (fun q => h.2.1 q.1), if_neg (fun q => h.2.2 q.1)]
theorem m_0l {c i : Nat} (h : c ≠ 10 ∧ c ≠ 11) : m_0.2 c i = [] := by
  show (if c = 10 ∧ i = 0 then [(1024 : Int32)] else if c = 11 ∧ i = 0 then [0] else []) = []
  rw [if_neg (fun q => h.1 q.1), if_neg (fun q => h.2 q.1)]
theorem m_0_13 (k : Nat) : m_0.1 13 k = nI (m_sz [1024] k) := by
  show (if 13 = 13 ∧ k = 0 then (1024 : Int32) else if 13 = 16 ∧ k = 0 then 4 else if 13 = 19 ∧ k = 0 then 2147483647 else 0) = nI (if k = 0 then 1024 else if k < 1024 then 0 else 0)
  by_cases h : k = 0
  · rw [if_pos ⟨rfl, h⟩, if_pos h]
    rfl
  · rw [if_neg (fun q => h q.2), if_neg (by omega), if_neg (by omega), if_neg h, ite_self]
    rfl
theorem m_0_B : IB m_0 := by
  have e1 : m_nsl m_0 = [1024] := rfl
  unfold IB
  rw [e1]
  refine ⟨⟨rfl, fun n hn => by rw [List.mem_singleton.mp hn]; decide, rfl⟩, rfl, rfl, fun k hk => ?_, fun k hk => m_0_13 k⟩
  rw [m_0s (by decide)]
  show (0 : Int32) = if k < 1024 then (0 : Int32) else 0
  rw [ite_self]
theorem m_0_cnt (i : Nat) (hi : i < 12) : ∀ n, m_cnt m_0 i n = 0
  | 0 => rfl
  | n + 1 => by
    show m_cnt m_0 i n + (if m_0.1 4 (n + 1) = nI (i + 1) then 1 else 0) = 0
    rw [m_0_cnt i hi n, m_0s (by decide), if_neg (fun e => nI_ne0 (n := i + 1) (by omega) (by omega) e.symm)]
theorem m_0_II : II m_0 := by
  refine ⟨⟨fun q _ => ⟨0, by decide, m_0s (by decide)⟩, fun r _ => ?_, fun q r _ _ h => ?_, fun k _ => ?_, fun q _ h => ?_⟩, m_0_B, fun p _ => ⟨⟨0, by decide, m_0s (by decide)⟩, fun _ => ⟨m_0s (by decide), m_0s (by decide), m_0s (by decide), m_0s (by decide), m_0s (by decide)⟩, fun _ => ⟨m_0l (by decide), m_0l (by decide), m_0l (by decide), m_0l (by decide), m_0l (by decide), m_0l (by decide), m_0s (by decide), m_0s (by decide), m_0s (by decide)⟩, fun h => absurd (m_0s (by decide)) h, fun h => ?_⟩, fun p _ => Or.inl (m_0s (by decide)), fun i hi => ?_, fun i hi h => ?_⟩
  · rw [m_0l (by decide)]
    exact ⟨List.nodup_nil, fun x hx => absurd hx List.not_mem_nil⟩
  · rw [m_0s (by decide)] at h
    exact absurd h (by decide)
  · rw [m_0l (by decide)]
    exact ⟨List.nodup_nil, fun x hx => absurd hx List.not_mem_nil⟩
  · rw [m_0s (by decide)] at h
    exact absurd h (by decide)
  · rw [m_0s (by decide)] at h
    exact absurd h (by decide)
  · rw [m_0_cnt i hi, m_0s (by decide)]
    rfl
  · rw [m_0s (by decide)] at h
    exact absurd h (by decide)
theorem m_0_7 : I7 m_0 := fun p h => m_0s (by decide)
theorem nh_nil (f : Nat → Int32) : n_h f [] := fun i hi => absurd hi (Nat.not_lt_zero _)
theorem m_0_C : RepC m_0 c_s0 := by
  refine ⟨fun c i hv => ?_, fun c i hv => ?_⟩
  · have hc := m_vS_c hv
    simp only [List.mem_cons, List.not_mem_nil, or_false] at hc
    rcases hc with rfl | rfl | rfl | rfl | rfl | rfl | rfl | rfl | rfl | rfl | rfl | rfl | rfl | rfl | rfl | rfl | rfl | rfl | rfl
    all_goals first
      | exact (m_0s (by decide)).symm
      | (have hv : i = 0 := hv
         subst hv
         rfl)
      | (rw [m_0_13]
         show c_s0 18 0 i = nI (if i = 0 then 1024 else if i < 1024 then 0 else 0)
         rw [c_s0_18]
         show (if i = 0 then (1024 : Int32) else 0) = _
         by_cases h : i = 0
         · rw [if_pos h, if_pos h]
           rfl
         · rw [if_neg h, if_neg h, ite_self]
           rfl)
  · have hc := m_vL_c hv
    simp only [List.mem_cons, List.not_mem_nil, or_false] at hc
    rcases hc with rfl | rfl | rfl | rfl | rfl | rfl | rfl | rfl | rfl
    all_goals
      rw [m_0l (by decide)]
      exact ⟨Nat.zero_le _, rfl, nh_nil _⟩
theorem m_0_R : RepR m_0 r_s0 := by
  have z : ∀ κ x, κ ≠ 0 → κ ≠ 47 → r_s0 κ 0 x = 0 := fun κ x h1 h2 => by
    show (if κ = 0 ∧ x = 40 then (4 : Int32) else if κ = 0 ∧ x = 48 then 1 else if κ = 47 ∧ x = 0 then 1024 else 0) = 0
    rw [if_neg (fun q => h1 q.1), if_neg (fun q => h1 q.1), if_neg (fun q => h2 q.1)]
  refine ⟨⟨⟨fun c i hv => ?_, fun c i hv => ?_⟩, fun p i _ _ h => ?_, fun i hi h => ?_, rfl, fun j hj => ?_⟩, fun i _ => ?_, z 11 12 (by decide) (by decide)⟩
  · have hc := m_vS_c hv
    simp only [List.mem_cons, List.not_mem_nil, or_false] at hc
    rcases hc with rfl | rfl | rfl | rfl | rfl | rfl | rfl | rfl | rfl | rfl | rfl | rfl | rfl | rfl | rfl | rfl | rfl | rfl | rfl
    all_goals first
      | (have hv : i = 0 := hv
         subst hv
         rfl)
      | rfl
      | exact (z _ _ (by decide) (by decide)).trans (m_0s (by decide)).symm
  · have hc := m_vL_c hv
    simp only [List.mem_cons, List.not_mem_nil, or_false] at hc
    rcases hc with rfl | rfl | rfl | rfl | rfl | rfl | rfl | rfl | rfl
    all_goals
      rw [m_0l (by decide)]
      refine ⟨Nat.zero_le _, ?_, nh_nil _⟩
      first
        | (have hv : i = 0 := hv
           subst hv
           rfl)
        | rfl
        | exact z _ _ (by decide) (by decide)
        | (show (if i % 2 = 0 then r_s0 30 0 (i / 2) else r_s0 33 0 (i / 2)) = _
           rw [z 30 _ (by decide) (by decide), z 33 _ (by decide) (by decide), ite_self]
           rfl)
        | (show (if i < 3 then r_s0 39 0 i else r_s0 44 0 (i - 3)) = _
           rw [z 39 _ (by decide) (by decide), z 44 _ (by decide) (by decide), ite_self]
           rfl)
        | (show nI (m_0.2 12 i).length = _
           rw [m_0l (by decide)]
           rfl)
  · rw [m_0s (by decide)] at h
    exact absurd h.symm (nI_ne0 (n := i + 1) (by omega) (by omega))
  · rw [m_0s (by decide)] at h
    exact absurd h (by decide)
  · have hj : j < 1 := hj
    have e : j = 0 := by omega
    subst e
    exact ⟨rfl, rfl, rfl⟩
  · rw [z 11 _ (by decide) (by decide), m_0s (by decide)]
    rfl
