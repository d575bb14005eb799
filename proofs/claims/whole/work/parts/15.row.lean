theorem n_up_k (σ : n_S) (κ i k κ' i' k' : Nat) (v : Int32) : n_up σ κ i k v κ' i' k' = if κ' = κ ∧ i' = i ∧ k' = k then v else σ κ' i' k' := by
  unfold n_up
  by_cases h : κ' = κ ∧ i' = i
  · obtain ⟨rfl, rfl⟩ := h
    simp [upd]
  · rw [if_neg h, if_neg (fun q => h ⟨q.1, q.2.1⟩)]
section RW1
variable {l : Launch} {D : va_G} {ca : Nat → ClassId} {ad : Nat → Nat → Nat} {ae : Nat → Nat} {Ex : State → Heap → Prop}
theorem c_join (d r : Nat) (x : Int32) (M : n_M) (σ : n_S) (hM : RepC M σ) (hr : r < 11) (hl : (M.2 5 r).length < 12) : n_Ct l (cw D ca ad ae Ex) d yX7_join cX7_join 2 none [.ref (ad 31 r), .int x] σ (fun rv σ' => rv = none ∧ RepC (m_l M 5 r (M.2 5 r ++ [x])) σ') := by
  obtain ⟨h1, h2, h3⟩ := hM.2 5 r hr
  have e1 : σ 31 r 1 = nI (M.2 5 r).length := h2
  refine n_ofW (by decide) (Nat.le_of_ble_eq_true rfl) ?_
  intro p e s m below meth c hC
  have hd : cw_dom 31 r := hr
  have hd2 : cw_dom 32 r := hr
  refine n_aload_n hC dX7_join_0 rfl rfl ?_
  refine g31_size hC (by first | assumption | exact rfl) wfX7_15 dX7_join_1 ?_
  refine n_bipush (v := 12) hC dX7_join_4 (by decide) ?_
  refine n_icmp_ge (tgt := 29) hC dX7_join_6 (by decide) (fun h => ?_) (fun h => ?_)
  · rw [e1] at h
    exact absurd h (nI_ge hl (by decide))
  · refine n_aload_n hC dX7_join_9 rfl rfl ?_
    refine g31_members hC (by first | assumption | exact rfl) wfX7_9 dX7_join_10 ?_
    refine n_aload_n hC dX7_join_13 rfl rfl ?_
    refine g31_size hC (by first | assumption | exact rfl) wfX7_15 dX7_join_14 ?_
    refine n_iload_n hC dX7_join_17 rfl rfl ?_
    rw [e1]
    refine c_iast hC (by first | assumption | exact rfl) (fun _ => rfl) (by first | assumption | exact vp_in_nI (by omega) (by decide)) dX7_join_18 ?_
    refine n_aload_n hC dX7_join_19 rfl rfl ?_
    refine n_dup hC dX7_join_20 rfl ?_
    refine g31_size hC (by first | assumption | exact rfl) wfX7_15 dX7_join_21 ?_
    refine n_iconst (v := 1) hC dX7_join_24 (by decide) ?_
    refine n_iadd hC dX7_join_25 ?_
    refine p31_size hC (by first | assumption | exact rfl) wfX7_15 dX7_join_26 ?_
    refine n_vret hC dX7_join_29 ?_
    refine ⟨rfl, ?_⟩
    have e2 : (nI (M.2 5 r).length).toNatClampNeg = (M.2 5 r).length := nI_clamp (by omega)
    rw [e2]
    refine cl_5 hM hr (fun κ i k a b => ?_) ?_ ?_ ?_
    · simp only [n_up_k]
      repeat (first | rfl | rw [if_neg (by omega)])
    · simp [n_up, upd, e1, nI_succ]
    · simp; omega
    · simp only [n_up, upd]
      simp
      exact n_h_push h3
theorem c_leave (d r : Nat) (x : Int32) (M : n_M) (σ : n_S) (hM : RepC M σ) (hr : r < 11) : n_Ct l (cw D ca ad ae Ex) d yX7_leave cX7_leave 4 none [.ref (ad 31 r), .int x] σ (fun rv σ' => rv = none ∧ RepC (m_l M 5 r ((M.2 5 r).filter (fun y => decide (y ≠ x)))) σ') := by
  obtain ⟨h1, h2, h3⟩ := hM.2 5 r hr
  have h1 : (M.2 5 r).length ≤ 12 := h1
  have e1 : σ 31 r 1 = nI (M.2 5 r).length := h2
  refine n_ofW (by decide) (Nat.le_of_ble_eq_true rfl) ?_
  intro p e s m below meth c hC
  have hd : cw_dom 31 r := hr
  have hd2 : cw_dom 32 r := hr
  have loop : ∀ (n k t : Nat) (σ1 : n_S), n + k = (M.2 5 r).length → (∀ κ i j, ¬ (κ = 32 ∧ i = r) → σ1 κ i j = σ κ i j) → n_kp (fun y => decide (y ≠ x)) (M.2 5 r) k t (σ1 32 r) →
      n_W p l e s m [Value.ref (ad 31 r), Value.int x].toArray below meth c (cw D ca ad ae Ex) d (fun rv σ' => rv = none ∧ RepC (m_l M 5 r ((M.2 5 r).filter (fun y => decide (y ≠ x)))) σ') 4 [some (.ref (ad 31 r)), some (.int x), some (.int (nI t)), some (.int (nI k))] [] σ1 := by
    intro n
    induction n with
    | zero =>
      intro k t σ1 hn hf hk
      have e2 : σ1 31 r 1 = nI (M.2 5 r).length := by rw [hf 31 r 1 (by omega)]; exact e1
      have e3 : k = (M.2 5 r).length := by omega
      subst e3
      refine n_iload_n hC dX7_leave_4 rfl rfl ?_
      refine n_aload_n hC dX7_leave_5 rfl rfl ?_
      refine g31_size hC (by first | assumption | exact rfl) wfX7_15 dX7_leave_6 ?_
      refine n_icmp_ge (tgt := 43) hC dX7_leave_9 (by decide) (fun h => ?_) (fun h => ?_)
      · refine n_aload_n hC dX7_leave_43 rfl rfl ?_
        refine n_iload_n hC dX7_leave_44 rfl rfl ?_
        refine p31_size hC (by first | assumption | exact rfl) wfX7_15 dX7_leave_45 ?_
        refine n_vret hC dX7_leave_48 ?_
        refine ⟨rfl, ?_⟩
        obtain ⟨k1, k2⟩ := n_kp_end hk
        refine cl_5 hM hr (fun κ i j a b => ?_) ?_ ?_ ?_
        · rw [n_up_k, if_neg (by omega)]
          exact hf κ i j b
        · rw [n_up_k, if_pos ⟨rfl, rfl, rfl⟩, k1]
        · exact Nat.le_trans (List.length_filter_le _ _) h1
        · intro i hi
          rw [n_up_k, if_neg (by omega)]
          exact k2 i hi
      · rw [e2] at h
        exact absurd (Int32.le_refl _) h
    | succ n ih =>
      intro k t σ1 hn hf hk
      have e2 : σ1 31 r 1 = nI (M.2 5 r).length := by rw [hf 31 r 1 (by omega)]; exact e1
      have hkl : k < (M.2 5 r).length := by omega
      have ht : t ≤ k := hk.2.2.1
      have e4 : (nI k).toNatClampNeg = k := nI_clamp (by omega)
      have e5 : (nI t).toNatClampNeg = t := nI_clamp (by omega)
      have e6 : σ1 32 r k = (M.2 5 r).getD k 0 := hk.2.2.2.2 k (Nat.le_refl _) hkl
      refine n_iload_n hC dX7_leave_4 rfl rfl ?_
      refine n_aload_n hC dX7_leave_5 rfl rfl ?_
      refine g31_size hC (by first | assumption | exact rfl) wfX7_15 dX7_leave_6 ?_
      refine n_icmp_ge (tgt := 43) hC dX7_leave_9 (by decide) (fun h => ?_) (fun h => ?_)
      · rw [e2] at h
        exact absurd h (nI_ge hkl (by omega))
      · refine n_aload_n hC dX7_leave_12 rfl rfl ?_
        refine g31_members hC (by first | assumption | exact rfl) wfX7_9 dX7_leave_13 ?_
        refine n_iload_n hC dX7_leave_16 rfl rfl ?_
        refine c_iald hC (by first | assumption | exact rfl) (fun _ => rfl) (by first | assumption | exact vp_in_nI (by omega) (by decide)) dX7_leave_17 ?_
        refine n_iload_n hC dX7_leave_18 rfl rfl ?_
        refine n_icmp_eq (tgt := 37) hC dX7_leave_19 (by decide) (fun h => ?_) (fun h => ?_)
        · refine n_iinc hC dX7_leave_37 rfl (show _ + Int32.ofInt 1 = _ + 1 from rfl) ?_
          refine n_goto (tgt := 4) hC dX7_leave_40 (by decide) ?_
          rw [e4, e6] at h
          rw [nI_1]
          exact ih (k + 1) t σ1 (by omega) hf (n_kp_no hk hkl (by simpa using h))
        · refine n_aload_n hC dX7_leave_22 rfl rfl ?_
          refine g31_members hC (by first | assumption | exact rfl) wfX7_9 dX7_leave_23 ?_
          refine n_iload_n hC dX7_leave_26 rfl rfl ?_
          refine n_aload_n hC dX7_leave_27 rfl rfl ?_
          refine g31_members hC (by first | assumption | exact rfl) wfX7_9 dX7_leave_28 ?_
          refine n_iload_n hC dX7_leave_31 rfl rfl ?_
          refine c_iald hC (by first | assumption | exact rfl) (fun _ => rfl) (by first | assumption | exact vp_in_nI (by omega) (by decide)) dX7_leave_32 ?_
          refine c_iast hC (by first | assumption | exact rfl) (fun _ => rfl) (by first | assumption | exact vp_in_nI (by omega) (by decide)) dX7_leave_33 ?_
          refine n_iinc hC dX7_leave_34 rfl (show _ + Int32.ofInt 1 = _ + 1 from rfl) ?_
          refine n_iinc hC dX7_leave_37 rfl (show _ + Int32.ofInt 1 = _ + 1 from rfl) ?_
          refine n_goto (tgt := 4) hC dX7_leave_40 (by decide) ?_
          rw [e4, e6] at h
          rw [nI_1, nI_1, e4, e5, e6]
          refine ih (k + 1) (t + 1) _ (by omega) (fun κ i j a => ?_) ?_
          · rw [n_up_k, if_neg (by omega)]
            exact hf κ i j a
          · rw [n_up_at]
            exact n_kp_yes hk hkl (by simpa using h)
  refine n_iconst (v := 0) hC dX7_leave_0 (by decide) ?_
  refine n_istore_n hC dX7_leave_1 rfl (Nat.le_of_ble_eq_true rfl) ?_
  refine n_iconst (v := 0) hC dX7_leave_2 (by decide) ?_
  refine n_istore_n hC dX7_leave_3 rfl (Nat.le_of_ble_eq_true rfl) ?_
  exact loop (M.2 5 r).length 0 0 σ (by omega) (fun _ _ _ _ => rfl) (n_kp_0 h3)
theorem c_first (d r : Nat) (M : n_M) (σ : n_S) (hM : RepC M σ) (hr : r < 11) : n_Ct l (cw D ca ad ae Ex) d yX7_first cX7_first 1 (some .int) [.ref (ad 31 r)] σ (fun rv σ' => rv = some (.int ((M.2 5 r).headD (-1))) ∧ σ' = σ) := by
  obtain ⟨h1, h2, h3⟩ := hM.2 5 r hr
  have h1 : (M.2 5 r).length ≤ 12 := h1
  have e1 : σ 31 r 1 = nI (M.2 5 r).length := h2
  refine n_ofW (by decide) (Nat.le_of_ble_eq_true rfl) ?_
  intro p e s m below meth c hC
  have hd : cw_dom 31 r := hr
  have hd2 : cw_dom 32 r := hr
  cases hL : M.2 5 r with
  | nil =>
    rw [hL] at e1
    refine n_aload_n hC dX7_first_0 rfl rfl ?_
    refine g31_size hC (by first | assumption | exact rfl) wfX7_15 dX7_first_1 ?_
    refine n_if_le (tgt := 16) hC dX7_first_4 (by decide) (fun h => ?_) (fun h => ?_)
    · refine n_iconst (v := -1) hC dX7_first_16 (by decide) ?_
      refine n_iret hC dX7_first_17 ?_
      exact ⟨rfl, rfl⟩
    · rw [e1] at h
      exact absurd (Int32.le_refl _) h
  | cons a as =>
    rw [hL] at e1 h1 h3
    have e0 : σ 32 r 0 = a := h3 0 (by simp)
    refine n_aload_n hC dX7_first_0 rfl rfl ?_
    refine g31_size hC (by first | assumption | exact rfl) wfX7_15 dX7_first_1 ?_
    refine n_if_le (tgt := 16) hC dX7_first_4 (by decide) (fun h => ?_) (fun h => ?_)
    · rw [e1] at h
      exact absurd h (nI_nle (by simp) (by omega))
    · refine n_aload_n hC dX7_first_7 rfl rfl ?_
      refine g31_members hC (by first | assumption | exact rfl) wfX7_9 dX7_first_8 ?_
      refine n_iconst (v := 0) hC dX7_first_11 (by decide) ?_
      refine c_iald hC hd2 (fun _ => rfl) (vp_in_nI (n := 0) (by decide) (by decide)) dX7_first_12 ?_
      refine n_goto (tgt := 17) hC dX7_first_13 (by decide) ?_
      refine n_iret hC dX7_first_17 ?_
      exact ⟨congrArg (fun z => some (Value.int z)) e0, rfl⟩
end RW1
