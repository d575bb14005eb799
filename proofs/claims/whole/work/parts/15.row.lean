theorem n_up_k (σ : n_S) (κ i k κ' i' k' : Nat) (v : Int32) : n_up σ κ i k v κ' i' k' = if κ' = κ ∧ i' = i ∧ k' = k then v else σ κ' i' k' := by
  unfold n_up
  by_cases h : κ' = κ ∧ i' = i
  · obtain ⟨rfl, rfl⟩ := h
    simp [upd]
  · rw [if_neg h, if_neg (fun q => h ⟨q.1, q.2.1⟩)]
section RW1
variable {l : Launch} {D : va_G} {ca : Nat → ClassId} {ad : Nat → Nat → Nat} {ae : Nat → Nat} {Ex : State → Heap → Prop}
theorem c_join (d r : Nat) (x : Int32) (M : n_M) (σ : n_S) (hM : RepC M σ) (hr : r < 11) (hl : (M.2 5 r).length < 12) : n_Ct l (cw D ca ad ae Ex) d yX7_join cX7_join 2 none [.ref (ad 31 r), .int x] σ (fun rv σ' => rv = none ∧ RepC (m_l M 5 r (M.2 5 r ++ [x])) σ') := by
  obtain ⟨h1, h2, h3⟩ := hM.2 5 r hr
  have e1 : σ 31 r 1 = nI (M.2 5 r).length := h2
  refine n_ofW (by decide) (Nat.le_of_ble_eq_true rfl) ?_
  intro p e s m below meth c hC
  have hd : cw_dom 31 r := hr
  have hd2 : cw_dom 32 r := hr
  refine n_aload_n hC dX7_join_0 rfl rfl ?_
  refine g31_size hC (by first | assumption | exact rfl) wfX7_15 dX7_join_1 ?_
  refine n_bipush (v := 12) hC dX7_join_4 (by decide) ?_
  refine n_icmp_ge (tgt := 29) hC dX7_join_6 (by decide) (fun h => ?_) (fun h => ?_)
  · rw [e1] at h
    exact absurd h (nI_ge hl (by decide))
  · refine n_aload_n hC dX7_join_9 rfl rfl ?_
    refine g31_members hC (by first | assumption | exact rfl) wfX7_9 dX7_join_10 ?_
    refine n_aload_n hC dX7_join_13 rfl rfl ?_
    refine g31_size hC (by first | assumption | exact rfl) wfX7_15 dX7_join_14 ?_
    refine n_iload_n hC dX7_join_17 rfl rfl ?_
    rw [e1]
    refine c_iast hC (by first | assumption | exact rfl) (fun _ => rfl) (by first | assumption | exact vp_in_nI (by omega) (by decide)) dX7_join_18 ?_
    refine n_aload_n hC dX7_join_19 rfl rfl ?_
    refine n_dup hC dX7_join_20 rfl ?_
    refine g31_size hC (by first | assumption | exact rfl) wfX7_15 dX7_join_21 ?_
    refine n_iconst (v := 1) hC dX7_join_24 (by decide) ?_
    refine n_iadd hC dX7_join_25 ?_
    refine p31_size hC (by first | assumption | exact rfl) wfX7_15 dX7_join_26 ?_
    refine n_vret hC dX7_join_29 ?_
    refine ⟨rfl, ?_⟩
    have e2 : (nI (M.2 5 r).length).toNatClampNeg = (M.2 5 r).length := nI_clamp (by omega)
    rw [e2]
    refine cl_5 hM hr (fun κ i k a b => ?_) ?_ ?_ ?_
    · simp only [n_up_k]
      repeat (first | rfl | rw [if_neg (by omega)])
    · simp [n_up, upd, e1, nI_succ]
    · simp; omega
    · simp only [n_up, upd]
      simp
      exact n_h_push h3
end RW1
