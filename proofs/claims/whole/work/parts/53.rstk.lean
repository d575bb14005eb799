def m_dn (M : n_M) (q : Nat) : n_M := m_s M 6 q (M.1 6 q + 1)
theorem nI_m1 {n : Nat} (h : 1 ≤ n) : nI n - 1 = nI (n - 1) := nI_subL (b := 1) h
section RST
variable {l : Launch} {D : va_G} {ca : Nat → ClassId} {ad : Nat → Nat → Nat} {Ex : State → Heap → Prop}
theorem x_top (d q k : Nat) (τ0 : n_S) (M : n_M) (τ : n_S) (hM : RQ τ0 M τ) (hq : n_V q) (hk : k < (M.2 0 q).length) : n_Ct l (rw D ca ad Ex) d yX12_top cX12_top 3 (some .int) [.ref (ad 0 0), .int (nI q), .int (nI k)] τ (fun rv τ' => rv = some (.int ((M.2 0 q).getD ((M.2 0 q).length - 1 - k) 0)) ∧ τ' = τ) := by
  obtain ⟨hq1, hq2⟩ := id hq
  obtain ⟨e1, h1, h3⟩ := hM.stk hq
  refine n_ofW (by decide) (Nat.le_of_ble_eq_true rfl) ?_
  intro p e s m below meth c hC
  refine n_aload_n hC dX12_top_0 rfl rfl ?_
  refine gm_stack hC wfX12_158 dX12_top_1 ?_
  refine n_bipush (v := 40) hC dX12_top_4 (by decide) ?_
  refine n_iload_n hC dX12_top_6 rfl rfl ?_
  refine n_imul hC dX12_top_7 ?_
  refine n_aload_n hC dX12_top_8 rfl rfl ?_
  refine gm_deep hC wfX12_155 dX12_top_9 ?_
  refine n_iload_n hC dX12_top_12 rfl rfl ?_
  first | refine r_ld hC rfl (fun _ => rfl) (by decide) (by first | omega | with_reducible assumption) dX12_top_13 ?_ | refine r_needs hC (by first | exact vp_in_nI (by omega) (by decide) | with_reducible assumption) dX12_top_13 ?_
  rw [e1]
  refine n_iadd hC dX12_top_14 ?_
  refine n_iconst (v := 1) hC dX12_top_15 (by decide) ?_
  refine n_isub hC dX12_top_16 ?_
  refine n_iload_n hC dX12_top_17 rfl rfl ?_
  refine n_isub hC dX12_top_18 ?_
  rw [show (40 : Int32) * nI q + nI (M.2 0 q).length - 1 - nI k = nI (40 * q + ((M.2 0 q).length - 1 - k)) from by
    rw [show (40 : Int32) * nI q = nI (40 * q) from nI_mulL 40 q, nI_add, nI_m1 (by omega), nI_subL (by omega)]
    congr 1
    omega]
  first | refine r_ld hC rfl (fun _ => rfl) (by decide) (by first | omega | with_reducible assumption) dX12_top_19 ?_ | refine r_needs hC (by first | exact vp_in_nI (by omega) (by decide) | with_reducible assumption) dX12_top_19 ?_
  rw [h3 _ (by omega)]
  refine n_iret hC dX12_top_20 ?_
  exact ⟨rfl, rfl⟩
theorem x_push (d q : Nat) (v : Int32) (τ0 : n_S) (M : n_M) (τ : n_S) (hM : RQ τ0 M τ) (hq : n_V q) (hl : (M.2 0 q).length < 40) : n_Ct l (rw D ca ad Ex) d yX12_push cX12_push 3 none [.ref (ad 0 0), .int (nI q), .int v] τ (fun rv τ' => rv = none ∧ RQ τ0 (m_l M 0 q (M.2 0 q ++ [v])) τ') := by
  obtain ⟨hq1, hq2⟩ := id hq
  obtain ⟨e1, h1, h3⟩ := hM.stk hq
  refine n_ofW (by decide) (Nat.le_of_ble_eq_true rfl) ?_
  intro p e s m below meth c hC
  refine n_aload_n hC dX12_push_0 rfl rfl ?_
  refine gm_stack hC wfX12_158 dX12_push_1 ?_
  refine n_bipush (v := 40) hC dX12_push_4 (by decide) ?_
  refine n_iload_n hC dX12_push_6 rfl rfl ?_
  refine n_imul hC dX12_push_7 ?_
  refine n_aload_n hC dX12_push_8 rfl rfl ?_
  refine gm_deep hC wfX12_155 dX12_push_9 ?_
  refine n_iload_n hC dX12_push_12 rfl rfl ?_
  first | refine r_ld hC rfl (fun _ => rfl) (by decide) (by first | omega | with_reducible assumption) dX12_push_13 ?_ | refine r_needs hC (by first | exact vp_in_nI (by omega) (by decide) | with_reducible assumption) dX12_push_13 ?_
  rw [e1]
  refine n_iadd hC dX12_push_14 ?_
  rw [show (40 : Int32) * nI q + nI (M.2 0 q).length = nI (40 * q + (M.2 0 q).length) from by rw [← nI_add, ← nI_mulL]; rfl]
  refine n_iload_n hC dX12_push_15 rfl rfl ?_
  refine r_st hC rfl (fun _ h => h) (fun _ => rfl) (by decide) (by first | omega | with_reducible assumption) dX12_push_16 ?_
  refine n_aload_n hC dX12_push_17 rfl rfl ?_
  refine gm_deep hC wfX12_155 dX12_push_18 ?_
  refine n_iload_n hC dX12_push_21 rfl rfl ?_
  refine n_dup2_11 hC dX12_push_22 rfl rfl ?_
  first | refine r_ld hC rfl (fun _ => rfl) (by decide) (by first | omega | with_reducible assumption) dX12_push_23 ?_ | refine r_needs hC (by first | exact vp_in_nI (by omega) (by decide) | with_reducible assumption) dX12_push_23 ?_
  rw [n_up_o (by omega), e1]
  refine n_iconst (v := 1) hC dX12_push_24 (by decide) ?_
  refine n_iadd hC dX12_push_25 ?_
  rw [nI_1]
  refine r_st hC rfl (fun _ h => h) (fun _ => rfl) (by decide) (by first | omega | with_reducible assumption) dX12_push_26 ?_
  refine n_vret hC dX12_push_27 ?_
  refine ⟨rfl, rql_0 hM hq (fun κ x a b => ?_) ?_ ?_ (fun j hj => ?_)⟩
  · rw [n_up_o (by omega), n_up_o (by omega)]
  · rw [n_up_e, List.length_append]; rfl
  · rw [List.length_append]; exact hl
  · rw [n_up_o (by omega)]
    rw [List.length_append] at hj
    have hj : j < (M.2 0 q).length + 1 := hj
    by_cases e : j = (M.2 0 q).length
    · rw [e, n_up_e, getD_snoc_e]
    · rw [n_up_o (by omega), h3 j (by omega), getD_snoc_l _ _ _ (by omega)]
theorem x_setTop (d q k : Nat) (v : Int32) (τ0 : n_S) (M : n_M) (τ : n_S) (hM : RQ τ0 M τ) (hq : n_V q) (hk : k < (M.2 0 q).length) : n_Ct l (rw D ca ad Ex) d yX12_setTop cX12_setTop 4 none [.ref (ad 0 0), .int (nI q), .int (nI k), .int v] τ (fun rv τ' => rv = none ∧ RQ τ0 (m_l M 0 q ((M.2 0 q).set ((M.2 0 q).length - 1 - k) v)) τ') := by
  obtain ⟨hq1, hq2⟩ := id hq
  obtain ⟨e1, h1, h3⟩ := hM.stk hq
  refine n_ofW (by decide) (Nat.le_of_ble_eq_true rfl) ?_
  intro p e s m below meth c hC
  refine n_aload_n hC dX12_setTop_0 rfl rfl ?_
  refine gm_stack hC wfX12_158 dX12_setTop_1 ?_
  refine n_bipush (v := 40) hC dX12_setTop_4 (by decide) ?_
  refine n_iload_n hC dX12_setTop_6 rfl rfl ?_
  refine n_imul hC dX12_setTop_7 ?_
  refine n_aload_n hC dX12_setTop_8 rfl rfl ?_
  refine gm_deep hC wfX12_155 dX12_setTop_9 ?_
  refine n_iload_n hC dX12_setTop_12 rfl rfl ?_
  first | refine r_ld hC rfl (fun _ => rfl) (by decide) (by first | omega | with_reducible assumption) dX12_setTop_13 ?_ | refine r_needs hC (by first | exact vp_in_nI (by omega) (by decide) | with_reducible assumption) dX12_setTop_13 ?_
  rw [e1]
  refine n_iadd hC dX12_setTop_14 ?_
  refine n_iconst (v := 1) hC dX12_setTop_15 (by decide) ?_
  refine n_isub hC dX12_setTop_16 ?_
  refine n_iload_n hC dX12_setTop_17 rfl rfl ?_
  refine n_isub hC dX12_setTop_18 ?_
  rw [show (40 : Int32) * nI q + nI (M.2 0 q).length - 1 - nI k = nI (40 * q + ((M.2 0 q).length - 1 - k)) from by
    rw [show (40 : Int32) * nI q = nI (40 * q) from nI_mulL 40 q, nI_add, nI_m1 (by omega), nI_subL (by omega)]
    congr 1
    omega]
  refine n_iload_n hC dX12_setTop_19 rfl rfl ?_
  refine r_st hC rfl (fun _ h => h) (fun _ => rfl) (by decide) (by first | omega | with_reducible assumption) dX12_setTop_20 ?_
  refine n_vret hC dX12_setTop_21 ?_
  refine ⟨rfl, rql_0 hM hq (fun κ x a b => ?_) ?_ ?_ (fun j hj => ?_)⟩
  · rw [n_up_o (by omega)]
  · rw [n_up_o (by omega), e1, List.length_set]
  · rw [List.length_set]; exact h1
  · rw [List.length_set] at hj
    rw [List.getD_eq_getElem?_getD, List.getElem?_set]
    by_cases e : (M.2 0 q).length - 1 - k = j
    · rw [if_pos e, if_pos (by omega), ← e, n_up_e]; rfl
    · rw [if_neg e, n_up_o (by omega), h3 j hj, List.getD_eq_getElem?_getD]
theorem x_done (d q n0 : Nat) (τ0 : n_S) (M : n_M) (τ : n_S) (hM : RQ τ0 M τ) (hq : n_V q) (hn : M.1 5 q = nI n0) : n_Ct l (rw D ca ad Ex) d yX12_done cX12_done 2 none [.ref (ad 0 0), .int (nI q)] τ (fun rv τ' => rv = none ∧ RQ τ0 (m_dn (m_s M 5 q (nI (n0 + 1))) q) τ') := by
  obtain ⟨hq1, hq2⟩ := id hq
  refine n_ofW (by decide) (Nat.le_of_ble_eq_true rfl) ?_
  intro p e s m below meth c hC
  refine n_aload_n hC dX12_done_0 rfl rfl ?_
  refine gm_next hC wfX12_152 dX12_done_1 ?_
  refine n_iload_n hC dX12_done_4 rfl rfl ?_
  refine n_dup2_11 hC dX12_done_5 rfl rfl ?_
  first | refine r_ld hC rfl (fun _ => rfl) (by decide) (by first | omega | with_reducible assumption) dX12_done_6 ?_ | refine r_needs hC (by first | exact vp_in_nI (by omega) (by decide) | with_reducible assumption) dX12_done_6 ?_
  rw [hM.next hq, hn]
  refine n_iconst (v := 1) hC dX12_done_7 (by decide) ?_
  refine n_iadd hC dX12_done_8 ?_
  rw [nI_1]
  refine r_st hC rfl (fun _ h => h) (fun _ => rfl) (by decide) (by first | omega | with_reducible assumption) dX12_done_9 ?_
  have h1 := rq_5 (v := nI (n0 + 1)) hM hq
  refine n_aload_n hC dX12_done_10 rfl rfl ?_
  refine gm_did hC wfX12_182 dX12_done_11 ?_
  refine n_iload_n hC dX12_done_14 rfl rfl ?_
  refine n_dup2_11 hC dX12_done_15 rfl rfl ?_
  first | refine r_ld hC rfl (fun _ => rfl) (by decide) (by first | omega | with_reducible assumption) dX12_done_16 ?_ | refine r_needs hC (by first | exact vp_in_nI (by omega) (by decide) | with_reducible assumption) dX12_done_16 ?_
  rw [h1.did hq]
  refine n_iconst (v := 1) hC dX12_done_17 (by decide) ?_
  refine n_iadd hC dX12_done_18 ?_
  refine r_st hC rfl (fun _ h => h) (fun _ => rfl) (by decide) (by first | omega | with_reducible assumption) dX12_done_19 ?_
  refine n_vret hC dX12_done_20 ?_
  exact ⟨rfl, rq_6 h1 hq⟩
theorem x_fits (d q k : Nat) (τ0 : n_S) (M : n_M) (τ : n_S) (hS : RS τ0 M τ) (hI : II M) (hq : n_V q) (ha : m_al M q) (hk : k ≤ 2) : n_Ct l (rw D ca ad Ex) (d + 3) yX12_fits cX12_fits 3 (some .boolean) [.ref (ad 0 0), .int (nI q), .int (nI k)] τ (fun rv τ' => ((M.2 0 q).length + k ≤ 40 ∧ rv = some (.int 1) ∧ τ' = τ) ∨ (40 < (M.2 0 q).length + k ∧ rv = some (.int 0) ∧ RS τ0 (m_fin M q (-3)) τ')) := by
  obtain ⟨hq1, hq2⟩ := id hq
  obtain ⟨e1, h1, h3⟩ := hS.q.stk hq
  refine n_ofW (by decide) (Nat.le_of_ble_eq_true rfl) ?_
  intro p e s m below meth c hC
  refine n_aload_n hC dX12_fits_0 rfl rfl ?_
  refine gm_deep hC wfX12_155 dX12_fits_1 ?_
  refine n_iload_n hC dX12_fits_4 rfl rfl ?_
  first | refine r_ld hC rfl (fun _ => rfl) (by decide) (by first | omega | with_reducible assumption) dX12_fits_5 ?_ | refine r_needs hC (by first | exact vp_in_nI (by omega) (by decide) | with_reducible assumption) dX12_fits_5 ?_
  rw [e1]
  refine n_iload_n hC dX12_fits_6 rfl rfl ?_
  refine n_iadd hC dX12_fits_7 ?_
  rw [nI_add]
  refine n_bipush (v := 40) hC dX12_fits_8 (by decide) ?_
  refine n_icmp_gt (tgt := 15) hC dX12_fits_10 (by decide) (fun h => ?_) (fun h => ?_)
  · have hgt := (nI_ltI (a := 40) (b := (M.2 0 q).length + k) (by omega) (by omega)).mp h
    refine n_aload_n hC dX12_fits_15 rfl rfl ?_
    refine n_iload_n hC dX12_fits_16 rfl rfl ?_
    refine n_bipush (v := -3) hC dX12_fits_17 (by decide) ?_
    refine n_callV hC (x_finish d q (-3) τ0 M τ hS hI hq ha) (Nat.le_refl _) (by decide) (by first | exact rfl | with_reducible assumption) rfl rfl rfl ⟨wmX12_330, wi_yX12_finish, wv_yX12_finish, wzX12, wc_yX12_finish⟩ hy_yX12_finish rfl (Nat.le_of_ble_eq_true rfl) dX12_fits_19 (fun rv σ' hpo => ?_)
    obtain ⟨rfl, h2⟩ := hpo
    refine n_iconst (v := 0) hC dX12_fits_22 (by decide) ?_
    refine n_zret hC dX12_fits_23 rfl ?_
    exact Or.inr ⟨hgt, rfl, h2⟩
  · have hle : ¬ 40 < (M.2 0 q).length + k := fun z => h ((nI_ltI (a := 40) (b := (M.2 0 q).length + k) (by omega) (by omega)).mpr z)
    refine n_iconst (v := 1) hC dX12_fits_13 (by decide) ?_
    refine n_zret hC dX12_fits_14 rfl ?_
    exact Or.inl ⟨by omega, rfl, rfl⟩
theorem x_result (d q k n0 : Nat) (v : Int32) (τ0 : n_S) (M : n_M) (τ : n_S) (t u : List Int32) (hM : RQ τ0 M τ) (hq : n_V q) (hn : M.1 5 q = nI n0) (hst : M.2 0 q = t ++ u) (hu : u.length = k) (hl : t.length < 40) : n_Ct l (rw D ca ad Ex) (d + 1) yX12_result cX12_result 4 none [.ref (ad 0 0), .int (nI q), .int (nI k), .int v] τ (fun rv τ' => rv = none ∧ RQ τ0 (m_dn (m_l (m_s M 5 q (nI (n0 + 1))) 0 q (t ++ [v])) q) τ') := by
  obtain ⟨hq1, hq2⟩ := id hq
  obtain ⟨e1, h1, h3⟩ := hM.stk hq
  rw [hst, List.length_append, hu] at e1
  refine n_ofW (by decide) (Nat.le_of_ble_eq_true rfl) ?_
  intro p e s m below meth c hC
  refine n_aload_n hC dX12_result_0 rfl rfl ?_
  refine gm_deep hC wfX12_155 dX12_result_1 ?_
  refine n_iload_n hC dX12_result_4 rfl rfl ?_
  refine n_dup2_11 hC dX12_result_5 rfl rfl ?_
  first | refine r_ld hC rfl (fun _ => rfl) (by decide) (by first | omega | with_reducible assumption) dX12_result_6 ?_ | refine r_needs hC (by first | exact vp_in_nI (by omega) (by decide) | with_reducible assumption) dX12_result_6 ?_
  rw [e1]
  refine n_iload_n hC dX12_result_7 rfl rfl ?_
  refine n_isub hC dX12_result_8 ?_
  rw [nI_subL (by omega), show t.length + k - k = t.length by omega]
  refine r_st hC rfl (fun _ h => h) (fun _ => rfl) (by decide) (by first | omega | with_reducible assumption) dX12_result_9 ?_
  have g1 : RQ τ0 (m_l M 0 q t) (n_up τ 26 0 q (nI t.length)) := by
    refine rql_0 hM hq (fun κ x a b => n_up_o (by omega)) (n_up_e _ _ _ _) (by omega) (fun j hj => ?_)
    rw [n_up_o (by omega), h3 j (by rw [hst, List.length_append]; omega), hst, List.getD_eq_getElem?_getD, List.getD_eq_getElem?_getD, List.getElem?_append_left hj]
  refine n_aload_n hC dX12_result_10 rfl rfl ?_
  refine n_iload_n hC dX12_result_11 rfl rfl ?_
  refine n_iload_n hC dX12_result_12 rfl rfl ?_
  refine n_callV hC (x_push d q v τ0 (m_l M 0 q t) _ g1 hq (by rw [ml_e]; exact hl)) (Nat.le_refl _) (by decide) (by first | exact rfl | with_reducible assumption) rfl rfl rfl ⟨wmX12_333, wi_yX12_push, wv_yX12_push, wzX12, wc_yX12_push⟩ hy_yX12_push rfl (Nat.le_of_ble_eq_true rfl) dX12_result_13 (fun rv σ' hpo => ?_)
  obtain ⟨rfl, g2⟩ := hpo
  rw [ml_e, ml_ml] at g2
  refine n_aload_n hC dX12_result_16 rfl rfl ?_
  refine n_iload_n hC dX12_result_17 rfl rfl ?_
  refine n_callV hC (x_done d q n0 τ0 (m_l M 0 q (t ++ [v])) _ g2 hq hn) (Nat.le_refl _) (by decide) (by first | exact rfl | with_reducible assumption) rfl rfl rfl ⟨wmX12_336, wi_yX12_done, wv_yX12_done, wzX12, wc_yX12_done⟩ hy_yX12_done rfl (Nat.le_of_ble_eq_true rfl) dX12_result_18 (fun rv σ' hpo => ?_)
  obtain ⟨rfl, g3⟩ := hpo
  refine n_vret hC dX12_result_21 ?_
  exact ⟨rfl, g3⟩
theorem x_toEnd (d q : Nat) (τ0 : n_S) (M : n_M) (τ : n_S) (hM : RQ τ0 M τ) (hq : n_V q) (hR : IR M) (h1 : M.1 0 q = 1) (h7 : M.1 7 q = 0) : n_Ct l (rw D ca ad Ex) (d + 1) yX12_toEnd cX12_toEnd 2 none [.ref (ad 0 0), .int (nI q)] τ (fun rv τ' => rv = none ∧ RQ τ0 (m_plast M q (M.1 2 q)) τ') := by
  obtain ⟨hl1, hl2⟩ := hR.lv hq
  have e : m_plast M q (M.1 2 q) = m_s (m_l (m_out M (m_lv M q) q) 5 (m_lv M q) ((m_out M (m_lv M q) q).2 5 (m_lv M q) ++ [nI q])) 8 q 0 := by
    unfold m_plast
    rw [ms_id (show (m_out M (m_lv M q) q).1 2 q = M.1 2 q from rfl), m_rdy_eq, ms_id (show (m_out M (m_lv M q) q).1 0 q = 1 from h1), ms_id (show (m_out M (m_lv M q) q).1 7 q = 0 from h7)]
    rfl
  rw [e]
  refine n_ofW (by decide) (Nat.le_of_ble_eq_true rfl) ?_
  intro p e s m below meth c hC
  refine n_aload_n hC dX12_toEnd_0 rfl rfl ?_
  refine n_iload_n hC dX12_toEnd_1 rfl rfl ?_
  refine n_callV hC (x_leaveRow d q (m_lv M q) τ0 M τ hM hq hl1 hl2) (Nat.le_refl _) (by decide) (by first | exact rfl | with_reducible assumption) rfl rfl rfl ⟨wmX12_306, wi_yX12_leaveRow, wv_yX12_leaveRow, wzX12, wc_yX12_leaveRow⟩ hy_yX12_leaveRow rfl (Nat.le_of_ble_eq_true rfl) dX12_toEnd_2 (fun rv σ' hpo => ?_)
  obtain ⟨rfl, g1⟩ := hpo
  refine n_aload_n hC dX12_toEnd_5 rfl rfl ?_
  refine n_iload_n hC dX12_toEnd_6 rfl rfl ?_
  refine n_callV hC (x_joinRow d q τ0 (m_out M (m_lv M q) q) _ g1 hq (hR.1 q hq) (IR_out_len hR hq hl1)) (Nat.le_refl _) (by decide) (by first | exact rfl | with_reducible assumption) rfl rfl rfl ⟨wmX12_309, wi_yX12_joinRow, wv_yX12_joinRow, wzX12, wc_yX12_joinRow⟩ hy_yX12_joinRow rfl (Nat.le_of_ble_eq_true rfl) dX12_toEnd_7 (fun rv σ' hpo => ?_)
  obtain ⟨rfl, g2⟩ := hpo
  refine n_vret hC dX12_toEnd_10 ?_
  exact ⟨rfl, g2⟩
theorem x_isChild (d q : Nat) (x : Int32) (τ0 : n_S) (M : n_M) (τ : n_S) (hM : RQ τ0 M τ) (hI : II M) (hq : n_V q) : n_Ct l (rw D ca ad Ex) (d + 1) yX12_isChild cX12_isChild 3 (some .boolean) [.ref (ad 0 0), .int (nI q), .int x] τ (fun rv τ' => ((∃ r, m_kid M q x r ∧ rv = some (.int 1)) ∨ ((¬ ∃ r, m_kid M q x r) ∧ rv = some (.int 0))) ∧ τ' = τ) := by
  obtain ⟨hq1, hq2⟩ := id hq
  refine n_ofW (by decide) (Nat.le_of_ble_eq_true rfl) ?_
  intro p e s m below meth c hC
  refine n_aload_n hC dX12_isChild_0 rfl rfl ?_
  refine n_iload_n hC dX12_isChild_1 rfl rfl ?_
  refine n_callV hC (x_isProcess d x τ) (Nat.le_refl _) (by decide) (by first | exact rfl | with_reducible assumption) rfl rfl rfl ⟨wmX12_312, wi_yX12_isProcess, wv_yX12_isProcess, wzX12, wc_yX12_isProcess⟩ hy_yX12_isProcess rfl (Nat.le_of_ble_eq_true rfl) dX12_isChild_2 (fun rv σ' hpo => ?_)
  obtain ⟨hpo, rfl⟩ := hpo
  rcases hpo with ⟨r, hr, rfl, rfl⟩ | ⟨hn, rfl⟩
  · obtain ⟨hr1, hr2⟩ := id hr
    refine n_if_eq (tgt := 31) hC dX12_isChild_5 (by decide) (fun h => ?_) (fun h => ?_)
    · exact absurd h (by decide)
    · clear h
      refine n_aload_n hC dX12_isChild_8 rfl rfl ?_
      refine gm_status hC wfX12_137 dX12_isChild_9 ?_
      refine n_iload_n hC dX12_isChild_12 rfl rfl ?_
      first | refine r_ld hC rfl (fun _ => rfl) (by decide) (by first | omega | with_reducible assumption) dX12_isChild_13 ?_ | refine r_needs hC (by first | exact vp_in_nI (by omega) (by decide) | with_reducible assumption) dX12_isChild_13 ?_
      rw [hM.status hr]
      refine n_if_eq (tgt := 31) hC dX12_isChild_14 (by decide) (fun h => ?_) (fun h => ?_)
      · refine n_iconst (v := 0) hC dX12_isChild_31 (by decide) ?_
        refine n_zret hC dX12_isChild_32 rfl ?_
        refine ⟨Or.inr ⟨fun ⟨r', k1, k2, k3⟩ => ?_, rfl⟩, rfl⟩
        rw [← nV_inj hr k1 k2, ((hI.2.2.1 r hr).2.1 h).2.2.2.1] at k3
        exact nI_ne0 (by omega) (by omega) k3.symm
      · refine n_aload_n hC dX12_isChild_17 rfl rfl ?_
        refine gm_parent hC wfX12_146 dX12_isChild_18 ?_
        refine n_iload_n hC dX12_isChild_21 rfl rfl ?_
        first | refine r_ld hC rfl (fun _ => rfl) (by decide) (by first | omega | with_reducible assumption) dX12_isChild_22 ?_ | refine r_needs hC (by first | exact vp_in_nI (by omega) (by decide) | with_reducible assumption) dX12_isChild_22 ?_
        rw [hM.parent hr]
        refine n_iload_n hC dX12_isChild_23 rfl rfl ?_
        refine n_icmp_ne (tgt := 31) hC dX12_isChild_24 (by decide) (fun h => ?_) (fun h => ?_)
        · refine n_iconst (v := 0) hC dX12_isChild_31 (by decide) ?_
          refine n_zret hC dX12_isChild_32 rfl ?_
          refine ⟨Or.inr ⟨fun ⟨r', k1, k2, k3⟩ => ?_, rfl⟩, rfl⟩
          rw [← nV_inj hr k1 k2] at k3
          exact absurd k3 (by assumption)
        · rename_i h5
          refine n_iconst (v := 1) hC dX12_isChild_27 (by decide) ?_
          refine n_goto (tgt := 32) hC dX12_isChild_28 (by decide) ?_
          refine n_zret hC dX12_isChild_32 rfl ?_
          exact ⟨Or.inl ⟨r, ⟨hr, rfl, by assumption⟩, rfl⟩, rfl⟩
  · refine n_if_eq (tgt := 31) hC dX12_isChild_5 (by decide) (fun h => ?_) (fun h => ?_)
    · refine n_iconst (v := 0) hC dX12_isChild_31 (by decide) ?_
      refine n_zret hC dX12_isChild_32 rfl ?_
      exact ⟨Or.inr ⟨fun ⟨r', k1, k2, _⟩ => hn ⟨r', k1, k2⟩, rfl⟩, rfl⟩
    · exact absurd rfl h
end RST
