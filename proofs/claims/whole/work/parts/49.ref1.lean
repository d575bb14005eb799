theorem n_up_off (τ : n_S) (κ o t : Nat) (v : Int32) : (fun j => n_up τ κ 0 (o + t) v κ 0 (o + j)) = upd (fun j => τ κ 0 (o + j)) t v := by
  funext j
  rw [n_up_k]
  by_cases h : j = t
  · rw [h, if_pos ⟨rfl, rfl, rfl⟩]
    simp [upd]
  · rw [if_neg (by omega)]
    simp [upd, h]
theorem m_out_lv (M : n_M) (r q p : Nat) : m_lv (m_out M r q) p = m_lv M p := rfl
section RF1
variable {l : Launch} {D : va_G} {ca : Nat → ClassId} {ad : Nat → Nat → Nat} {Ex : State → Heap → Prop}
theorem x_leaveRow (d q r : Nat) (τ0 : n_S) (M : n_M) (τ : n_S) (hM : RQ τ0 M τ) (hq : n_V q) (hr : r < 3) (hlv : M.1 2 q = nI r) : n_Ct l (rw D ca ad Ex) d yX12_leaveRow cX12_leaveRow 6 none [.ref (ad 0 0), .int (nI q)] τ (fun rv τ' => rv = none ∧ RQ τ0 (m_out M (r) q) τ') := by
  obtain ⟨hq1, hq2⟩ := id hq
  obtain ⟨e1, h1, h3⟩ := hM.row hr
  have el : τ 22 0 q = nI r := (hM.level hq).trans hlv
  refine n_ofW (by decide) (Nat.le_of_ble_eq_true rfl) ?_
  intro p e s m below meth c hC
  have loop : ∀ (n k t : Nat) (τ1 : n_S) (w : Option Value), n + k = (M.2 5 (r)).length → (∀ κ x, ¬ (κ = 38 ∧ 13 * r ≤ x ∧ x < 13 * r + 13) → τ1 κ 0 x = τ κ 0 x) → n_kp (fun y => decide (y ≠ nI q)) (M.2 5 (r)) k t (fun j => τ1 38 0 (13 * r + j)) →
      n_W p l e s m [Value.ref (ad 0 0), Value.int (nI q)].toArray below meth c (rw D ca ad Ex) d (fun rv τ' => rv = none ∧ RQ τ0 (m_out M (r) q) τ') 12 [some (.ref (ad 0 0)), some (.int (nI q)), some (.int (nI r)), some (.int (nI t)), some (.int (nI k)), w] [] τ1 := by
    intro n
    induction n with
    | zero =>
      intro k t τ1 w hn hf hk
      have e2 : τ1 39 0 r = nI (M.2 5 (r)).length := by rw [hf 39 r (by omega)]; exact e1
      have e3 : k = (M.2 5 (r)).length := by omega
      subst e3
      refine n_iload hC dX12_leaveRow_12 rfl ?_
      refine n_aload_n hC dX12_leaveRow_14 rfl rfl ?_
      refine gm_rowCount hC wfX12_194 dX12_leaveRow_15 ?_
      refine n_iload_n hC dX12_leaveRow_18 rfl rfl ?_
      first | refine r_ld hC rfl (fun _ => rfl) (by decide) (by first | omega | with_reducible assumption) dX12_leaveRow_19 ?_ | refine r_needs hC (by first | exact vp_in_nI (by omega) (by decide) | with_reducible assumption) dX12_leaveRow_19 ?_
      rw [e2]
      refine n_icmp_ge (tgt := 65) hC dX12_leaveRow_20 (by decide) (fun h => ?_) (fun h => ?_)
      · refine n_aload_n hC dX12_leaveRow_65 rfl rfl ?_
        refine gm_rowCount hC wfX12_194 dX12_leaveRow_66 ?_
        refine n_iload_n hC dX12_leaveRow_69 rfl rfl ?_
        refine n_iload_n hC dX12_leaveRow_70 rfl rfl ?_
        refine r_st hC rfl (fun _ h => h) (fun _ => rfl) (by decide) (by first | omega | with_reducible assumption) dX12_leaveRow_71 ?_
        refine n_vret hC dX12_leaveRow_72 ?_
        refine ⟨rfl, ?_⟩
        obtain ⟨k1, k2⟩ := n_kp_end hk
        refine rql_5 hM hr (fun κ x a b => ?_) ?_ ?_ (fun j hj => ?_)
        · rw [n_up_o (by omega)]
          exact hf κ x b
        · rw [n_up_e, k1]
        · exact Nat.le_trans (List.length_filter_le _ _) h1
        · rw [n_up_o (by omega)]
          exact k2 j hj
      · exact absurd (Int32.le_refl _) h
    | succ n ih =>
      intro k t τ1 w hn hf hk
      have e2 : τ1 39 0 r = nI (M.2 5 (r)).length := by rw [hf 39 r (by omega)]; exact e1
      have hkl : k < (M.2 5 (r)).length := by omega
      have ht : t ≤ k := hk.2.2.1
      have e6 : τ1 38 0 (13 * r + k) = (M.2 5 (r)).getD k 0 := hk.2.2.2.2 k (Nat.le_refl _) hkl
      refine n_iload hC dX12_leaveRow_12 rfl ?_
      refine n_aload_n hC dX12_leaveRow_14 rfl rfl ?_
      refine gm_rowCount hC wfX12_194 dX12_leaveRow_15 ?_
      refine n_iload_n hC dX12_leaveRow_18 rfl rfl ?_
      first | refine r_ld hC rfl (fun _ => rfl) (by decide) (by first | omega | with_reducible assumption) dX12_leaveRow_19 ?_ | refine r_needs hC (by first | exact vp_in_nI (by omega) (by decide) | with_reducible assumption) dX12_leaveRow_19 ?_
      rw [e2]
      refine n_icmp_ge (tgt := 65) hC dX12_leaveRow_20 (by decide) (fun h => ?_) (fun h => ?_)
      · exact absurd h (nI_ge hkl (by omega))
      · clear h
        refine n_aload_n hC dX12_leaveRow_23 rfl rfl ?_
        refine gm_rows hC wfX12_191 dX12_leaveRow_24 ?_
        refine n_bipush (v := 13) hC dX12_leaveRow_27 (by decide) ?_
        refine n_iload_n hC dX12_leaveRow_29 rfl rfl ?_
        refine n_imul hC dX12_leaveRow_30 ?_
        refine n_iload hC dX12_leaveRow_31 rfl ?_
        refine n_iadd hC dX12_leaveRow_33 ?_
        rw [show (13 : Int32) * nI r + nI k = nI (13 * r + k) from by rw [← nI_add, ← nI_mulL]; rfl]
        first | refine r_ld hC rfl (fun _ => rfl) (by decide) (by first | omega | with_reducible assumption) dX12_leaveRow_34 ?_ | refine r_needs hC (by first | exact vp_in_nI (by omega) (by decide) | with_reducible assumption) dX12_leaveRow_34 ?_
        rw [e6]
        refine n_istore hC dX12_leaveRow_35 (Nat.le_of_ble_eq_true rfl) ?_
        refine n_iload hC dX12_leaveRow_37 rfl ?_
        refine n_iload_n hC dX12_leaveRow_39 rfl rfl ?_
        refine n_icmp_eq (tgt := 59) hC dX12_leaveRow_40 (by decide) (fun h => ?_) (fun h => ?_)
        · refine n_iinc hC dX12_leaveRow_59 rfl (show _ + Int32.ofInt 1 = _ + 1 from rfl) ?_
          refine n_goto (tgt := 12) hC dX12_leaveRow_62 (by decide) ?_
          rw [nI_1]
          exact ih (k + 1) t τ1 _ (by omega) hf (n_kp_no hk hkl (by simpa using h))
        · refine n_aload_n hC dX12_leaveRow_43 rfl rfl ?_
          refine gm_rows hC wfX12_191 dX12_leaveRow_44 ?_
          refine n_bipush (v := 13) hC dX12_leaveRow_47 (by decide) ?_
          refine n_iload_n hC dX12_leaveRow_49 rfl rfl ?_
          refine n_imul hC dX12_leaveRow_50 ?_
          refine n_iload_n hC dX12_leaveRow_51 rfl rfl ?_
          refine n_iadd hC dX12_leaveRow_52 ?_
          rw [show (13 : Int32) * nI r + nI t = nI (13 * r + t) from by rw [← nI_add, ← nI_mulL]; rfl]
          refine n_iload hC dX12_leaveRow_53 rfl ?_
          refine r_st hC rfl (fun _ h => h) (fun _ => rfl) (by decide) (by first | omega | with_reducible assumption) dX12_leaveRow_55 ?_
          refine n_iinc hC dX12_leaveRow_56 rfl (show _ + Int32.ofInt 1 = _ + 1 from rfl) ?_
          refine n_iinc hC dX12_leaveRow_59 rfl (show _ + Int32.ofInt 1 = _ + 1 from rfl) ?_
          refine n_goto (tgt := 12) hC dX12_leaveRow_62 (by decide) ?_
          rw [nI_1, nI_1]
          refine ih (k + 1) (t + 1) _ _ (by omega) (fun κ x a => ?_) ?_
          · rw [n_up_o (by omega)]
            exact hf κ x a
          · rw [n_up_off]
            exact n_kp_yes hk hkl (by simpa using h)
  refine n_aload_n hC dX12_leaveRow_0 rfl rfl ?_
  refine gm_level hC wfX12_143 dX12_leaveRow_1 ?_
  refine n_iload_n hC dX12_leaveRow_4 rfl rfl ?_
  first | refine r_ld hC rfl (fun _ => rfl) (by decide) (by first | omega | with_reducible assumption) dX12_leaveRow_5 ?_ | refine r_needs hC (by first | exact vp_in_nI (by omega) (by decide) | with_reducible assumption) dX12_leaveRow_5 ?_
  rw [el]
  refine n_istore_n hC dX12_leaveRow_6 rfl (Nat.le_of_ble_eq_true rfl) ?_
  refine n_iconst (v := 0) hC dX12_leaveRow_7 (by decide) ?_
  refine n_istore_n hC dX12_leaveRow_8 rfl (Nat.le_of_ble_eq_true rfl) ?_
  refine n_iconst (v := 0) hC dX12_leaveRow_9 (by decide) ?_
  refine n_istore hC dX12_leaveRow_10 (Nat.le_of_ble_eq_true rfl) ?_
  exact loop (M.2 5 (r)).length 0 0 τ _ (by omega) (fun _ _ _ => rfl) (n_kp_0 (fun j hj => h3 j hj))
theorem x_leaveSemaphore (d q r : Nat) (τ0 : n_S) (M : n_M) (τ : n_S) (hM : RQ τ0 M τ) (hq : n_V q) (hr : r < 8) (hlv : M.1 7 q = nI r) : n_Ct l (rw D ca ad Ex) d yX12_leaveSemaphore cX12_leaveSemaphore 6 none [.ref (ad 0 0), .int (nI q)] τ (fun rv τ' => rv = none ∧ RQ τ0 (m_out M (r + 3) q) τ') := by
  obtain ⟨hq1, hq2⟩ := id hq
  obtain ⟨e1, h1, h3⟩ := hM.que hr
  have el : τ 36 0 q = nI r := (hM.waits hq).trans hlv
  refine n_ofW (by decide) (Nat.le_of_ble_eq_true rfl) ?_
  intro p e s m below meth c hC
  have loop : ∀ (n k t : Nat) (τ1 : n_S) (w : Option Value), n + k = (M.2 5 (r + 3)).length → (∀ κ x, ¬ (κ = 43 ∧ 13 * r ≤ x ∧ x < 13 * r + 13) → τ1 κ 0 x = τ κ 0 x) → n_kp (fun y => decide (y ≠ nI q)) (M.2 5 (r + 3)) k t (fun j => τ1 43 0 (13 * r + j)) →
      n_W p l e s m [Value.ref (ad 0 0), Value.int (nI q)].toArray below meth c (rw D ca ad Ex) d (fun rv τ' => rv = none ∧ RQ τ0 (m_out M (r + 3) q) τ') 12 [some (.ref (ad 0 0)), some (.int (nI q)), some (.int (nI r)), some (.int (nI t)), some (.int (nI k)), w] [] τ1 := by
    intro n
    induction n with
    | zero =>
      intro k t τ1 w hn hf hk
      have e2 : τ1 44 0 r = nI (M.2 5 (r + 3)).length := by rw [hf 44 r (by omega)]; exact e1
      have e3 : k = (M.2 5 (r + 3)).length := by omega
      subst e3
      refine n_iload hC dX12_leaveSemaphore_12 rfl ?_
      refine n_aload_n hC dX12_leaveSemaphore_14 rfl rfl ?_
      refine gm_waitCount hC wfX12_206 dX12_leaveSemaphore_15 ?_
      refine n_iload_n hC dX12_leaveSemaphore_18 rfl rfl ?_
      first | refine r_ld hC rfl (fun _ => rfl) (by decide) (by first | omega | with_reducible assumption) dX12_leaveSemaphore_19 ?_ | refine r_needs hC (by first | exact vp_in_nI (by omega) (by decide) | with_reducible assumption) dX12_leaveSemaphore_19 ?_
      rw [e2]
      refine n_icmp_ge (tgt := 65) hC dX12_leaveSemaphore_20 (by decide) (fun h => ?_) (fun h => ?_)
      · refine n_aload_n hC dX12_leaveSemaphore_65 rfl rfl ?_
        refine gm_waitCount hC wfX12_206 dX12_leaveSemaphore_66 ?_
        refine n_iload_n hC dX12_leaveSemaphore_69 rfl rfl ?_
        refine n_iload_n hC dX12_leaveSemaphore_70 rfl rfl ?_
        refine r_st hC rfl (fun _ h => h) (fun _ => rfl) (by decide) (by first | omega | with_reducible assumption) dX12_leaveSemaphore_71 ?_
        refine n_vret hC dX12_leaveSemaphore_72 ?_
        refine ⟨rfl, ?_⟩
        obtain ⟨k1, k2⟩ := n_kp_end hk
        refine rql_q hM hr (fun κ x a b => ?_) ?_ ?_ (fun j hj => ?_)
        · rw [n_up_o (by omega)]
          exact hf κ x b
        · rw [n_up_e, k1]
        · exact Nat.le_trans (List.length_filter_le _ _) h1
        · rw [n_up_o (by omega)]
          exact k2 j hj
      · exact absurd (Int32.le_refl _) h
    | succ n ih =>
      intro k t τ1 w hn hf hk
      have e2 : τ1 44 0 r = nI (M.2 5 (r + 3)).length := by rw [hf 44 r (by omega)]; exact e1
      have hkl : k < (M.2 5 (r + 3)).length := by omega
      have ht : t ≤ k := hk.2.2.1
      have e6 : τ1 43 0 (13 * r + k) = (M.2 5 (r + 3)).getD k 0 := hk.2.2.2.2 k (Nat.le_refl _) hkl
      refine n_iload hC dX12_leaveSemaphore_12 rfl ?_
      refine n_aload_n hC dX12_leaveSemaphore_14 rfl rfl ?_
      refine gm_waitCount hC wfX12_206 dX12_leaveSemaphore_15 ?_
      refine n_iload_n hC dX12_leaveSemaphore_18 rfl rfl ?_
      first | refine r_ld hC rfl (fun _ => rfl) (by decide) (by first | omega | with_reducible assumption) dX12_leaveSemaphore_19 ?_ | refine r_needs hC (by first | exact vp_in_nI (by omega) (by decide) | with_reducible assumption) dX12_leaveSemaphore_19 ?_
      rw [e2]
      refine n_icmp_ge (tgt := 65) hC dX12_leaveSemaphore_20 (by decide) (fun h => ?_) (fun h => ?_)
      · exact absurd h (nI_ge hkl (by omega))
      · clear h
        refine n_aload_n hC dX12_leaveSemaphore_23 rfl rfl ?_
        refine gm_waiting hC wfX12_203 dX12_leaveSemaphore_24 ?_
        refine n_bipush (v := 13) hC dX12_leaveSemaphore_27 (by decide) ?_
        refine n_iload_n hC dX12_leaveSemaphore_29 rfl rfl ?_
        refine n_imul hC dX12_leaveSemaphore_30 ?_
        refine n_iload hC dX12_leaveSemaphore_31 rfl ?_
        refine n_iadd hC dX12_leaveSemaphore_33 ?_
        rw [show (13 : Int32) * nI r + nI k = nI (13 * r + k) from by rw [← nI_add, ← nI_mulL]; rfl]
        first | refine r_ld hC rfl (fun _ => rfl) (by decide) (by first | omega | with_reducible assumption) dX12_leaveSemaphore_34 ?_ | refine r_needs hC (by first | exact vp_in_nI (by omega) (by decide) | with_reducible assumption) dX12_leaveSemaphore_34 ?_
        rw [e6]
        refine n_istore hC dX12_leaveSemaphore_35 (Nat.le_of_ble_eq_true rfl) ?_
        refine n_iload hC dX12_leaveSemaphore_37 rfl ?_
        refine n_iload_n hC dX12_leaveSemaphore_39 rfl rfl ?_
        refine n_icmp_eq (tgt := 59) hC dX12_leaveSemaphore_40 (by decide) (fun h => ?_) (fun h => ?_)
        · refine n_iinc hC dX12_leaveSemaphore_59 rfl (show _ + Int32.ofInt 1 = _ + 1 from rfl) ?_
          refine n_goto (tgt := 12) hC dX12_leaveSemaphore_62 (by decide) ?_
          rw [nI_1]
          exact ih (k + 1) t τ1 _ (by omega) hf (n_kp_no hk hkl (by simpa using h))
        · refine n_aload_n hC dX12_leaveSemaphore_43 rfl rfl ?_
          refine gm_waiting hC wfX12_203 dX12_leaveSemaphore_44 ?_
          refine n_bipush (v := 13) hC dX12_leaveSemaphore_47 (by decide) ?_
          refine n_iload_n hC dX12_leaveSemaphore_49 rfl rfl ?_
          refine n_imul hC dX12_leaveSemaphore_50 ?_
          refine n_iload_n hC dX12_leaveSemaphore_51 rfl rfl ?_
          refine n_iadd hC dX12_leaveSemaphore_52 ?_
          rw [show (13 : Int32) * nI r + nI t = nI (13 * r + t) from by rw [← nI_add, ← nI_mulL]; rfl]
          refine n_iload hC dX12_leaveSemaphore_53 rfl ?_
          refine r_st hC rfl (fun _ h => h) (fun _ => rfl) (by decide) (by first | omega | with_reducible assumption) dX12_leaveSemaphore_55 ?_
          refine n_iinc hC dX12_leaveSemaphore_56 rfl (show _ + Int32.ofInt 1 = _ + 1 from rfl) ?_
          refine n_iinc hC dX12_leaveSemaphore_59 rfl (show _ + Int32.ofInt 1 = _ + 1 from rfl) ?_
          refine n_goto (tgt := 12) hC dX12_leaveSemaphore_62 (by decide) ?_
          rw [nI_1, nI_1]
          refine ih (k + 1) (t + 1) _ _ (by omega) (fun κ x a => ?_) ?_
          · rw [n_up_o (by omega)]
            exact hf κ x a
          · rw [n_up_off]
            exact n_kp_yes hk hkl (by simpa using h)
  refine n_aload_n hC dX12_leaveSemaphore_0 rfl rfl ?_
  refine gm_waits hC wfX12_185 dX12_leaveSemaphore_1 ?_
  refine n_iload_n hC dX12_leaveSemaphore_4 rfl rfl ?_
  first | refine r_ld hC rfl (fun _ => rfl) (by decide) (by first | omega | with_reducible assumption) dX12_leaveSemaphore_5 ?_ | refine r_needs hC (by first | exact vp_in_nI (by omega) (by decide) | with_reducible assumption) dX12_leaveSemaphore_5 ?_
  rw [el]
  refine n_istore_n hC dX12_leaveSemaphore_6 rfl (Nat.le_of_ble_eq_true rfl) ?_
  refine n_iconst (v := 0) hC dX12_leaveSemaphore_7 (by decide) ?_
  refine n_istore_n hC dX12_leaveSemaphore_8 rfl (Nat.le_of_ble_eq_true rfl) ?_
  refine n_iconst (v := 0) hC dX12_leaveSemaphore_9 (by decide) ?_
  refine n_istore hC dX12_leaveSemaphore_10 (Nat.le_of_ble_eq_true rfl) ?_
  exact loop (M.2 5 (r + 3)).length 0 0 τ _ (by omega) (fun _ _ _ => rfl) (n_kp_0 (fun j hj => h3 j hj))
theorem x_joinRow (d q : Nat) (τ0 : n_S) (M : n_M) (τ : n_S) (hM : RQ τ0 M τ) (hq : n_V q) (hlv : m_lvok M q) (hl : (M.2 5 (m_lv M q)).length < 12) : n_Ct l (rw D ca ad Ex) d yX12_joinRow cX12_joinRow 3 none [.ref (ad 0 0), .int (nI q)] τ (fun rv τ' => rv = none ∧ RQ τ0 (m_s (m_l M 5 (m_lv M q) (M.2 5 (m_lv M q) ++ [nI q])) 8 q 0) τ') := by
  obtain ⟨hq1, hq2⟩ := id hq
  obtain ⟨r, hr, hlv⟩ := hlv
  have er : m_lv M q = r := m_lv_i hr hlv
  rw [er] at hl ⊢
  obtain ⟨e1, h1, h3⟩ := hM.row hr
  have el : τ 22 0 q = nI r := (hM.level hq).trans hlv
  refine n_ofW (by decide) (Nat.le_of_ble_eq_true rfl) ?_
  intro p e s m below meth c hC
  refine n_aload_n hC dX12_joinRow_0 rfl rfl ?_
  refine gm_level hC wfX12_143 dX12_joinRow_1 ?_
  refine n_iload_n hC dX12_joinRow_4 rfl rfl ?_
  first | refine r_ld hC rfl (fun _ => rfl) (by decide) (by first | omega | with_reducible assumption) dX12_joinRow_5 ?_ | refine r_needs hC (by first | exact vp_in_nI (by omega) (by decide) | with_reducible assumption) dX12_joinRow_5 ?_
  rw [el]
  refine n_istore_n hC dX12_joinRow_6 rfl (Nat.le_of_ble_eq_true rfl) ?_
  refine n_aload_n hC dX12_joinRow_7 rfl rfl ?_
  refine gm_rows hC wfX12_191 dX12_joinRow_8 ?_
  refine n_bipush (v := 13) hC dX12_joinRow_11 (by decide) ?_
  refine n_iload_n hC dX12_joinRow_13 rfl rfl ?_
  refine n_imul hC dX12_joinRow_14 ?_
  refine n_aload_n hC dX12_joinRow_15 rfl rfl ?_
  refine gm_rowCount hC wfX12_194 dX12_joinRow_16 ?_
  refine n_iload_n hC dX12_joinRow_19 rfl rfl ?_
  first | refine r_ld hC rfl (fun _ => rfl) (by decide) (by first | omega | with_reducible assumption) dX12_joinRow_20 ?_ | refine r_needs hC (by first | exact vp_in_nI (by omega) (by decide) | with_reducible assumption) dX12_joinRow_20 ?_
  rw [e1]
  refine n_iadd hC dX12_joinRow_21 ?_
  rw [show (13 : Int32) * nI r + nI (M.2 5 r).length = nI (13 * r + (M.2 5 r).length) from by rw [← nI_add, ← nI_mulL]; rfl]
  refine n_iload_n hC dX12_joinRow_22 rfl rfl ?_
  refine r_st hC rfl (fun _ h => h) (fun _ => rfl) (by decide) (by first | omega | with_reducible assumption) dX12_joinRow_23 ?_
  refine n_aload_n hC dX12_joinRow_24 rfl rfl ?_
  refine gm_rowCount hC wfX12_194 dX12_joinRow_25 ?_
  refine n_iload_n hC dX12_joinRow_28 rfl rfl ?_
  refine n_dup2_11 hC dX12_joinRow_29 rfl rfl ?_
  first | refine r_ld hC rfl (fun _ => rfl) (by decide) (by first | omega | with_reducible assumption) dX12_joinRow_30 ?_ | refine r_needs hC (by first | exact vp_in_nI (by omega) (by decide) | with_reducible assumption) dX12_joinRow_30 ?_
  rw [n_up_o (by omega), e1]
  refine n_iconst (v := 1) hC dX12_joinRow_31 (by decide) ?_
  refine n_iadd hC dX12_joinRow_32 ?_
  rw [nI_1]
  refine r_st hC rfl (fun _ h => h) (fun _ => rfl) (by decide) (by first | omega | with_reducible assumption) dX12_joinRow_33 ?_
  refine n_aload_n hC dX12_joinRow_34 rfl rfl ?_
  refine gm_inRow hC wfX12_188 dX12_joinRow_35 ?_
  refine n_iload_n hC dX12_joinRow_38 rfl rfl ?_
  refine n_iconst (v := 0) hC dX12_joinRow_39 (by decide) ?_
  refine r_st hC rfl (fun _ h => h) (fun _ => rfl) (by decide) (by first | omega | with_reducible assumption) dX12_joinRow_40 ?_
  refine n_vret hC dX12_joinRow_41 ?_
  refine ⟨rfl, rq_8 (rql_5 hM hr (fun κ x a b => ?_) ?_ ?_ (fun j hj => ?_)) hq⟩
  · rw [n_up_o (by omega), n_up_o (by omega)]
  · rw [n_up_e, List.length_append]; rfl
  · rw [List.length_append]; exact hl
  · rw [n_up_o (by omega)]
    by_cases e : j = (M.2 5 r).length
    · rw [e, n_up_e]; simp
    · rw [List.length_append] at hj
      have hj : j < (M.2 5 r).length + 1 := hj
      have hj : j < (M.2 5 r).length := by omega
      rw [n_up_o (by omega), h3 j hj, List.getD_eq_getElem?_getD, List.getD_eq_getElem?_getD, List.getElem?_append_left hj]
theorem m_rdy_eq (M : n_M) (q : Nat) : m_rdy M q = m_s (m_l (m_s (m_s M 0 q 1) 7 q 0) 5 (m_lv M q) (M.2 5 (m_lv M q) ++ [nI q])) 8 q 0 := rfl
theorem x_wake (d q : Nat) (τ0 : n_S) (M : n_M) (τ : n_S) (hM : RQ τ0 M τ) (hq : n_V q) (hlv : m_lvok M q) (hl : (M.2 5 (m_lv M q)).length < 12) : n_Ct l (rw D ca ad Ex) (d + 1) yX12_wake cX12_wake 2 none [.ref (ad 0 0), .int (nI q)] τ (fun rv τ' => rv = none ∧ RQ τ0 (m_rdy M q) τ') := by
  obtain ⟨hq1, hq2⟩ := id hq
  refine n_ofW (by decide) (Nat.le_of_ble_eq_true rfl) ?_
  intro p e s m below meth c hC
  refine n_aload_n hC dX12_wake_0 rfl rfl ?_
  refine gm_status hC wfX12_137 dX12_wake_1 ?_
  refine n_iload_n hC dX12_wake_4 rfl rfl ?_
  refine n_iconst (v := 1) hC dX12_wake_5 (by decide) ?_
  refine r_st hC rfl (fun _ h => h) (fun _ => rfl) (by decide) (by first | omega | with_reducible assumption) dX12_wake_6 ?_
  refine n_aload_n hC dX12_wake_7 rfl rfl ?_
  refine gm_waits hC wfX12_185 dX12_wake_8 ?_
  refine n_iload_n hC dX12_wake_11 rfl rfl ?_
  refine n_iconst (v := 0) hC dX12_wake_12 (by decide) ?_
  refine r_st hC rfl (fun _ h => h) (fun _ => rfl) (by decide) (by first | omega | with_reducible assumption) dX12_wake_13 ?_
  refine n_aload_n hC dX12_wake_14 rfl rfl ?_
  refine n_iload_n hC dX12_wake_15 rfl rfl ?_
  refine n_callV hC (x_joinRow d q τ0 (m_s (m_s M 0 q 1) 7 q 0) _ (rq_7 (rq_0 hM hq) hq) hq hlv hl) (Nat.le_refl _) (by decide) (by first | exact rfl | with_reducible assumption) rfl rfl rfl ⟨wmX12_309, wi_yX12_joinRow, wv_yX12_joinRow, wzX12, wc_yX12_joinRow⟩ hy_yX12_joinRow rfl (Nat.le_of_ble_eq_true rfl) dX12_wake_16 (fun rv σ' hpo => ?_)
  obtain ⟨rfl, h1⟩ := hpo
  refine n_vret hC dX12_wake_19 ?_
  exact ⟨rfl, h1⟩
theorem x_waitFor (d q : Nat) (st aw : Int32) (τ0 : n_S) (M : n_M) (τ : n_S) (hM : RQ τ0 M τ) (hq : n_V q) (hlv : m_lvok M q) : n_Ct l (rw D ca ad Ex) (d + 1) yX12_waitFor cX12_waitFor 4 none [.ref (ad 0 0), .int (nI q), .int st, .int aw] τ (fun rv τ' => rv = none ∧ RQ τ0 (m_susp M q st aw) τ') := by
  obtain ⟨hq1, hq2⟩ := id hq
  obtain ⟨r, hr, hlv⟩ := hlv
  have er : m_lv M q = r := m_lv_i hr hlv
  refine n_ofW (by decide) (Nat.le_of_ble_eq_true rfl) ?_
  intro p e s m below meth c hC
  refine n_aload_n hC dX12_waitFor_0 rfl rfl ?_
  refine n_iload_n hC dX12_waitFor_1 rfl rfl ?_
  refine n_callV hC (x_leaveRow d q r τ0 M τ hM hq hr hlv) (Nat.le_refl _) (by decide) (by first | exact rfl | with_reducible assumption) rfl rfl rfl ⟨wmX12_306, wi_yX12_leaveRow, wv_yX12_leaveRow, wzX12, wc_yX12_leaveRow⟩ hy_yX12_leaveRow rfl (Nat.le_of_ble_eq_true rfl) dX12_waitFor_2 (fun rv σ' hpo => ?_)
  obtain ⟨rfl, h1⟩ := hpo
  refine n_aload_n hC dX12_waitFor_5 rfl rfl ?_
  refine gm_status hC wfX12_137 dX12_waitFor_6 ?_
  refine n_iload_n hC dX12_waitFor_9 rfl rfl ?_
  refine n_iload_n hC dX12_waitFor_10 rfl rfl ?_
  refine r_st hC rfl (fun _ h => h) (fun _ => rfl) (by decide) (by first | omega | with_reducible assumption) dX12_waitFor_11 ?_
  refine n_aload_n hC dX12_waitFor_12 rfl rfl ?_
  refine gm_waits hC wfX12_185 dX12_waitFor_13 ?_
  refine n_iload_n hC dX12_waitFor_16 rfl rfl ?_
  refine n_iload_n hC dX12_waitFor_17 rfl rfl ?_
  refine r_st hC rfl (fun _ h => h) (fun _ => rfl) (by decide) (by first | omega | with_reducible assumption) dX12_waitFor_18 ?_
  refine n_aload_n hC dX12_waitFor_19 rfl rfl ?_
  refine gm_inRow hC wfX12_188 dX12_waitFor_20 ?_
  refine n_iload_n hC dX12_waitFor_23 rfl rfl ?_
  refine n_iconst (v := 0) hC dX12_waitFor_24 (by decide) ?_
  refine r_st hC rfl (fun _ h => h) (fun _ => rfl) (by decide) (by first | omega | with_reducible assumption) dX12_waitFor_25 ?_
  refine n_vret hC dX12_waitFor_26 ?_
  refine ⟨rfl, ?_⟩
  unfold m_susp
  rw [er]
  exact rq_8 (rq_7 (rq_0 h1 hq) hq) hq
theorem x_isProcess (d : Nat) (x : Int32) (τ : n_S) : n_Ct l (rw D ca ad Ex) d yX12_isProcess cX12_isProcess 2 (some .boolean) [.ref (ad 0 0), .int x] τ (fun rv τ' => ((∃ q, n_V q ∧ x = nI q ∧ rv = some (.int 1)) ∨ ((¬ ∃ q, n_V q ∧ x = nI q) ∧ rv = some (.int 0))) ∧ τ' = τ) := by
  refine n_ofW (by decide) (Nat.le_of_ble_eq_true rfl) ?_
  intro p e s m below meth c hC
  refine n_iload_n hC dX12_isProcess_0 rfl rfl ?_
  refine n_iconst (v := 1) hC dX12_isProcess_1 (by decide) ?_
  refine n_icmp_lt (tgt := 15) hC dX12_isProcess_2 (by decide) (fun h => ?_) (fun h => ?_)
  · refine n_iconst (v := 0) hC dX12_isProcess_15 (by decide) ?_
    refine n_zret hC dX12_isProcess_16 rfl ?_
    refine ⟨Or.inr ⟨fun z => ?_, rfl⟩, rfl⟩
    obtain ⟨q, ⟨h1, h2⟩, rfl⟩ := z
    exact nI_nlt (a := q) (b := 1) h1 (by omega) h
  · have h0 := h
    clear h
    refine n_iload_n hC dX12_isProcess_5 rfl rfl ?_
    refine n_bipush (v := 12) hC dX12_isProcess_6 (by decide) ?_
    refine n_icmp_gt (tgt := 15) hC dX12_isProcess_8 (by decide) (fun h => ?_) (fun h => ?_)
    · refine n_iconst (v := 0) hC dX12_isProcess_15 (by decide) ?_
      refine n_zret hC dX12_isProcess_16 rfl ?_
      refine ⟨Or.inr ⟨fun z => ?_, rfl⟩, rfl⟩
      obtain ⟨q, ⟨h1, h2⟩, rfl⟩ := z
      exact nI_nlt (a := 12) (b := q) h2 (by decide) h
    · have h3 := h
      refine n_iconst (v := 1) hC dX12_isProcess_11 (by decide) ?_
      refine n_goto (tgt := 16) hC dX12_isProcess_12 (by decide) ?_
      refine n_zret hC dX12_isProcess_16 rfl ?_
      refine ⟨Or.inl ?_, rfl⟩
      have g0 : ¬ x < 0 := fun z => h0 (Int32.lt_trans z (by decide))
      obtain ⟨q, hq, rfl⟩ := nI_of2 (M := 12) (n := 12) rfl g0 (Int32.not_lt.mp h3)
      refine ⟨q, ⟨?_, hq⟩, rfl, rfl⟩
      rcases Nat.eq_zero_or_pos q with z | z
      · subst z
        exact absurd (show nI 0 < 1 by decide) h0
      · exact z
theorem x_isAlive (d : Nat) (x : Int32) (τ0 : n_S) (M : n_M) (τ : n_S) (hM : RQ τ0 M τ) : n_Ct l (rw D ca ad Ex) (d + 1) yX12_isAlive cX12_isAlive 2 (some .boolean) [.ref (ad 0 0), .int x] τ (fun rv τ' => ((∃ q, n_V q ∧ x = nI q ∧ m_al M q ∧ rv = some (.int 1)) ∨ ((¬ ∃ q, n_V q ∧ x = nI q ∧ m_al M q) ∧ rv = some (.int 0))) ∧ τ' = τ) := by
  refine n_ofW (by decide) (Nat.le_of_ble_eq_true rfl) ?_
  intro p e s m below meth c hC
  refine n_aload_n hC dX12_isAlive_0 rfl rfl ?_
  refine n_iload_n hC dX12_isAlive_1 rfl rfl ?_
  refine n_callV hC (x_isProcess d x τ) (Nat.le_refl _) (by decide) (by first | exact rfl | with_reducible assumption) rfl rfl rfl ⟨wmX12_312, wi_yX12_isProcess, wv_yX12_isProcess, wzX12, wc_yX12_isProcess⟩ hy_yX12_isProcess rfl (Nat.le_of_ble_eq_true rfl) dX12_isAlive_2 (fun rv σ' hpo => ?_)
  obtain ⟨hpo, rfl⟩ := hpo
  rcases hpo with ⟨q, hq, rfl, rfl⟩ | ⟨hn, rfl⟩
  · obtain ⟨hq1, hq2⟩ := id hq
    refine n_if_eq (tgt := 33) hC dX12_isAlive_5 (by decide) (fun h => ?_) (fun h => ?_)
    · exact absurd h (by decide)
    · clear h
      refine n_aload_n hC dX12_isAlive_8 rfl rfl ?_
      refine gm_status hC wfX12_137 dX12_isAlive_9 ?_
      refine n_iload_n hC dX12_isAlive_12 rfl rfl ?_
      first | refine r_ld hC rfl (fun _ => rfl) (by decide) (by first | omega | with_reducible assumption) dX12_isAlive_13 ?_ | refine r_needs hC (by first | exact vp_in_nI (by omega) (by decide) | with_reducible assumption) dX12_isAlive_13 ?_
      rw [hM.status hq]
      refine n_iconst (v := 1) hC dX12_isAlive_14 (by decide) ?_
      refine n_icmp_lt (tgt := 33) hC dX12_isAlive_15 (by decide) (fun h => ?_) (fun h => ?_)
      · refine n_iconst (v := 0) hC dX12_isAlive_33 (by decide) ?_
        refine n_zret hC dX12_isAlive_34 rfl ?_
        refine ⟨Or.inr ⟨fun z => ?_, rfl⟩, rfl⟩
        obtain ⟨q', hq', e, h1, h2⟩ := z
        rw [nV_inj hq hq' e] at h
        exact absurd h1 (Int32.not_le.mpr h)
      · have h3 := h
        clear h
        refine n_aload_n hC dX12_isAlive_18 rfl rfl ?_
        refine gm_status hC wfX12_137 dX12_isAlive_19 ?_
        refine n_iload_n hC dX12_isAlive_22 rfl rfl ?_
        first | refine r_ld hC rfl (fun _ => rfl) (by decide) (by first | omega | with_reducible assumption) dX12_isAlive_23 ?_ | refine r_needs hC (by first | exact vp_in_nI (by omega) (by decide) | with_reducible assumption) dX12_isAlive_23 ?_
        rw [hM.status hq]
        refine n_bipush (v := 6) hC dX12_isAlive_24 (by decide) ?_
        refine n_icmp_gt (tgt := 33) hC dX12_isAlive_26 (by decide) (fun h => ?_) (fun h => ?_)
        · refine n_iconst (v := 0) hC dX12_isAlive_33 (by decide) ?_
          refine n_zret hC dX12_isAlive_34 rfl ?_
          refine ⟨Or.inr ⟨fun z => ?_, rfl⟩, rfl⟩
          obtain ⟨q', hq', e, h1, h2⟩ := z
          rw [nV_inj hq hq' e] at h
          exact absurd h2 (Int32.not_le.mpr h)
        · refine n_iconst (v := 1) hC dX12_isAlive_29 (by decide) ?_
          refine n_goto (tgt := 34) hC dX12_isAlive_30 (by decide) ?_
          refine n_zret hC dX12_isAlive_34 rfl ?_
          exact ⟨Or.inl ⟨q, hq, rfl, ⟨Int32.not_lt.mp h3, Int32.not_lt.mp h⟩, rfl⟩, rfl⟩
  · refine n_if_eq (tgt := 33) hC dX12_isAlive_5 (by decide) (fun h => ?_) (fun h => ?_)
    · refine n_iconst (v := 0) hC dX12_isAlive_33 (by decide) ?_
      refine n_zret hC dX12_isAlive_34 rfl ?_
      refine ⟨Or.inr ⟨fun z => ?_, rfl⟩, rfl⟩
      obtain ⟨q', hq', e, -⟩ := z
      exact hn ⟨q', hq', e⟩
    · exact absurd rfl h
end RF1
