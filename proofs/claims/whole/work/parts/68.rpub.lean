theorem RepC_2 {M : n_M} {τ : n_S} {v : Int32} (h : RepC M (r_v M τ)) : RepC M (r_v M (n_up τ 0 0 2 v)) := by
  have e : r_v M (n_up τ 0 0 2 v) = r_v M τ := by
    have g : ∀ κ x, ¬ (κ = 0 ∧ x = 2) → n_up τ 0 0 2 v κ 0 x = τ κ 0 x := fun κ x hk => n_up_o hk
    funext κ i k
    unfold r_v
    split
    all_goals first
      | rfl
      | exact g _ _ (by omega)
      | (unfold r_v1; split <;> first | rfl | exact g _ _ (by omega))
      | (split <;> first | rfl | exact g _ _ (by omega) | (unfold r_v9; split <;> first | rfl | exact g _ _ (by omega)) | (split <;> first | rfl | exact g _ _ (by omega)))
  rw [e]
  exact h
theorem RepR.code {M : n_M} {τ : n_S} (v : Int32) (h : RepR M τ) : RepR M (n_up τ 0 0 2 v) :=
  ⟨⟨RepC_2 h.1.1, RY_cong h.1.2 (fun _ _ => rfl) (fun _ _ => rfl) (fun _ _ => rfl) (fun _ _ => rfl) rfl rfl (fun κ x hk => n_up_o (by unfold r_pk at hk; omega))⟩, RF_cong h.2 (fun _ _ => rfl) (fun x => n_up_o (by omega))⟩
theorem RepR.rq {M : n_M} {τ : n_S} (h : RepR M τ) : RQ τ M τ := ⟨h.1, fun _ => rfl, rfl, rfl⟩
theorem RepR.rs {M : n_M} {τ : n_S} (h : RepR M τ) : RS τ M τ := ⟨h.1, h.2, rfl, rfl⟩
theorem RS.rr {τ0 τ : n_S} {M : n_M} (h : RS τ0 M τ) : RepR M τ := ⟨h.1, h.2.1⟩
/-- the calls that only look: code and answer -/
def u_stack (M : n_M) (x i : Int32) : Int32 × Int32 := if (¬ x < 1 ∧ ¬ 12 < x) ∧ ¬ i < 0 ∧ i < nI (M.2 0 x.toNatClampNeg).length then (0, (M.2 0 x.toNatClampNeg).getD i.toNatClampNeg 0) else (1, 0)
def u_msg (M : n_M) (x i b : Int32) : Int32 × Int32 := if (¬ x < 1 ∧ ¬ 12 < x) ∧ ¬ i < 0 ∧ i < nI (M.2 2 (2 * x.toNatClampNeg)).length then (0, if b = 0 then (M.2 2 (2 * x.toNatClampNeg)).getD i.toNatClampNeg 0 else (M.2 3 (2 * x.toNatClampNeg)).getD i.toNatClampNeg 0) else (1, 0)
def u_ready (M : n_M) (x i : Int32) : Int32 × Int32 := if (¬ x < 0 ∧ x < 3) ∧ ¬ i < 0 ∧ i < nI (M.2 5 x.toNatClampNeg).length then (0, (M.2 5 x.toNatClampNeg).getD i.toNatClampNeg 0) else (1, 0)
def u_cell (M : n_M) (x : Int32) : Int32 × Int32 := if ¬ x < 0 ∧ x < 1024 then (0, M.1 10 x.toNatClampNeg) else (1, 0)
def u_out (M : n_M) (i : Int32) : Int32 × Int32 := if ¬ i < 0 ∧ i < nI (M.2 7 0).length then (0, (M.2 7 0).getD i.toNatClampNeg 0) else (1, 0)
def u_block (M : n_M) (x w : Int32) : Int32 × Int32 := if (¬ x < 0 ∧ x < nI (m_nsl M).length) ∧ ¬ w < 0 ∧ w ≤ 2 then (0, if w = 0 then nI ((m_nsl M).take x.toNatClampNeg).sum else if w = 1 then nI ((m_nsl M).getD x.toNatClampNeg 0) else (M.2 11 0).getD x.toNatClampNeg 0) else (1, 0)
def u_sem (M : n_M) (x w : Int32) : Int32 × Int32 := if (¬ x < 0 ∧ x < 8) ∧ ¬ w < 0 ∧ (w ≤ 1 ∨ w - 2 < nI (M.2 5 (x.toNatClampNeg + 3)).length) then (0, if w = 0 then M.1 9 x.toNatClampNeg else if w = 1 then nI (M.2 5 (x.toNatClampNeg + 3)).length else (M.2 5 (x.toNatClampNeg + 3)).getD (w - 2).toNatClampNeg 0) else (1, 0)
theorem pq_lo {q : Nat} (hq : n_V q) : ¬ nI q < 1 ∧ ¬ 12 < nI q := ⟨nI_nlt (b := 1) hq.1 (by have := hq.2; omega), nI_nlt (a := 12) hq.2 (by decide)⟩
theorem pq_of {x : Int32} (h : ¬ x < 1 ∧ ¬ 12 < x) : ∃ q, n_V q ∧ x = nI q := by
  have g0 : ¬ x < 0 := fun z => h.1 (Int32.lt_trans z (by decide))
  obtain ⟨q, hq, rfl⟩ := nI_of2 (M := 12) (n := 12) rfl g0 (Int32.not_lt.mp h.2)
  refine ⟨q, ⟨?_, hq⟩, rfl⟩
  rcases Nat.eq_zero_or_pos q with z | z
  · subst z
    exact absurd (show nI 0 < 1 by decide) h.1
  · exact z
theorem nI_of3 {x : Int32} {n : Nat} (h : ¬ x < 0) (hn : n < 2 ^ 31) (hx : x < nI n) : ∃ k, k < n ∧ x = nI k := by
  obtain ⟨k, hk, rfl⟩ := nI_of h
  exact ⟨k, (nI_ltI hk hn).mp hx, rfl⟩
section RPB
variable {l : Launch} {D : va_G} {ca : Nat → ClassId} {ad : Nat → Nat → Nat} {Ex : State → Heap → Prop}
theorem x_thrown (d : Nat) (τ : n_S) : n_Ct l (rw D ca ad Ex) d yX12_thrown cX12_thrown 1 (some .int) [.ref (ad 0 0)] τ (fun rv τ' => rv = some (.int (τ 0 0 2)) ∧ τ' = τ) := by
  refine n_ofW (by decide) (Nat.le_of_ble_eq_true rfl) ?_
  intro p e s m below meth c hC
  refine n_aload_n hC dX12_thrown_0 rfl rfl ?_
  refine gm_code hC wfX12_1 dX12_thrown_1 ?_
  refine n_iret hC dX12_thrown_4 ?_
  exact ⟨rfl, rfl⟩
theorem x_fault (d : Nat) (M : n_M) (τ : n_S) (hR : RepR M τ) : n_Ct l (rw D ca ad Ex) d yX12_fault cX12_fault 1 (some .int) [.ref (ad 0 0)] τ (fun rv τ' => rv = some (.int (M.1 17 0)) ∧ τ' 0 0 2 = 0 ∧ RepR M τ') := by
  have hc := hR.code 0
  refine n_ofW (by decide) (Nat.le_of_ble_eq_true rfl) ?_
  intro p e s m below meth c hC
  refine n_aload_n hC dX12_fault_0 rfl rfl ?_
  refine n_iconst (v := 0) hC dX12_fault_1 (by decide) ?_
  refine pm_code hC wfX12_1 dX12_fault_2 ?_
  refine n_aload_n hC dX12_fault_5 rfl rfl ?_
  refine gm_fault hC wfX12_271 dX12_fault_6 ?_
  rw [show (n_up τ 0 0 2 0) 0 0 5 = M.1 17 0 from hc.rq.fault]
  refine n_iret hC dX12_fault_9 ?_
  exact ⟨rfl, n_up_e _ _ _ _, hc⟩
theorem x_tick (d : Nat) (M : n_M) (τ : n_S) (hR : RepR M τ) (hI : II M) (hJ : I7 M) (hclk : M.1 15 0 + 1 < 2147483647) : n_Ct l (rw D ca ad Ex) (d + 9) yX12_tick cX12_tick 1 (some .int) [.ref (ad 0 0)] τ (fun rv τ' => ∃ v M', m_tick M v M' ∧ rv = some (.int v) ∧ τ' 0 0 2 = 0 ∧ RepR M' τ') := by
  have hc := hR.code 0
  refine n_ofW (by decide) (Nat.le_of_ble_eq_true rfl) ?_
  intro p e s m below meth c hC
  refine n_aload_n hC dX12_tick_0 rfl rfl ?_
  refine n_iconst (v := 0) hC dX12_tick_1 (by decide) ?_
  refine pm_code hC wfX12_1 dX12_tick_2 ?_
  refine n_aload_n hC dX12_tick_5 rfl rfl ?_
  refine n_callV hC (x_turn d _ M _ hc.rs hI hJ hclk) (Nat.le_refl _) (by decide) (by first | exact rfl | with_reducible assumption) rfl rfl rfl ⟨wmX12_435, wi_yX12_turn, wv_yX12_turn, wzX12, wc_yX12_turn⟩ hy_yX12_turn rfl (Nat.le_of_ble_eq_true rfl) dX12_tick_6 (fun rv σ' hpo => ?_)
  obtain ⟨v, M', h1, rfl, h2, h3, h4⟩ := hpo
  refine n_iret hC dX12_tick_9 ?_
  exact ⟨v, M', h1, rfl, h4.trans (n_up_e _ _ _ _), h2, h3⟩
theorem x_stack (d : Nat) (x i : Int32) (M : n_M) (τ : n_S) (hR : RepR M τ) : n_Ct l (rw D ca ad Ex) (d + 1) yX12_stack cX12_stack 3 (some .int) [.ref (ad 0 0), .int x, .int i] τ (fun rv τ' => rv = some (.int (u_stack M x i).2) ∧ τ' 0 0 2 = (u_stack M x i).1 ∧ RepR M τ') := by
  refine n_ofW (by decide) (Nat.le_of_ble_eq_true rfl) ?_
  intro p e s m below meth c hC
  have bad : ¬ ((¬ x < 1 ∧ ¬ 12 < x) ∧ ¬ i < 0 ∧ i < nI (M.2 0 x.toNatClampNeg).length) → n_W p l e s m [Value.ref (ad 0 0), Value.int x, Value.int i].toArray below meth c (rw D ca ad Ex) (d + 1) (fun rv τ' => rv = some (.int (u_stack M x i).2) ∧ τ' 0 0 2 = (u_stack M x i).1 ∧ RepR M τ') 23 [some (.ref (ad 0 0)), some (.int x), some (.int i)] [.ref (ad 0 0)] τ := by
    intro hb
    have e : u_stack M x i = (1, 0) := if_neg hb
    rw [e]
    refine n_iconst (v := 1) hC dX12_stack_23 (by decide) ?_
    refine n_goto (tgt := 28) hC dX12_stack_24 (by decide) ?_
    refine pm_code hC wfX12_1 dX12_stack_28 ?_
    refine n_aload_n hC dX12_stack_31 rfl rfl ?_
    refine gm_code hC wfX12_1 dX12_stack_32 ?_
    rw [n_up_e]
    refine n_if_le (tgt := 42) hC dX12_stack_35 (by decide) (fun h => ?_) (fun h => ?_)
    · exact absurd h (by decide)
    · refine n_iconst (v := 0) hC dX12_stack_38 (by decide) ?_
      refine n_goto (tgt := 53) hC dX12_stack_39 (by decide) ?_
      refine n_iret hC dX12_stack_53 ?_
      exact ⟨rfl, n_up_e _ _ _ _, hR.code 1⟩
  refine n_aload_n hC dX12_stack_0 rfl rfl ?_
  refine n_aload_n hC dX12_stack_1 rfl rfl ?_
  refine n_iload_n hC dX12_stack_2 rfl rfl ?_
  refine n_callV hC (x_isProcess d x τ) (Nat.le_refl _) (by decide) (by first | exact rfl | with_reducible assumption) rfl rfl rfl ⟨wmX12_312, wi_yX12_isProcess, wv_yX12_isProcess, wzX12, wc_yX12_isProcess⟩ hy_yX12_isProcess rfl (Nat.le_of_ble_eq_true rfl) dX12_stack_3 (fun rv σ' hpo => ?_)
  obtain ⟨hpo, hσ⟩ := hpo
  rw [hσ]
  rcases hpo with ⟨q, hq, rfl, rfl⟩ | ⟨hn, rfl⟩
  · obtain ⟨hq1, hq2⟩ := id hq
    obtain ⟨e1, h1, h3⟩ := hR.rq.stk hq
    have ecl : (nI q).toNatClampNeg = q := nI_clamp (by omega)
    refine n_if_eq (tgt := 23) hC dX12_stack_6 (by decide) (fun h => ?_) (fun h => ?_)
    · exact absurd h (by decide)
    · clear h
      refine n_iload_n hC dX12_stack_9 rfl rfl ?_
      refine n_if_lt (tgt := 23) hC dX12_stack_10 (by decide) (fun h => ?_) (fun h => ?_)
      · exact bad (fun z => z.2.1 h)
      · have h0 := h
        clear h
        refine n_iload_n hC dX12_stack_13 rfl rfl ?_
        refine n_aload_n hC dX12_stack_14 rfl rfl ?_
        refine gm_deep hC wfX12_155 dX12_stack_15 ?_
        refine n_iload_n hC dX12_stack_18 rfl rfl ?_
        first | refine r_ld hC rfl (fun _ => rfl) (by decide) (by first | omega | with_reducible assumption) dX12_stack_19 ?_ | refine r_needs hC (by first | exact vp_in_nI (by omega) (by decide) | with_reducible assumption) dX12_stack_19 ?_
        rw [e1]
        refine n_icmp_lt (tgt := 27) hC dX12_stack_20 (by decide) (fun h => ?_) (fun h => ?_)
        · obtain ⟨j, hj, rfl⟩ := nI_of3 h0 (by omega) h
          have e : u_stack M (nI q) (nI j) = (0, (M.2 0 q).getD j 0) := by
            unfold u_stack
            rw [ecl, if_pos ⟨pq_lo hq, h0, h⟩, nI_clamp (by omega)]
          rw [e]
          clear bad h h0
          refine n_iconst (v := 0) hC dX12_stack_27 (by decide) ?_
          refine pm_code hC wfX12_1 dX12_stack_28 ?_
          refine n_aload_n hC dX12_stack_31 rfl rfl ?_
          refine gm_code hC wfX12_1 dX12_stack_32 ?_
          rw [n_up_e]
          refine n_if_le (tgt := 42) hC dX12_stack_35 (by decide) (fun h => ?_) (fun h => ?_)
          · clear h
            refine n_aload_n hC dX12_stack_42 rfl rfl ?_
            refine gm_stack hC wfX12_158 dX12_stack_43 ?_
            refine n_bipush (v := 40) hC dX12_stack_46 (by decide) ?_
            refine n_iload_n hC dX12_stack_48 rfl rfl ?_
            refine n_imul hC dX12_stack_49 ?_
            refine n_iload_n hC dX12_stack_50 rfl rfl ?_
            refine n_iadd hC dX12_stack_51 ?_
            rw [show (40 : Int32) * nI q + nI j = nI (40 * q + j) from by rw [← nI_add, ← nI_mulL]; rfl]
            first | refine r_ld hC rfl (fun _ => rfl) (by decide) (by first | omega | with_reducible assumption) dX12_stack_52 ?_ | refine r_needs hC (by first | exact vp_in_nI (by omega) (by decide) | with_reducible assumption) dX12_stack_52 ?_
            rw [n_up_o (by omega), h3 j hj]
            refine n_iret hC dX12_stack_53 ?_
            exact ⟨rfl, n_up_e _ _ _ _, hR.code 0⟩
          · exact absurd (by decide) h
        · exact bad (fun z => h (by rw [ecl] at z; exact z.2.2))
  · refine n_if_eq (tgt := 23) hC dX12_stack_6 (by decide) (fun h => ?_) (fun h => ?_)
    · exact bad (fun z => hn (pq_of z.1))
    · exact absurd rfl h
theorem x_message (d : Nat) (x i b : Int32) (M : n_M) (τ : n_S) (hR : RepR M τ) : n_Ct l (rw D ca ad Ex) (d + 1) yX12_message cX12_message 4 (some .int) [.ref (ad 0 0), .int x, .int i, .int b] τ (fun rv τ' => rv = some (.int (u_msg M x i b).2) ∧ τ' 0 0 2 = (u_msg M x i b).1 ∧ RepR M τ') := by
  refine n_ofW (by decide) (Nat.le_of_ble_eq_true rfl) ?_
  intro p e s m below meth c hC
  have bad : ¬ ((¬ x < 1 ∧ ¬ 12 < x) ∧ ¬ i < 0 ∧ i < nI (M.2 2 (2 * x.toNatClampNeg)).length) → n_W p l e s m [Value.ref (ad 0 0), Value.int x, Value.int i, Value.int b].toArray below meth c (rw D ca ad Ex) (d + 1) (fun rv τ' => rv = some (.int (u_msg M x i b).2) ∧ τ' 0 0 2 = (u_msg M x i b).1 ∧ RepR M τ') 23 [some (.ref (ad 0 0)), some (.int x), some (.int i), some (.int b)] [.ref (ad 0 0)] τ := by
    intro hb
    have e : u_msg M x i b = (1, 0) := if_neg hb
    rw [e]
    refine n_iconst (v := 1) hC dX12_message_23 (by decide) ?_
    refine n_goto (tgt := 28) hC dX12_message_24 (by decide) ?_
    refine pm_code hC wfX12_1 dX12_message_28 ?_
    refine n_aload_n hC dX12_message_31 rfl rfl ?_
    refine gm_code hC wfX12_1 dX12_message_32 ?_
    rw [n_up_e]
    refine n_if_le (tgt := 42) hC dX12_message_35 (by decide) (fun h => ?_) (fun h => ?_)
    · exact absurd h (by decide)
    · refine n_iconst (v := 0) hC dX12_message_38 (by decide) ?_
      refine n_goto (tgt := 71) hC dX12_message_39 (by decide) ?_
      refine n_iret hC dX12_message_71 ?_
      exact ⟨rfl, n_up_e _ _ _ _, hR.code 1⟩
  refine n_aload_n hC dX12_message_0 rfl rfl ?_
  refine n_aload_n hC dX12_message_1 rfl rfl ?_
  refine n_iload_n hC dX12_message_2 rfl rfl ?_
  refine n_callV hC (x_isProcess d x τ) (Nat.le_refl _) (by decide) (by first | exact rfl | with_reducible assumption) rfl rfl rfl ⟨wmX12_312, wi_yX12_isProcess, wv_yX12_isProcess, wzX12, wc_yX12_isProcess⟩ hy_yX12_isProcess rfl (Nat.le_of_ble_eq_true rfl) dX12_message_3 (fun rv σ' hpo => ?_)
  obtain ⟨hpo, hσ⟩ := hpo
  rw [hσ]
  rcases hpo with ⟨q, hq, rfl, rfl⟩ | ⟨hn, rfl⟩
  · obtain ⟨hq1, hq2⟩ := id hq
    obtain ⟨e1, h1, h3⟩ := hR.rq.box hq
    obtain ⟨e2, h2, h4⟩ := hR.rq.who hq
    have el : (M.2 3 (2 * q)).length = (M.2 2 (2 * q)).length := (nI_eq (by omega) (by omega)).mp (e2.symm.trans e1)
    have ecl : (nI q).toNatClampNeg = q := nI_clamp (by omega)
    refine n_if_eq (tgt := 23) hC dX12_message_6 (by decide) (fun h => ?_) (fun h => ?_)
    · exact absurd h (by decide)
    · clear h
      refine n_iload_n hC dX12_message_9 rfl rfl ?_
      refine n_if_lt (tgt := 23) hC dX12_message_10 (by decide) (fun h => ?_) (fun h => ?_)
      · exact bad (fun z => z.2.1 h)
      · have h0 := h
        clear h
        refine n_iload_n hC dX12_message_13 rfl rfl ?_
        refine n_aload_n hC dX12_message_14 rfl rfl ?_
        refine gm_boxed hC wfX12_167 dX12_message_15 ?_
        refine n_iload_n hC dX12_message_18 rfl rfl ?_
        first | refine r_ld hC rfl (fun _ => rfl) (by decide) (by first | omega | with_reducible assumption) dX12_message_19 ?_ | refine r_needs hC (by first | exact vp_in_nI (by omega) (by decide) | with_reducible assumption) dX12_message_19 ?_
        rw [e1]
        refine n_icmp_lt (tgt := 27) hC dX12_message_20 (by decide) (fun h => ?_) (fun h => ?_)
        · obtain ⟨j, hj, rfl⟩ := nI_of3 h0 (by omega) h
          have e : u_msg M (nI q) (nI j) b = (0, if b = 0 then (M.2 2 (2 * q)).getD j 0 else (M.2 3 (2 * q)).getD j 0) := by
            unfold u_msg
            rw [ecl, if_pos ⟨pq_lo hq, h0, h⟩, nI_clamp (by omega)]
          rw [e]
          clear bad h h0
          refine n_iconst (v := 0) hC dX12_message_27 (by decide) ?_
          refine pm_code hC wfX12_1 dX12_message_28 ?_
          refine n_aload_n hC dX12_message_31 rfl rfl ?_
          refine gm_code hC wfX12_1 dX12_message_32 ?_
          rw [n_up_e]
          refine n_if_le (tgt := 42) hC dX12_message_35 (by decide) (fun h => ?_) (fun h => ?_)
          · clear h
            refine n_iload_n hC dX12_message_42 rfl rfl ?_
            refine n_if_eq (tgt := 60) hC dX12_message_43 (by decide) (fun h => ?_) (fun h => ?_)
            · rw [if_pos h]
              refine n_aload_n hC dX12_message_60 rfl rfl ?_
              refine gm_boxNumber hC wfX12_170 dX12_message_61 ?_
              refine n_bipush (v := 8) hC dX12_message_64 (by decide) ?_
              refine n_iload_n hC dX12_message_66 rfl rfl ?_
              refine n_imul hC dX12_message_67 ?_
              refine n_iload_n hC dX12_message_68 rfl rfl ?_
              refine n_iadd hC dX12_message_69 ?_
              rw [show (8 : Int32) * nI q + nI j = nI (8 * q + j) from by rw [← nI_add, ← nI_mulL]; rfl]
              first | refine r_ld hC rfl (fun _ => rfl) (by decide) (by first | omega | with_reducible assumption) dX12_message_70 ?_ | refine r_needs hC (by first | exact vp_in_nI (by omega) (by decide) | with_reducible assumption) dX12_message_70 ?_
              rw [n_up_o (by omega), h3 j hj]
              refine n_iret hC dX12_message_71 ?_
              exact ⟨rfl, n_up_e _ _ _ _, hR.code 0⟩
            · rw [if_neg h]
              refine n_aload_n hC dX12_message_46 rfl rfl ?_
              refine gm_boxWho hC wfX12_173 dX12_message_47 ?_
              refine n_bipush (v := 8) hC dX12_message_50 (by decide) ?_
              refine n_iload_n hC dX12_message_52 rfl rfl ?_
              refine n_imul hC dX12_message_53 ?_
              refine n_iload_n hC dX12_message_54 rfl rfl ?_
              refine n_iadd hC dX12_message_55 ?_
              rw [show (8 : Int32) * nI q + nI j = nI (8 * q + j) from by rw [← nI_add, ← nI_mulL]; rfl]
              first | refine r_ld hC rfl (fun _ => rfl) (by decide) (by first | omega | with_reducible assumption) dX12_message_56 ?_ | refine r_needs hC (by first | exact vp_in_nI (by omega) (by decide) | with_reducible assumption) dX12_message_56 ?_
              rw [n_up_o (by omega), h4 j (by omega)]
              refine n_goto (tgt := 71) hC dX12_message_57 (by decide) ?_
              refine n_iret hC dX12_message_71 ?_
              exact ⟨rfl, n_up_e _ _ _ _, hR.code 0⟩
          · exact absurd (by decide) h
        · exact bad (fun z => h (by rw [ecl] at z; exact z.2.2))
  · refine n_if_eq (tgt := 23) hC dX12_message_6 (by decide) (fun h => ?_) (fun h => ?_)
    · exact bad (fun z => hn (pq_of z.1))
    · exact absurd rfl h
theorem x_ready (d : Nat) (x i : Int32) (M : n_M) (τ : n_S) (hR : RepR M τ) : n_Ct l (rw D ca ad Ex) d yX12_ready cX12_ready 3 (some .int) [.ref (ad 0 0), .int x, .int i] τ (fun rv τ' => rv = some (.int (u_ready M x i).2) ∧ τ' 0 0 2 = (u_ready M x i).1 ∧ RepR M τ') := by
  refine n_ofW (by decide) (Nat.le_of_ble_eq_true rfl) ?_
  intro p e s m below meth c hC
  have bad : ¬ ((¬ x < 0 ∧ x < 3) ∧ ¬ i < 0 ∧ i < nI (M.2 5 x.toNatClampNeg).length) → n_W p l e s m [Value.ref (ad 0 0), Value.int x, Value.int i].toArray below meth c (rw D ca ad Ex) d (fun rv τ' => rv = some (.int (u_ready M x i).2) ∧ τ' 0 0 2 = (u_ready M x i).1 ∧ RepR M τ') 24 [some (.ref (ad 0 0)), some (.int x), some (.int i)] [.ref (ad 0 0)] τ := by
    intro hb
    have e : u_ready M x i = (1, 0) := if_neg hb
    rw [e]
    refine n_iconst (v := 1) hC dX12_ready_24 (by decide) ?_
    refine n_goto (tgt := 29) hC dX12_ready_25 (by decide) ?_
    refine pm_code hC wfX12_1 dX12_ready_29 ?_
    refine n_aload_n hC dX12_ready_32 rfl rfl ?_
    refine gm_code hC wfX12_1 dX12_ready_33 ?_
    rw [n_up_e]
    refine n_if_le (tgt := 43) hC dX12_ready_36 (by decide) (fun h => ?_) (fun h => ?_)
    · exact absurd h (by decide)
    · refine n_iconst (v := 0) hC dX12_ready_39 (by decide) ?_
      refine n_goto (tgt := 54) hC dX12_ready_40 (by decide) ?_
      refine n_iret hC dX12_ready_54 ?_
      exact ⟨rfl, n_up_e _ _ _ _, hR.code 1⟩
  refine n_aload_n hC dX12_ready_0 rfl rfl ?_
  refine n_iload_n hC dX12_ready_1 rfl rfl ?_
  refine n_if_lt (tgt := 24) hC dX12_ready_2 (by decide) (fun h => ?_) (fun h => ?_)
  · exact bad (fun z => z.1.1 h)
  · have hx0 := h
    clear h
    refine n_iload_n hC dX12_ready_5 rfl rfl ?_
    refine n_iconst (v := 3) hC dX12_ready_6 (by decide) ?_
    refine n_icmp_ge (tgt := 24) hC dX12_ready_7 (by decide) (fun h => ?_) (fun h => ?_)
    · exact bad (fun z => absurd z.1.2 (Int32.not_lt.mpr h))
    · have hx3 := Int32.not_le.mp h
      clear h
      obtain ⟨r, hr, rfl⟩ := nI_of3 (n := 3) hx0 (by omega) hx3
      obtain ⟨e1, h1, h3⟩ := hR.rq.row hr
      have ecl : (nI r).toNatClampNeg = r := nI_clamp (by omega)
      refine n_iload_n hC dX12_ready_10 rfl rfl ?_
      refine n_if_lt (tgt := 24) hC dX12_ready_11 (by decide) (fun h => ?_) (fun h => ?_)
      · exact bad (fun z => z.2.1 h)
      · have h0 := h
        clear h
        refine n_iload_n hC dX12_ready_14 rfl rfl ?_
        refine n_aload_n hC dX12_ready_15 rfl rfl ?_
        refine gm_rowCount hC wfX12_194 dX12_ready_16 ?_
        refine n_iload_n hC dX12_ready_19 rfl rfl ?_
        first | refine r_ld hC rfl (fun _ => rfl) (by decide) (by first | omega | with_reducible assumption) dX12_ready_20 ?_ | refine r_needs hC (by first | exact vp_in_nI (by omega) (by decide) | with_reducible assumption) dX12_ready_20 ?_
        rw [e1]
        refine n_icmp_lt (tgt := 28) hC dX12_ready_21 (by decide) (fun h => ?_) (fun h => ?_)
        · obtain ⟨j, hj, rfl⟩ := nI_of3 h0 (by omega) h
          have e : u_ready M (nI r) (nI j) = (0, (M.2 5 r).getD j 0) := by
            unfold u_ready
            rw [ecl, if_pos ⟨⟨hx0, hx3⟩, h0, h⟩, nI_clamp (by omega)]
          rw [e]
          clear bad h h0
          refine n_iconst (v := 0) hC dX12_ready_28 (by decide) ?_
          refine pm_code hC wfX12_1 dX12_ready_29 ?_
          refine n_aload_n hC dX12_ready_32 rfl rfl ?_
          refine gm_code hC wfX12_1 dX12_ready_33 ?_
          rw [n_up_e]
          refine n_if_le (tgt := 43) hC dX12_ready_36 (by decide) (fun h => ?_) (fun h => ?_)
          · clear h
            refine n_aload_n hC dX12_ready_43 rfl rfl ?_
            refine gm_rows hC wfX12_191 dX12_ready_44 ?_
            refine n_bipush (v := 13) hC dX12_ready_47 (by decide) ?_
            refine n_iload_n hC dX12_ready_49 rfl rfl ?_
            refine n_imul hC dX12_ready_50 ?_
            refine n_iload_n hC dX12_ready_51 rfl rfl ?_
            refine n_iadd hC dX12_ready_52 ?_
            rw [show (13 : Int32) * nI r + nI j = nI (13 * r + j) from by rw [← nI_add, ← nI_mulL]; rfl]
            first | refine r_ld hC rfl (fun _ => rfl) (by decide) (by first | omega | with_reducible assumption) dX12_ready_53 ?_ | refine r_needs hC (by first | exact vp_in_nI (by omega) (by decide) | with_reducible assumption) dX12_ready_53 ?_
            rw [n_up_o (by omega), h3 j hj]
            refine n_iret hC dX12_ready_54 ?_
            exact ⟨rfl, n_up_e _ _ _ _, hR.code 0⟩
          · exact absurd (by decide) h
        · exact bad (fun z => h (by rw [ecl] at z; exact z.2.2))
theorem x_cell (d : Nat) (x : Int32) (M : n_M) (τ : n_S) (hR : RepR M τ) : n_Ct l (rw D ca ad Ex) d yX12_cell cX12_cell 2 (some .int) [.ref (ad 0 0), .int x] τ (fun rv τ' => rv = some (.int (u_cell M x).2) ∧ τ' 0 0 2 = (u_cell M x).1 ∧ RepR M τ') := by
  refine n_ofW (by decide) (Nat.le_of_ble_eq_true rfl) ?_
  intro p e s m below meth c hC
  have bad : ¬ (¬ x < 0 ∧ x < 1024) → n_W p l e s m [Value.ref (ad 0 0), Value.int x].toArray below meth c (rw D ca ad Ex) d (fun rv τ' => rv = some (.int (u_cell M x).2) ∧ τ' 0 0 2 = (u_cell M x).1 ∧ RepR M τ') 12 [some (.ref (ad 0 0)), some (.int x)] [.ref (ad 0 0)] τ := by
    intro hb
    have e : u_cell M x = (1, 0) := if_neg hb
    rw [e]
    refine n_iconst (v := 1) hC dX12_cell_12 (by decide) ?_
    refine n_goto (tgt := 17) hC dX12_cell_13 (by decide) ?_
    refine pm_code hC wfX12_1 dX12_cell_17 ?_
    refine n_aload_n hC dX12_cell_20 rfl rfl ?_
    refine gm_code hC wfX12_1 dX12_cell_21 ?_
    rw [n_up_e]
    refine n_if_le (tgt := 31) hC dX12_cell_24 (by decide) (fun h => ?_) (fun h => ?_)
    · exact absurd h (by decide)
    · refine n_iconst (v := 0) hC dX12_cell_27 (by decide) ?_
      refine n_goto (tgt := 37) hC dX12_cell_28 (by decide) ?_
      refine n_iret hC dX12_cell_37 ?_
      exact ⟨rfl, n_up_e _ _ _ _, hR.code 1⟩
  refine n_aload_n hC dX12_cell_0 rfl rfl ?_
  refine n_iload_n hC dX12_cell_1 rfl rfl ?_
  refine n_if_lt (tgt := 12) hC dX12_cell_2 (by decide) (fun h => ?_) (fun h => ?_)
  · exact bad (fun z => z.1 h)
  · have h0 := h
    clear h
    refine n_iload_n hC dX12_cell_5 rfl rfl ?_
    refine n_sipush (v := 1024) hC dX12_cell_6 (by decide) ?_
    refine n_icmp_lt (tgt := 16) hC dX12_cell_9 (by decide) (fun h => ?_) (fun h => ?_)
    · obtain ⟨j, hj, rfl⟩ := nI_of3 (n := 1024) h0 (by omega) h
      have e : u_cell M (nI j) = (0, M.1 10 j) := by
        unfold u_cell
        rw [if_pos ⟨h0, h⟩, nI_clamp (by omega)]
      rw [e]
      clear bad h h0
      refine n_iconst (v := 0) hC dX12_cell_16 (by decide) ?_
      refine pm_code hC wfX12_1 dX12_cell_17 ?_
      refine n_aload_n hC dX12_cell_20 rfl rfl ?_
      refine gm_code hC wfX12_1 dX12_cell_21 ?_
      rw [n_up_e]
      refine n_if_le (tgt := 31) hC dX12_cell_24 (by decide) (fun h => ?_) (fun h => ?_)
      · clear h
        refine n_aload_n hC dX12_cell_31 rfl rfl ?_
        refine gm_cells hC wfX12_209 dX12_cell_32 ?_
        refine n_iload_n hC dX12_cell_35 rfl rfl ?_
        first | refine r_ld hC rfl (fun _ => rfl) (by decide) (by first | omega | with_reducible assumption) dX12_cell_36 ?_ | refine r_needs hC (by first | exact vp_in_nI (by omega) (by decide) | with_reducible assumption) dX12_cell_36 ?_
        rw [n_up_o (by omega), hR.rq.cells hj]
        refine n_iret hC dX12_cell_37 ?_
        exact ⟨rfl, n_up_e _ _ _ _, hR.code 0⟩
      · exact absurd (by decide) h
    · exact bad (fun z => h z.2)
theorem x_out (d : Nat) (x : Int32) (M : n_M) (τ : n_S) (hR : RepR M τ) : n_Ct l (rw D ca ad Ex) d yX12_out cX12_out 2 (some .int) [.ref (ad 0 0), .int x] τ (fun rv τ' => rv = some (.int (u_out M x).2) ∧ τ' 0 0 2 = (u_out M x).1 ∧ RepR M τ') := by
  obtain ⟨e1, h1, h3⟩ := hR.rq.con
  refine n_ofW (by decide) (Nat.le_of_ble_eq_true rfl) ?_
  intro p e s m below meth c hC
  have bad : ¬ (¬ x < 0 ∧ x < nI (M.2 7 0).length) → n_W p l e s m [Value.ref (ad 0 0), Value.int x].toArray below meth c (rw D ca ad Ex) d (fun rv τ' => rv = some (.int (u_out M x).2) ∧ τ' 0 0 2 = (u_out M x).1 ∧ RepR M τ') 13 [some (.ref (ad 0 0)), some (.int x)] [.ref (ad 0 0)] τ := by
    intro hb
    have e : u_out M x = (1, 0) := if_neg hb
    rw [e]
    refine n_iconst (v := 1) hC dX12_out_13 (by decide) ?_
    refine n_goto (tgt := 18) hC dX12_out_14 (by decide) ?_
    refine pm_code hC wfX12_1 dX12_out_18 ?_
    refine n_aload_n hC dX12_out_21 rfl rfl ?_
    refine gm_code hC wfX12_1 dX12_out_22 ?_
    rw [n_up_e]
    refine n_if_le (tgt := 32) hC dX12_out_25 (by decide) (fun h => ?_) (fun h => ?_)
    · exact absurd h (by decide)
    · refine n_iconst (v := 0) hC dX12_out_28 (by decide) ?_
      refine n_goto (tgt := 38) hC dX12_out_29 (by decide) ?_
      refine n_iret hC dX12_out_38 ?_
      exact ⟨rfl, n_up_e _ _ _ _, hR.code 1⟩
  refine n_aload_n hC dX12_out_0 rfl rfl ?_
  refine n_iload_n hC dX12_out_1 rfl rfl ?_
  refine n_if_lt (tgt := 13) hC dX12_out_2 (by decide) (fun h => ?_) (fun h => ?_)
  · exact bad (fun z => z.1 h)
  · have h0 := h
    clear h
    refine n_iload_n hC dX12_out_5 rfl rfl ?_
    refine n_aload_n hC dX12_out_6 rfl rfl ?_
    refine gm_told hC wfX12_406 dX12_out_7 ?_
    rw [e1]
    refine n_icmp_lt (tgt := 17) hC dX12_out_10 (by decide) (fun h => ?_) (fun h => ?_)
    · obtain ⟨j, hj, rfl⟩ := nI_of3 h0 (by omega) h
      have e : u_out M (nI j) = (0, (M.2 7 0).getD j 0) := by
        unfold u_out
        rw [if_pos ⟨h0, h⟩, nI_clamp (by omega)]
      rw [e]
      clear bad h h0
      refine n_iconst (v := 0) hC dX12_out_17 (by decide) ?_
      refine pm_code hC wfX12_1 dX12_out_18 ?_
      refine n_aload_n hC dX12_out_21 rfl rfl ?_
      refine gm_code hC wfX12_1 dX12_out_22 ?_
      rw [n_up_e]
      refine n_if_le (tgt := 32) hC dX12_out_25 (by decide) (fun h => ?_) (fun h => ?_)
      · clear h
        refine n_aload_n hC dX12_out_32 rfl rfl ?_
        refine gm_console hC wfX12_224 dX12_out_33 ?_
        refine n_iload_n hC dX12_out_36 rfl rfl ?_
        first | refine r_ld hC rfl (fun _ => rfl) (by decide) (by first | omega | with_reducible assumption) dX12_out_37 ?_ | refine r_needs hC (by first | exact vp_in_nI (by omega) (by decide) | with_reducible assumption) dX12_out_37 ?_
        rw [n_up_o (by omega), h3 j hj]
        refine n_iret hC dX12_out_38 ?_
        exact ⟨rfl, n_up_e _ _ _ _, hR.code 0⟩
      · exact absurd (by decide) h
    · exact bad (fun z => h z.2)
end RPB
