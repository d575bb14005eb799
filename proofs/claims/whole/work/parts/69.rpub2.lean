def u_stv (M : n_M) (q w : Nat) : Int32 := match w with
  | 0 => M.1 0 q
  | 1 => M.1 1 q
  | 2 => M.1 2 q
  | 3 => M.1 3 q
  | 4 => M.1 5 q
  | 5 => nI (M.2 0 q).length
  | 6 => nI (M.2 1 q).length
  | 7 => nI (M.2 2 (2 * q)).length
  | 8 => nI (M.2 2 (2 * q + 1)).length
  | 9 => nI (m_own (m_nsl M) (M.2 11 0) (nI q))
  | 10 => M.1 6 q
  | 11 => M.1 7 q
  | _ => M.1 8 q
def u_state (M : n_M) (x w : Int32) : Int32 × Int32 := if (¬ x < 1 ∧ ¬ 12 < x) ∧ ¬ w < 0 ∧ w ≤ 12 then (0, u_stv M x.toNatClampNeg w.toNatClampNeg) else (1, 0)
def u_cnv (M : n_M) (w : Nat) : Int32 := match w with
  | 0 => M.1 15 0
  | 1 => nI (M.2 7 0).length
  | 2 => M.1 18 0
  | 3 => nI (m_own (m_nsl M) (M.2 11 0) 0)
  | 4 => nI (m_nsl M).length
  | 5 => nI (m_cf M 1 6 12)
  | 6 => nI (m_cf M 1 1 12)
  | 7 => nI (m_cf M 7 7 12)
  | 8 => nI (m_pu M 12)
  | 9 => nI (m_iu M 12)
  | _ => nI (M.2 8 0).length
def u_count (M : n_M) (w : Int32) : Int32 × Int32 := if ¬ w < 0 ∧ w ≤ 10 then (0, u_cnv M w.toNatClampNeg) else (1, 0)
theorem m_pu_le (M : n_M) : ∀ n, m_pu M n ≤ n
  | 0 => Nat.le_refl _
  | n + 1 => by
    have := m_pu_le M n
    unfold m_pu
    split <;> omega
section RPC
variable {l : Launch} {D : va_G} {ca : Nat → ClassId} {ad : Nat → Nat → Nat} {Ex : State → Heap → Prop}
theorem x_block (d : Nat) (x w : Int32) (M : n_M) (τ : n_S) (hR : RepR M τ) (hB : IB M) : n_Ct l (rw D ca ad Ex) d yX12_block cX12_block 3 (some .int) [.ref (ad 0 0), .int x, .int w] τ (fun rv τ' => rv = some (.int (u_block M x w).2) ∧ τ' 0 0 2 = (u_block M x w).1 ∧ RepR M τ') := by
  obtain ⟨e48, hb⟩ := hR.rq.rb hB
  have hlen := hB.len
  refine n_ofW (by decide) (Nat.le_of_ble_eq_true rfl) ?_
  intro p e s m below meth c hC
  have bad : ¬ ((¬ x < 0 ∧ x < nI (m_nsl M).length) ∧ ¬ w < 0 ∧ w ≤ 2) → n_W p l e s m [Value.ref (ad 0 0), Value.int x, Value.int w].toArray below meth c (rw D ca ad Ex) d (fun rv τ' => rv = some (.int (u_block M x w).2) ∧ τ' 0 0 2 = (u_block M x w).1 ∧ RepR M τ') 22 [some (.ref (ad 0 0)), some (.int x), some (.int w)] [.ref (ad 0 0)] τ := by
    intro hb
    have e : u_block M x w = (1, 0) := if_neg hb
    rw [e]
    refine n_iconst (v := 1) hC dX12_block_22 (by decide) ?_
    refine n_goto (tgt := 27) hC dX12_block_23 (by decide) ?_
    refine pm_code hC wfX12_1 dX12_block_27 ?_
    refine n_aload_n hC dX12_block_30 rfl rfl ?_
    refine gm_code hC wfX12_1 dX12_block_31 ?_
    rw [n_up_e]
    refine n_if_le (tgt := 41) hC dX12_block_34 (by decide) (fun h => ?_) (fun h => ?_)
    · exact absurd h (by decide)
    · refine n_iconst (v := 0) hC dX12_block_37 (by decide) ?_
      refine n_goto (tgt := 74) hC dX12_block_38 (by decide) ?_
      refine n_iret hC dX12_block_74 ?_
      exact ⟨rfl, n_up_e _ _ _ _, hR.code 1⟩
  refine n_aload_n hC dX12_block_0 rfl rfl ?_
  refine n_iload_n hC dX12_block_1 rfl rfl ?_
  refine n_if_lt (tgt := 22) hC dX12_block_2 (by decide) (fun h => ?_) (fun h => ?_)
  · exact bad (fun z => z.1.1 h)
  · have hx0 := h
    clear h
    refine n_iload_n hC dX12_block_5 rfl rfl ?_
    refine n_aload_n hC dX12_block_6 rfl rfl ?_
    refine gm_blocks hC wfX12_221 dX12_block_7 ?_
    rw [e48]
    refine n_icmp_ge (tgt := 22) hC dX12_block_10 (by decide) (fun h => ?_) (fun h => ?_)
    · exact bad (fun z => absurd z.1.2 (Int32.not_lt.mpr h))
    · have hx3 := Int32.not_le.mp h
      clear h
      obtain ⟨k, hk, rfl⟩ := nI_of3 hx0 (by omega) hx3
      obtain ⟨w1, w2, w3⟩ := hb k hk
      refine n_iload_n hC dX12_block_13 rfl rfl ?_
      refine n_if_lt (tgt := 22) hC dX12_block_14 (by decide) (fun h => ?_) (fun h => ?_)
      · exact bad (fun z => z.2.1 h)
      · have h0 := h
        clear h
        refine n_iload_n hC dX12_block_17 rfl rfl ?_
        refine n_iconst (v := 2) hC dX12_block_18 (by decide) ?_
        refine n_icmp_le (tgt := 26) hC dX12_block_19 (by decide) (fun h => ?_) (fun h => ?_)
        · have e : u_block M (nI k) w = (0, if w = 0 then nI ((m_nsl M).take k).sum else if w = 1 then nI ((m_nsl M).getD k 0) else (M.2 11 0).getD k 0) := by
            unfold u_block
            rw [if_pos ⟨⟨hx0, hx3⟩, h0, h⟩, nI_clamp (by omega)]
          rw [e]
          clear bad h h0
          refine n_iconst (v := 0) hC dX12_block_26 (by decide) ?_
          refine pm_code hC wfX12_1 dX12_block_27 ?_
          refine n_aload_n hC dX12_block_30 rfl rfl ?_
          refine gm_code hC wfX12_1 dX12_block_31 ?_
          rw [n_up_e]
          refine n_if_le (tgt := 41) hC dX12_block_34 (by decide) (fun h => ?_) (fun h => ?_)
          · clear h
            refine n_iload_n hC dX12_block_41 rfl rfl ?_
            refine n_if_ne (tgt := 54) hC dX12_block_42 (by decide) (fun h => ?_) (fun h => ?_)
            · rw [if_neg h]
              clear h
              refine n_iload_n hC dX12_block_54 rfl rfl ?_
              refine n_iconst (v := 1) hC dX12_block_55 (by decide) ?_
              refine n_icmp_ne (tgt := 68) hC dX12_block_56 (by decide) (fun h => ?_) (fun h => ?_)
              · rw [if_neg h]
                refine n_aload_n hC dX12_block_68 rfl rfl ?_
                refine gm_blockOf hC wfX12_218 dX12_block_69 ?_
                refine n_iload_n hC dX12_block_72 rfl rfl ?_
                first | refine r_ld hC rfl (fun _ => rfl) (by decide) (by first | omega | with_reducible assumption) dX12_block_73 ?_ | refine r_needs hC (by first | exact vp_in_nI (by omega) (by decide) | with_reducible assumption) dX12_block_73 ?_
                rw [n_up_o (by omega), w3]
                refine n_iret hC dX12_block_74 ?_
                exact ⟨rfl, n_up_e _ _ _ _, hR.code 0⟩
              · rw [if_pos h]
                refine n_aload_n hC dX12_block_59 rfl rfl ?_
                refine gm_blockSize hC wfX12_215 dX12_block_60 ?_
                refine n_iload_n hC dX12_block_63 rfl rfl ?_
                first | refine r_ld hC rfl (fun _ => rfl) (by decide) (by first | omega | with_reducible assumption) dX12_block_64 ?_ | refine r_needs hC (by first | exact vp_in_nI (by omega) (by decide) | with_reducible assumption) dX12_block_64 ?_
                rw [n_up_o (by omega), w2]
                refine n_goto (tgt := 74) hC dX12_block_65 (by decide) ?_
                refine n_iret hC dX12_block_74 ?_
                exact ⟨rfl, n_up_e _ _ _ _, hR.code 0⟩
            · rw [if_pos h]
              refine n_aload_n hC dX12_block_45 rfl rfl ?_
              refine gm_blockAt hC wfX12_212 dX12_block_46 ?_
              refine n_iload_n hC dX12_block_49 rfl rfl ?_
              first | refine r_ld hC rfl (fun _ => rfl) (by decide) (by first | omega | with_reducible assumption) dX12_block_50 ?_ | refine r_needs hC (by first | exact vp_in_nI (by omega) (by decide) | with_reducible assumption) dX12_block_50 ?_
              rw [n_up_o (by omega), w1]
              refine n_goto (tgt := 74) hC dX12_block_51 (by decide) ?_
              refine n_iret hC dX12_block_74 ?_
              exact ⟨rfl, n_up_e _ _ _ _, hR.code 0⟩
          · exact absurd (by decide) h
        · exact bad (fun z => h z.2.2)
theorem x_semaphore_ (d : Nat) (x w : Int32) (M : n_M) (τ : n_S) (hR : RepR M τ) : n_Ct l (rw D ca ad Ex) d yX12_semaphore_ cX12_semaphore_ 3 (some .int) [.ref (ad 0 0), .int x, .int w] τ (fun rv τ' => rv = some (.int (u_sem M x w).2) ∧ τ' 0 0 2 = (u_sem M x w).1 ∧ RepR M τ') := by
  refine n_ofW (by decide) (Nat.le_of_ble_eq_true rfl) ?_
  intro p e s m below meth c hC
  have bad : ¬ ((¬ x < 0 ∧ x < 8) ∧ ¬ w < 0 ∧ (w ≤ 1 ∨ w - 2 < nI (M.2 5 (x.toNatClampNeg + 3)).length)) → n_W p l e s m [Value.ref (ad 0 0), Value.int x, Value.int w].toArray below meth c (rw D ca ad Ex) d (fun rv τ' => rv = some (.int (u_sem M x w).2) ∧ τ' 0 0 2 = (u_sem M x w).1 ∧ RepR M τ') 32 [some (.ref (ad 0 0)), some (.int x), some (.int w)] [.ref (ad 0 0)] τ := by
    intro hb
    have e : u_sem M x w = (1, 0) := if_neg hb
    rw [e]
    refine n_iconst (v := 1) hC dX12_semaphore__32 (by decide) ?_
    refine n_goto (tgt := 37) hC dX12_semaphore__33 (by decide) ?_
    refine pm_code hC wfX12_1 dX12_semaphore__37 ?_
    refine n_aload_n hC dX12_semaphore__40 rfl rfl ?_
    refine gm_code hC wfX12_1 dX12_semaphore__41 ?_
    rw [n_up_e]
    refine n_if_le (tgt := 51) hC dX12_semaphore__44 (by decide) (fun h => ?_) (fun h => ?_)
    · exact absurd h (by decide)
    · refine n_iconst (v := 0) hC dX12_semaphore__47 (by decide) ?_
      refine n_goto (tgt := 91) hC dX12_semaphore__48 (by decide) ?_
      refine n_iret hC dX12_semaphore__91 ?_
      exact ⟨rfl, n_up_e _ _ _ _, hR.code 1⟩
  refine n_aload_n hC dX12_semaphore__0 rfl rfl ?_
  refine n_iload_n hC dX12_semaphore__1 rfl rfl ?_
  refine n_if_lt (tgt := 32) hC dX12_semaphore__2 (by decide) (fun h => ?_) (fun h => ?_)
  · exact bad (fun z => z.1.1 h)
  · have hx0 := h
    clear h
    refine n_iload_n hC dX12_semaphore__5 rfl rfl ?_
    refine n_bipush (v := 8) hC dX12_semaphore__6 (by decide) ?_
    refine n_icmp_ge (tgt := 32) hC dX12_semaphore__8 (by decide) (fun h => ?_) (fun h => ?_)
    · exact bad (fun z => absurd z.1.2 (Int32.not_lt.mpr h))
    · have hx3 := Int32.not_le.mp h
      clear h
      obtain ⟨k, hk, rfl⟩ := nI_of3 (n := 8) hx0 (by omega) hx3
      obtain ⟨e1, h1, h3⟩ := hR.rq.que hk
      have ecl : (nI k).toNatClampNeg = k := nI_clamp (by omega)
      refine n_iload_n hC dX12_semaphore__11 rfl rfl ?_
      refine n_if_lt (tgt := 32) hC dX12_semaphore__12 (by decide) (fun h => ?_) (fun h => ?_)
      · exact bad (fun z => z.2.1 h)
      · have h0 := h
        clear h
        have good : (w ≤ 1 ∨ w - 2 < nI (M.2 5 (k + 3)).length) → n_W p l e s m [Value.ref (ad 0 0), Value.int (nI k), Value.int w].toArray below meth c (rw D ca ad Ex) d (fun rv τ' => rv = some (.int (u_sem M (nI k) w).2) ∧ τ' 0 0 2 = (u_sem M (nI k) w).1 ∧ RepR M τ') 36 [some (.ref (ad 0 0)), some (.int (nI k)), some (.int w)] [.ref (ad 0 0)] τ := by
          intro hg
          have e : u_sem M (nI k) w = (0, if w = 0 then M.1 9 k else if w = 1 then nI (M.2 5 (k + 3)).length else (M.2 5 (k + 3)).getD (w - 2).toNatClampNeg 0) := by
            unfold u_sem
            rw [ecl, if_pos ⟨⟨hx0, hx3⟩, h0, hg⟩]
          rw [e]
          refine n_iconst (v := 0) hC dX12_semaphore__36 (by decide) ?_
          refine pm_code hC wfX12_1 dX12_semaphore__37 ?_
          refine n_aload_n hC dX12_semaphore__40 rfl rfl ?_
          refine gm_code hC wfX12_1 dX12_semaphore__41 ?_
          rw [n_up_e]
          refine n_if_le (tgt := 51) hC dX12_semaphore__44 (by decide) (fun h => ?_) (fun h => ?_)
          · clear h
            refine n_iload_n hC dX12_semaphore__51 rfl rfl ?_
            refine n_if_ne (tgt := 64) hC dX12_semaphore__52 (by decide) (fun h => ?_) (fun h => ?_)
            · have hw0 := h
              rw [if_neg h]
              clear h
              refine n_iload_n hC dX12_semaphore__64 rfl rfl ?_
              refine n_iconst (v := 1) hC dX12_semaphore__65 (by decide) ?_
              refine n_icmp_ne (tgt := 78) hC dX12_semaphore__66 (by decide) (fun h => ?_) (fun h => ?_)
              · rw [if_neg h]
                obtain ⟨j, hj31, rfl⟩ := nI_of h0
                have hj0 : j ≠ 0 := fun z => hw0 (by rw [z]; rfl)
                have hj1 : j ≠ 1 := fun z => h (by rw [z]; rfl)
                clear h
                have e2 : nI j - 2 = nI (j - 2) := nI_subL (b := 2) (by omega)
                have hj : j - 2 < (M.2 5 (k + 3)).length := by
                  rcases hg with z | z
                  · have := (nI_leI (b := 1) hj31 (by omega)).mp z
                    omega
                  · rw [e2] at z
                    exact (nI_ltI (by omega) (by omega)).mp z
                refine n_aload_n hC dX12_semaphore__78 rfl rfl ?_
                refine gm_waiting hC wfX12_203 dX12_semaphore__79 ?_
                refine n_bipush (v := 13) hC dX12_semaphore__82 (by decide) ?_
                refine n_iload_n hC dX12_semaphore__84 rfl rfl ?_
                refine n_imul hC dX12_semaphore__85 ?_
                refine n_iload_n hC dX12_semaphore__86 rfl rfl ?_
                refine n_iadd hC dX12_semaphore__87 ?_
                refine n_iconst (v := 2) hC dX12_semaphore__88 (by decide) ?_
                refine n_isub hC dX12_semaphore__89 ?_
                rw [show (13 : Int32) * nI k + nI j - 2 = nI (13 * k + (j - 2)) from by
                  rw [show (13 : Int32) * nI k = nI (13 * k) from nI_mulL 13 k, nI_add, show nI (13 * k + j) - 2 = nI (13 * k + j - 2) from nI_subL (b := 2) (by omega)]
                  congr 1
                  omega]
                first | refine r_ld hC rfl (fun _ => rfl) (by decide) (by first | omega | with_reducible assumption) dX12_semaphore__90 ?_ | refine r_needs hC (by first | exact vp_in_nI (by omega) (by decide) | with_reducible assumption) dX12_semaphore__90 ?_
                rw [n_up_o (by omega), h3 _ hj, e2, nI_clamp (by omega)]
                refine n_iret hC dX12_semaphore__91 ?_
                exact ⟨rfl, n_up_e _ _ _ _, hR.code 0⟩
              · rw [if_pos h]
                refine n_aload_n hC dX12_semaphore__69 rfl rfl ?_
                refine gm_waitCount hC wfX12_206 dX12_semaphore__70 ?_
                refine n_iload_n hC dX12_semaphore__73 rfl rfl ?_
                first | refine r_ld hC rfl (fun _ => rfl) (by decide) (by first | omega | with_reducible assumption) dX12_semaphore__74 ?_ | refine r_needs hC (by first | exact vp_in_nI (by omega) (by decide) | with_reducible assumption) dX12_semaphore__74 ?_
                rw [n_up_o (by omega), e1]
                refine n_goto (tgt := 91) hC dX12_semaphore__75 (by decide) ?_
                refine n_iret hC dX12_semaphore__91 ?_
                exact ⟨rfl, n_up_e _ _ _ _, hR.code 0⟩
            · rw [if_pos h]
              refine n_aload_n hC dX12_semaphore__55 rfl rfl ?_
              refine gm_values hC wfX12_200 dX12_semaphore__56 ?_
              refine n_iload_n hC dX12_semaphore__59 rfl rfl ?_
              first | refine r_ld hC rfl (fun _ => rfl) (by decide) (by first | omega | with_reducible assumption) dX12_semaphore__60 ?_ | refine r_needs hC (by first | exact vp_in_nI (by omega) (by decide) | with_reducible assumption) dX12_semaphore__60 ?_
              rw [n_up_o (by omega), hR.rq.values hk]
              refine n_goto (tgt := 91) hC dX12_semaphore__61 (by decide) ?_
              refine n_iret hC dX12_semaphore__91 ?_
              exact ⟨rfl, n_up_e _ _ _ _, hR.code 0⟩
          · exact absurd (by decide) h
        refine n_iload_n hC dX12_semaphore__15 rfl rfl ?_
        refine n_iconst (v := 2) hC dX12_semaphore__16 (by decide) ?_
        refine n_isub hC dX12_semaphore__17 ?_
        refine n_aload_n hC dX12_semaphore__18 rfl rfl ?_
        refine gm_waitCount hC wfX12_206 dX12_semaphore__19 ?_
        refine n_iload_n hC dX12_semaphore__22 rfl rfl ?_
        first | refine r_ld hC rfl (fun _ => rfl) (by decide) (by first | omega | with_reducible assumption) dX12_semaphore__23 ?_ | refine r_needs hC (by first | exact vp_in_nI (by omega) (by decide) | with_reducible assumption) dX12_semaphore__23 ?_
        rw [e1]
        refine n_icmp_lt (tgt := 36) hC dX12_semaphore__24 (by decide) (fun h => ?_) (fun h => ?_)
        · exact good (Or.inr h)
        · have hA := h
          clear h
          refine n_iload_n hC dX12_semaphore__27 rfl rfl ?_
          refine n_iconst (v := 1) hC dX12_semaphore__28 (by decide) ?_
          refine n_icmp_le (tgt := 36) hC dX12_semaphore__29 (by decide) (fun h => ?_) (fun h => ?_)
          · exact good (Or.inl h)
          · refine bad (fun z => ?_)
            rw [ecl] at z
            rcases z.2.2 with z2 | z2
            · exact h z2
            · exact hA z2
theorem x_processes (d : Nat) (lo hi : Int32) (τ0 : n_S) (M : n_M) (τ : n_S) (hM : RQ τ0 M τ) : n_Ct l (rw D ca ad Ex) d yX12_processes cX12_processes 5 (some .int) [.ref (ad 0 0), .int lo, .int hi] τ (fun rv τ' => rv = some (.int (nI (m_cf M lo hi 12))) ∧ τ' = τ) := by
  refine n_ofW (by decide) (Nat.le_of_ble_eq_true rfl) ?_
  intro p e s m below meth c hC
  have loop : ∀ (t k : Nat), t + k = 12 → n_W p l e s m [Value.ref (ad 0 0), Value.int lo, Value.int hi].toArray below meth c (rw D ca ad Ex) d (fun rv τ' => rv = some (.int (nI (m_cf M lo hi 12))) ∧ τ' = τ) 5 [some (.ref (ad 0 0)), some (.int lo), some (.int hi), some (.int (nI (m_cf M lo hi k))), some (.int (nI (k + 1)))] [] τ := by
    intro t
    induction t with
    | zero =>
      intro k hk
      have : k = 12 := by omega
      subst this
      refine n_iload hC dX12_processes_5 rfl ?_
      refine n_bipush (v := 12) hC dX12_processes_7 (by decide) ?_
      refine n_icmp_gt (tgt := 48) hC dX12_processes_9 (by decide) (fun h => ?_) (fun h => ?_)
      · refine n_iload_n hC dX12_processes_48 rfl rfl ?_
        refine n_iret hC dX12_processes_49 ?_
        exact ⟨rfl, rfl⟩
      · exact absurd (by decide) h
    | succ t ih =>
      intro k hk
      have hv : n_V (k + 1) := ⟨by omega, by omega⟩
      have ih2 := ih (k + 1) (by omega)
      have no : ¬ (lo ≤ M.1 0 (k + 1) ∧ M.1 0 (k + 1) ≤ hi) → n_W p l e s m [Value.ref (ad 0 0), Value.int lo, Value.int hi].toArray below meth c (rw D ca ad Ex) d (fun rv τ' => rv = some (.int (nI (m_cf M lo hi 12))) ∧ τ' = τ) 39 [some (.ref (ad 0 0)), some (.int lo), some (.int hi), some (.int (nI (m_cf M lo hi k))), some (.int (nI (k + 1)))] [.int (nI (m_cf M lo hi k))] τ := by
        intro hn
        rw [show m_cf M lo hi (k + 1) = m_cf M lo hi k from by show m_cf M lo hi k + (if lo ≤ M.1 0 (k + 1) ∧ M.1 0 (k + 1) ≤ hi then 1 else 0) = _; rw [if_neg hn]; rfl] at ih2
        refine n_iconst (v := 0) hC dX12_processes_39 (by decide) ?_
        refine n_iadd hC dX12_processes_40 ?_
        refine n_istore_n hC dX12_processes_41 rfl (Nat.le_of_ble_eq_true rfl) ?_
        refine n_iinc hC dX12_processes_42 rfl (show _ + Int32.ofInt 1 = _ + 1 from rfl) ?_
        refine n_goto (tgt := 5) hC dX12_processes_45 (by decide) ?_
        rw [nI_1, show ∀ y : Int32, y + 0 = y from fun y => by simp]
        exact ih2
      refine n_iload hC dX12_processes_5 rfl ?_
      refine n_bipush (v := 12) hC dX12_processes_7 (by decide) ?_
      refine n_icmp_gt (tgt := 48) hC dX12_processes_9 (by decide) (fun h => ?_) (fun h => ?_)
      · exact absurd h (nI_nlt (a := 12) (by omega) (by decide))
      · clear h
        refine n_iload_n hC dX12_processes_12 rfl rfl ?_
        refine n_aload_n hC dX12_processes_13 rfl rfl ?_
        refine gm_status hC wfX12_137 dX12_processes_14 ?_
        refine n_iload hC dX12_processes_17 rfl ?_
        first | refine r_ld hC rfl (fun _ => rfl) (by decide) (by first | omega | with_reducible assumption) dX12_processes_19 ?_ | refine r_needs hC (by first | exact vp_in_nI (by omega) (by decide) | with_reducible assumption) dX12_processes_19 ?_
        rw [hM.status hv]
        refine n_iload_n hC dX12_processes_20 rfl rfl ?_
        refine n_icmp_lt (tgt := 39) hC dX12_processes_21 (by decide) (fun h => ?_) (fun h => ?_)
        · exact no (fun z => absurd z.1 (Int32.not_le.mpr h))
        · have h1 := Int32.not_lt.mp h
          clear h
          refine n_aload_n hC dX12_processes_24 rfl rfl ?_
          refine gm_status hC wfX12_137 dX12_processes_25 ?_
          refine n_iload hC dX12_processes_28 rfl ?_
          first | refine r_ld hC rfl (fun _ => rfl) (by decide) (by first | omega | with_reducible assumption) dX12_processes_30 ?_ | refine r_needs hC (by first | exact vp_in_nI (by omega) (by decide) | with_reducible assumption) dX12_processes_30 ?_
          rw [hM.status hv]
          refine n_iload_n hC dX12_processes_31 rfl rfl ?_
          refine n_icmp_gt (tgt := 39) hC dX12_processes_32 (by decide) (fun h => ?_) (fun h => ?_)
          · exact no (fun z => absurd z.2 (Int32.not_le.mpr h))
          · rw [show m_cf M lo hi (k + 1) = m_cf M lo hi k + 1 from by show m_cf M lo hi k + (if lo ≤ M.1 0 (k + 1) ∧ M.1 0 (k + 1) ≤ hi then 1 else 0) = _; rw [if_pos ⟨h1, Int32.not_lt.mp h⟩]] at ih2
            refine n_iconst (v := 1) hC dX12_processes_35 (by decide) ?_
            refine n_goto (tgt := 40) hC dX12_processes_36 (by decide) ?_
            refine n_iadd hC dX12_processes_40 ?_
            refine n_istore_n hC dX12_processes_41 rfl (Nat.le_of_ble_eq_true rfl) ?_
            refine n_iinc hC dX12_processes_42 rfl (show _ + Int32.ofInt 1 = _ + 1 from rfl) ?_
            refine n_goto (tgt := 5) hC dX12_processes_45 (by decide) ?_
            rw [nI_1, nI_1]
            exact ih2
  refine n_iconst (v := 0) hC dX12_processes_0 (by decide) ?_
  refine n_istore_n hC dX12_processes_1 rfl (Nat.le_of_ble_eq_true rfl) ?_
  refine n_iconst (v := 1) hC dX12_processes_2 (by decide) ?_
  refine n_istore hC dX12_processes_3 (Nat.le_of_ble_eq_true rfl) ?_
  exact loop 12 0 rfl
theorem x_state (d : Nat) (x w : Int32) (M : n_M) (τ : n_S) (hR : RepR M τ) (hI : II M) : n_Ct l (rw D ca ad Ex) (d + 1) yX12_state cX12_state 4 (some .int) [.ref (ad 0 0), .int x, .int w] τ (fun rv τ' => rv = some (.int (u_state M x w).2) ∧ τ' 0 0 2 = (u_state M x w).1 ∧ RepR M τ') := by
  refine n_ofW (by decide) (Nat.le_of_ble_eq_true rfl) ?_
  intro p e s m below meth c hC
  have bad : ¬ ((¬ x < 1 ∧ ¬ 12 < x) ∧ ¬ w < 0 ∧ w ≤ 12) → n_W p l e s m [Value.ref (ad 0 0), Value.int x, Value.int w].toArray below meth c (rw D ca ad Ex) (d + 1) (fun rv τ' => rv = some (.int (u_state M x w).2) ∧ τ' 0 0 2 = (u_state M x w).1 ∧ RepR M τ') 19 [some (.ref (ad 0 0)), some (.int x), some (.int w), none] [.ref (ad 0 0)] τ := by
    intro hb
    have e : u_state M x w = (1, 0) := if_neg hb
    rw [e]
    refine n_iconst (v := 1) hC dX12_state_19 (by decide) ?_
    refine n_goto (tgt := 24) hC dX12_state_20 (by decide) ?_
    refine pm_code hC wfX12_1 dX12_state_24 ?_
    refine n_aload_n hC dX12_state_27 rfl rfl ?_
    refine gm_code hC wfX12_1 dX12_state_28 ?_
    rw [n_up_e]
    refine n_if_le (tgt := 36) hC dX12_state_31 (by decide) (fun h => ?_) (fun h => ?_)
    · exact absurd h (by decide)
    · refine n_iconst (v := 0) hC dX12_state_34 (by decide) ?_
      refine n_iret hC dX12_state_35 ?_
      exact ⟨rfl, n_up_e _ _ _ _, hR.code 1⟩
  refine n_aload_n hC dX12_state_0 rfl rfl ?_
  refine n_aload_n hC dX12_state_1 rfl rfl ?_
  refine n_iload_n hC dX12_state_2 rfl rfl ?_
  refine n_callV hC (x_isProcess d x τ) (Nat.le_refl _) (by decide) (by first | exact rfl | with_reducible assumption) rfl rfl rfl ⟨wmX12_312, wi_yX12_isProcess, wv_yX12_isProcess, wzX12, wc_yX12_isProcess⟩ hy_yX12_isProcess rfl (Nat.le_of_ble_eq_true rfl) dX12_state_3 (fun rv σ' hpo => ?_)
  obtain ⟨hpo, hσ⟩ := hpo
  rw [hσ]
  rcases hpo with ⟨q, hq, rfl, rfl⟩ | ⟨hn, rfl⟩
  · obtain ⟨hq1, hq2⟩ := id hq
    have ecl : (nI q).toNatClampNeg = q := nI_clamp (by omega)
    refine n_if_eq (tgt := 19) hC dX12_state_6 (by decide) (fun h => ?_) (fun h => ?_)
    · exact absurd h (by decide)
    · clear h
      refine n_iload_n hC dX12_state_9 rfl rfl ?_
      refine n_if_lt (tgt := 19) hC dX12_state_10 (by decide) (fun h => ?_) (fun h => ?_)
      · exact bad (fun z => z.2.1 h)
      · have h0 := h
        clear h
        refine n_iload_n hC dX12_state_13 rfl rfl ?_
        refine n_bipush (v := 12) hC dX12_state_14 (by decide) ?_
        refine n_icmp_le (tgt := 23) hC dX12_state_16 (by decide) (fun h => ?_) (fun h => ?_)
        · obtain ⟨j, hj, rfl⟩ := nI_of2 (M := 12) (n := 12) rfl h0 h
          have ee : u_state M (nI q) (nI j) = (0, u_stv M q j) := by
            unfold u_state
            rw [ecl, if_pos ⟨pq_lo hq, h0, h⟩, nI_clamp (by omega)]
          rw [ee]
          clear bad h h0
          have hc := hR.code 0
          have hM := hc.rq
          obtain ⟨-, z0, -, -⟩ := hI.2.2.1 q hq
          refine n_iconst (v := 0) hC dX12_state_23 (by decide) ?_
          refine pm_code hC wfX12_1 dX12_state_24 ?_
          refine n_aload_n hC dX12_state_27 rfl rfl ?_
          refine gm_code hC wfX12_1 dX12_state_28 ?_
          rw [n_up_e]
          refine n_if_le (tgt := 36) hC dX12_state_31 (by decide) (fun h => ?_) (fun h => ?_)
          · clear h
            have main : ∀ f : Int32, ((f = 1 ∧ M.1 0 q = 0) ∨ (f = 0 ∧ M.1 0 q ≠ 0)) → n_W p l e s m [Value.ref (ad 0 0), Value.int (nI q), Value.int (nI j)].toArray below meth c (rw D ca ad Ex) (d + 1) (fun rv τ' => rv = some (.int (0, u_stv M q j).2) ∧ τ' 0 0 2 = (0, u_stv M q j).1 ∧ RepR M τ') 50 [some (.ref (ad 0 0)), some (.int (nI q)), some (.int (nI j)), none] [.int f] (n_up τ 0 0 2 0) := by
              intro f hf
              refine n_istore_n hC dX12_state_50 rfl (Nat.le_of_ble_eq_true rfl) ?_
              refine n_iload_n hC dX12_state_51 rfl rfl ?_
              rcases (show j = 0 ∨ j = 1 ∨ j = 2 ∨ j = 3 ∨ j = 4 ∨ j = 5 ∨ j = 6 ∨ j = 7 ∨ j = 8 ∨ j = 9 ∨ j = 10 ∨ j = 11 ∨ j = 12 by omega) with rfl | rfl | rfl | rfl | rfl | rfl | rfl | rfl | rfl | rfl | rfl | rfl | rfl
              · refine n_tableIn (off := 64) (tgt := 116) hC dX12_state_52 (by decide) (by decide) (by decide) (by decide) ?_
                refine n_aload_n hC dX12_state_116 rfl rfl ?_
                refine gm_status hC wfX12_137 dX12_state_117 ?_
                refine n_iload_n hC dX12_state_120 rfl rfl ?_
                first | refine r_ld hC rfl (fun _ => rfl) (by decide) (by first | omega | with_reducible assumption) dX12_state_121 ?_ | refine r_needs hC (by first | exact vp_in_nI (by omega) (by decide) | with_reducible assumption) dX12_state_121 ?_
                rw [hM.status hq]
                refine n_iret hC dX12_state_122 ?_
                exact ⟨rfl, n_up_e _ _ _ _, hc⟩
              · refine n_tableIn (off := 71) (tgt := 123) hC dX12_state_52 (by decide) (by decide) (by decide) (by decide) ?_
                refine n_aload_n hC dX12_state_123 rfl rfl ?_
                refine gm_codes hC wfX12_140 dX12_state_124 ?_
                refine n_iload_n hC dX12_state_127 rfl rfl ?_
                first | refine r_ld hC rfl (fun _ => rfl) (by decide) (by first | omega | with_reducible assumption) dX12_state_128 ?_ | refine r_needs hC (by first | exact vp_in_nI (by omega) (by decide) | with_reducible assumption) dX12_state_128 ?_
                rw [hM.codes hq]
                refine n_iret hC dX12_state_129 ?_
                exact ⟨rfl, n_up_e _ _ _ _, hc⟩
              · refine n_tableIn (off := 78) (tgt := 130) hC dX12_state_52 (by decide) (by decide) (by decide) (by decide) ?_
                refine n_iload_n hC dX12_state_130 rfl rfl ?_
                refine n_if_eq (tgt := 138) hC dX12_state_131 (by decide) (fun h => ?_) (fun h => ?_)
                · refine n_aload_n hC dX12_state_138 rfl rfl ?_
                  refine gm_level hC wfX12_143 dX12_state_139 ?_
                  refine n_iload_n hC dX12_state_142 rfl rfl ?_
                  first | refine r_ld hC rfl (fun _ => rfl) (by decide) (by first | omega | with_reducible assumption) dX12_state_143 ?_ | refine r_needs hC (by first | exact vp_in_nI (by omega) (by decide) | with_reducible assumption) dX12_state_143 ?_
                  rw [hM.level hq]
                  refine n_iret hC dX12_state_144 ?_
                  exact ⟨rfl, n_up_e _ _ _ _, hc⟩
                · rcases hf with ⟨-, hf⟩ | ⟨hf, -⟩
                  · refine n_iconst (v := 0) hC dX12_state_134 (by decide) ?_
                    refine n_goto (tgt := 144) hC dX12_state_135 (by decide) ?_
                    refine n_iret hC dX12_state_144 ?_
                    exact ⟨congrArg (fun y => some (Value.int y)) (z0 hf).2.2.1.symm, n_up_e _ _ _ _, hc⟩
                  · exact absurd hf h
              · refine n_tableIn (off := 93) (tgt := 145) hC dX12_state_52 (by decide) (by decide) (by decide) (by decide) ?_
                refine n_iload_n hC dX12_state_145 rfl rfl ?_
                refine n_if_eq (tgt := 153) hC dX12_state_146 (by decide) (fun h => ?_) (fun h => ?_)
                · refine n_aload_n hC dX12_state_153 rfl rfl ?_
                  refine gm_parent hC wfX12_146 dX12_state_154 ?_
                  refine n_iload_n hC dX12_state_157 rfl rfl ?_
                  first | refine r_ld hC rfl (fun _ => rfl) (by decide) (by first | omega | with_reducible assumption) dX12_state_158 ?_ | refine r_needs hC (by first | exact vp_in_nI (by omega) (by decide) | with_reducible assumption) dX12_state_158 ?_
                  rw [hM.parent hq]
                  refine n_iret hC dX12_state_159 ?_
                  exact ⟨rfl, n_up_e _ _ _ _, hc⟩
                · rcases hf with ⟨-, hf⟩ | ⟨hf, -⟩
                  · refine n_iconst (v := 0) hC dX12_state_149 (by decide) ?_
                    refine n_goto (tgt := 159) hC dX12_state_150 (by decide) ?_
                    refine n_iret hC dX12_state_159 ?_
                    exact ⟨congrArg (fun y => some (Value.int y)) (z0 hf).2.2.2.1.symm, n_up_e _ _ _ _, hc⟩
                  · exact absurd hf h
              · refine n_tableIn (off := 108) (tgt := 160) hC dX12_state_52 (by decide) (by decide) (by decide) (by decide) ?_
                refine n_aload_n hC dX12_state_160 rfl rfl ?_
                refine gm_next hC wfX12_152 dX12_state_161 ?_
                refine n_iload_n hC dX12_state_164 rfl rfl ?_
                first | refine r_ld hC rfl (fun _ => rfl) (by decide) (by first | omega | with_reducible assumption) dX12_state_165 ?_ | refine r_needs hC (by first | exact vp_in_nI (by omega) (by decide) | with_reducible assumption) dX12_state_165 ?_
                rw [hM.next hq]
                refine n_iret hC dX12_state_166 ?_
                exact ⟨rfl, n_up_e _ _ _ _, hc⟩
              · refine n_tableIn (off := 115) (tgt := 167) hC dX12_state_52 (by decide) (by decide) (by decide) (by decide) ?_
                refine n_aload_n hC dX12_state_167 rfl rfl ?_
                refine gm_deep hC wfX12_155 dX12_state_168 ?_
                refine n_iload_n hC dX12_state_171 rfl rfl ?_
                first | refine r_ld hC rfl (fun _ => rfl) (by decide) (by first | omega | with_reducible assumption) dX12_state_172 ?_ | refine r_needs hC (by first | exact vp_in_nI (by omega) (by decide) | with_reducible assumption) dX12_state_172 ?_
                rw [(hM.stk hq).1]
                refine n_iret hC dX12_state_173 ?_
                exact ⟨rfl, n_up_e _ _ _ _, hc⟩
              · refine n_tableIn (off := 122) (tgt := 174) hC dX12_state_52 (by decide) (by decide) (by decide) (by decide) ?_
                refine n_aload_n hC dX12_state_174 rfl rfl ?_
                refine gm_called hC wfX12_161 dX12_state_175 ?_
                refine n_iload_n hC dX12_state_178 rfl rfl ?_
                first | refine r_ld hC rfl (fun _ => rfl) (by decide) (by first | omega | with_reducible assumption) dX12_state_179 ?_ | refine r_needs hC (by first | exact vp_in_nI (by omega) (by decide) | with_reducible assumption) dX12_state_179 ?_
                rw [(hM.ret hq).1]
                refine n_iret hC dX12_state_180 ?_
                exact ⟨rfl, n_up_e _ _ _ _, hc⟩
              · refine n_tableIn (off := 129) (tgt := 181) hC dX12_state_52 (by decide) (by decide) (by decide) (by decide) ?_
                refine n_aload_n hC dX12_state_181 rfl rfl ?_
                refine gm_boxed hC wfX12_167 dX12_state_182 ?_
                refine n_iload_n hC dX12_state_185 rfl rfl ?_
                first | refine r_ld hC rfl (fun _ => rfl) (by decide) (by first | omega | with_reducible assumption) dX12_state_186 ?_ | refine r_needs hC (by first | exact vp_in_nI (by omega) (by decide) | with_reducible assumption) dX12_state_186 ?_
                rw [(hM.box hq).1]
                refine n_iret hC dX12_state_187 ?_
                exact ⟨rfl, n_up_e _ _ _ _, hc⟩
              · refine n_tableIn (off := 136) (tgt := 188) hC dX12_state_52 (by decide) (by decide) (by decide) (by decide) ?_
                refine n_aload_n hC dX12_state_188 rfl rfl ?_
                refine gm_keyed hC wfX12_176 dX12_state_189 ?_
                refine n_iload_n hC dX12_state_192 rfl rfl ?_
                first | refine r_ld hC rfl (fun _ => rfl) (by decide) (by first | omega | with_reducible assumption) dX12_state_193 ?_ | refine r_needs hC (by first | exact vp_in_nI (by omega) (by decide) | with_reducible assumption) dX12_state_193 ?_
                rw [(hM.key hq).1]
                refine n_iret hC dX12_state_194 ?_
                exact ⟨rfl, n_up_e _ _ _ _, hc⟩
              · refine n_tableIn (off := 143) (tgt := 195) hC dX12_state_52 (by decide) (by decide) (by decide) (by decide) ?_
                refine n_aload_n hC dX12_state_195 rfl rfl ?_
                refine n_iload_n hC dX12_state_196 rfl rfl ?_
                refine n_callV hC (x_held d (nI q) _ M _ hM hI.2.1) (Nat.le_refl _) (by decide) (by first | exact rfl | with_reducible assumption) rfl rfl rfl ⟨wmX12_438, wi_yX12_held, wv_yX12_held, wzX12, wc_yX12_held⟩ hy_yX12_held rfl (Nat.le_of_ble_eq_true rfl) dX12_state_197 (fun rv σ' hpo => ?_)
                obtain ⟨rfl, hσ⟩ := hpo
                rw [hσ]
                refine n_iret hC dX12_state_200 ?_
                exact ⟨rfl, n_up_e _ _ _ _, hc⟩
              · refine n_tableIn (off := 149) (tgt := 201) hC dX12_state_52 (by decide) (by decide) (by decide) (by decide) ?_
                refine n_iload_n hC dX12_state_201 rfl rfl ?_
                refine n_if_eq (tgt := 209) hC dX12_state_202 (by decide) (fun h => ?_) (fun h => ?_)
                · refine n_aload_n hC dX12_state_209 rfl rfl ?_
                  refine gm_did hC wfX12_182 dX12_state_210 ?_
                  refine n_iload_n hC dX12_state_213 rfl rfl ?_
                  first | refine r_ld hC rfl (fun _ => rfl) (by decide) (by first | omega | with_reducible assumption) dX12_state_214 ?_ | refine r_needs hC (by first | exact vp_in_nI (by omega) (by decide) | with_reducible assumption) dX12_state_214 ?_
                  rw [hM.did hq]
                  refine n_iret hC dX12_state_215 ?_
                  exact ⟨rfl, n_up_e _ _ _ _, hc⟩
                · rcases hf with ⟨-, hf⟩ | ⟨hf, -⟩
                  · refine n_iconst (v := 0) hC dX12_state_205 (by decide) ?_
                    refine n_goto (tgt := 215) hC dX12_state_206 (by decide) ?_
                    refine n_iret hC dX12_state_215 ?_
                    exact ⟨congrArg (fun y => some (Value.int y)) (z0 hf).2.2.2.2.symm, n_up_e _ _ _ _, hc⟩
                  · exact absurd hf h
              · refine n_tableIn (off := 164) (tgt := 216) hC dX12_state_52 (by decide) (by decide) (by decide) (by decide) ?_
                refine n_aload_n hC dX12_state_216 rfl rfl ?_
                refine gm_waits hC wfX12_185 dX12_state_217 ?_
                refine n_iload_n hC dX12_state_220 rfl rfl ?_
                first | refine r_ld hC rfl (fun _ => rfl) (by decide) (by first | omega | with_reducible assumption) dX12_state_221 ?_ | refine r_needs hC (by first | exact vp_in_nI (by omega) (by decide) | with_reducible assumption) dX12_state_221 ?_
                rw [hM.waits hq]
                refine n_iret hC dX12_state_222 ?_
                exact ⟨rfl, n_up_e _ _ _ _, hc⟩
              · refine n_tableOut (tgt := 223) hC dX12_state_52 (by decide) (by decide) ?_
                refine n_aload_n hC dX12_state_223 rfl rfl ?_
                refine gm_inRow hC wfX12_188 dX12_state_224 ?_
                refine n_iload_n hC dX12_state_227 rfl rfl ?_
                first | refine r_ld hC rfl (fun _ => rfl) (by decide) (by first | omega | with_reducible assumption) dX12_state_228 ?_ | refine r_needs hC (by first | exact vp_in_nI (by omega) (by decide) | with_reducible assumption) dX12_state_228 ?_
                rw [hM.inRow hq]
                refine n_iret hC dX12_state_229 ?_
                exact ⟨rfl, n_up_e _ _ _ _, hc⟩
            refine n_aload_n hC dX12_state_36 rfl rfl ?_
            refine gm_status hC wfX12_137 dX12_state_37 ?_
            refine n_iload_n hC dX12_state_40 rfl rfl ?_
            first | refine r_ld hC rfl (fun _ => rfl) (by decide) (by first | omega | with_reducible assumption) dX12_state_41 ?_ | refine r_needs hC (by first | exact vp_in_nI (by omega) (by decide) | with_reducible assumption) dX12_state_41 ?_
            rw [hM.status hq]
            refine n_if_ne (tgt := 49) hC dX12_state_42 (by decide) (fun h => ?_) (fun h => ?_)
            · refine n_iconst (v := 0) hC dX12_state_49 (by decide) ?_
              exact main 0 (Or.inr ⟨rfl, h⟩)
            · refine n_iconst (v := 1) hC dX12_state_45 (by decide) ?_
              refine n_goto (tgt := 50) hC dX12_state_46 (by decide) ?_
              exact main 1 (Or.inl ⟨rfl, h⟩)
          · exact absurd (by decide) h
        · exact bad (fun z => h z.2.2)
  · refine n_if_eq (tgt := 19) hC dX12_state_6 (by decide) (fun h => ?_) (fun h => ?_)
    · exact bad (fun z => hn (pq_of z.1))
    · exact absurd rfl h
theorem x_count (d : Nat) (w : Int32) (M : n_M) (τ : n_S) (hR : RepR M τ) (hB : IB M) (hpr : ∀ i, i < 12 → 0 < M.1 12 i → (M.2 12 i).length ≤ 256) : n_Ct l (rw D ca ad Ex) (d + 1) yX12_count cX12_count 5 (some .int) [.ref (ad 0 0), .int w] τ (fun rv τ' => rv = some (.int (u_count M w).2) ∧ τ' 0 0 2 = (u_count M w).1 ∧ RepR M τ') := by
  refine n_ofW (by decide) (Nat.le_of_ble_eq_true rfl) ?_
  intro p e s m below meth c hC
  have after : ∀ cd : Int32, (cd = 0 ∧ ¬ w < 0 ∧ w ≤ 10) ∨ (cd = 1 ∧ ¬ (¬ w < 0 ∧ w ≤ 10)) → n_W p l e s m [Value.ref (ad 0 0), Value.int w].toArray below meth c (rw D ca ad Ex) (d + 1) (fun rv τ' => rv = some (.int (u_count M w).2) ∧ τ' 0 0 2 = (u_count M w).1 ∧ RepR M τ') 16 [some (.ref (ad 0 0)), some (.int w), none, none, none] [.int cd, .ref (ad 0 0)] τ := by
    intro cd hcd
    have hc := hR.code cd
    have hM := hc.rq
    have last : n_W p l e s m [Value.ref (ad 0 0), Value.int w].toArray below meth c (rw D ca ad Ex) (d + 1) (fun rv τ' => rv = some (.int (u_count M w).2) ∧ τ' 0 0 2 = (u_count M w).1 ∧ RepR M τ') 81 [some (.ref (ad 0 0)), some (.int w), some (.int (nI (m_pu M 12))), some (.int (nI (m_iu M 12))), some (.int (nI 13))] [] (n_up τ 0 0 2 cd) := by
      refine n_aload_n hC dX12_count_81 rfl rfl ?_
      refine gm_code hC wfX12_1 dX12_count_82 ?_
      rw [n_up_e]
      rcases hcd with ⟨rfl, h0, h10⟩ | ⟨rfl, hb⟩
      · refine n_if_le (tgt := 92) hC dX12_count_85 (by decide) (fun h => ?_) (fun h => ?_)
        · clear h
          obtain ⟨j, hj, rfl⟩ := nI_of2 (M := 10) (n := 10) rfl h0 h10
          have e : u_count M (nI j) = (0, u_cnv M j) := by
            unfold u_count
            rw [if_pos ⟨h0, h10⟩, nI_clamp (by omega)]
          rw [e]
          refine n_iload_n hC dX12_count_92 rfl rfl ?_
          rcases (show j = 0 ∨ j = 1 ∨ j = 2 ∨ j = 3 ∨ j = 4 ∨ j = 5 ∨ j = 6 ∨ j = 7 ∨ j = 8 ∨ j = 9 ∨ j = 10 by omega) with rfl | rfl | rfl | rfl | rfl | rfl | rfl | rfl | rfl | rfl | rfl
          · refine n_tableIn (off := 55) (tgt := 148) hC dX12_count_93 (by decide) (by decide) (by decide) (by decide) ?_
            refine n_aload_n hC dX12_count_148 rfl rfl ?_
            refine gm_code hC wfX12_1 dX12_count_149 ?_
            rw [n_up_e]
            refine n_if_le (tgt := 159) hC dX12_count_152 (by decide) (fun h => ?_) (fun h => ?_)
            · refine n_aload_n hC dX12_count_159 rfl rfl ?_
              refine gm_clock hC wfX12_399 dX12_count_160 ?_
              rw [hM.clock]
              refine n_iret hC dX12_count_163 ?_
              exact ⟨rfl, n_up_e _ _ _ _, hc⟩
            · exact absurd (by decide) h
          · refine n_tableIn (off := 71) (tgt := 164) hC dX12_count_93 (by decide) (by decide) (by decide) (by decide) ?_
            refine n_aload_n hC dX12_count_164 rfl rfl ?_
            refine gm_told hC wfX12_406 dX12_count_165 ?_
            rw [hM.con.1]
            refine n_iret hC dX12_count_168 ?_
            exact ⟨rfl, n_up_e _ _ _ _, hc⟩
          · refine n_tableIn (off := 76) (tgt := 169) hC dX12_count_93 (by decide) (by decide) (by decide) (by decide) ?_
            refine n_aload_n hC dX12_count_169 rfl rfl ?_
            refine gm_lost hC wfX12_409 dX12_count_170 ?_
            rw [hM.lost]
            refine n_iret hC dX12_count_173 ?_
            exact ⟨rfl, n_up_e _ _ _ _, hc⟩
          · refine n_tableIn (off := 81) (tgt := 174) hC dX12_count_93 (by decide) (by decide) (by decide) (by decide) ?_
            refine n_aload_n hC dX12_count_174 rfl rfl ?_
            refine n_iconst (v := 0) hC dX12_count_175 (by decide) ?_
            refine n_callV hC (x_held d 0 _ M _ hM hB) (Nat.le_refl _) (by decide) (by first | exact rfl | with_reducible assumption) rfl rfl rfl ⟨wmX12_438, wi_yX12_held, wv_yX12_held, wzX12, wc_yX12_held⟩ hy_yX12_held rfl (Nat.le_of_ble_eq_true rfl) dX12_count_176 (fun rv σ' hpo => ?_)
            obtain ⟨rfl, hσ⟩ := hpo
            rw [hσ]
            refine n_iret hC dX12_count_179 ?_
            exact ⟨rfl, n_up_e _ _ _ _, hc⟩
          · refine n_tableIn (off := 87) (tgt := 180) hC dX12_count_93 (by decide) (by decide) (by decide) (by decide) ?_
            refine n_aload_n hC dX12_count_180 rfl rfl ?_
            refine gm_blocks hC wfX12_221 dX12_count_181 ?_
            rw [(hM.rb hB).1]
            refine n_iret hC dX12_count_184 ?_
            exact ⟨rfl, n_up_e _ _ _ _, hc⟩
          · refine n_tableIn (off := 92) (tgt := 185) hC dX12_count_93 (by decide) (by decide) (by decide) (by decide) ?_
            refine n_aload_n hC dX12_count_185 rfl rfl ?_
            refine n_iconst (v := 1) hC dX12_count_186 (by decide) ?_
            refine n_bipush (v := 6) hC dX12_count_187 (by decide) ?_
            refine n_callV hC (x_processes d 1 6 _ M _ hM) (Nat.le_refl _) (by decide) (by first | exact rfl | with_reducible assumption) rfl rfl rfl ⟨wmX12_441, wi_yX12_processes, wv_yX12_processes, wzX12, wc_yX12_processes⟩ hy_yX12_processes rfl (Nat.le_of_ble_eq_true rfl) dX12_count_189 (fun rv σ' hpo => ?_)
            obtain ⟨rfl, hσ⟩ := hpo
            rw [hσ]
            refine n_iret hC dX12_count_192 ?_
            exact ⟨rfl, n_up_e _ _ _ _, hc⟩
          · refine n_tableIn (off := 100) (tgt := 193) hC dX12_count_93 (by decide) (by decide) (by decide) (by decide) ?_
            refine n_aload_n hC dX12_count_193 rfl rfl ?_
            refine n_iconst (v := 1) hC dX12_count_194 (by decide) ?_
            refine n_iconst (v := 1) hC dX12_count_195 (by decide) ?_
            refine n_callV hC (x_processes d 1 1 _ M _ hM) (Nat.le_refl _) (by decide) (by first | exact rfl | with_reducible assumption) rfl rfl rfl ⟨wmX12_441, wi_yX12_processes, wv_yX12_processes, wzX12, wc_yX12_processes⟩ hy_yX12_processes rfl (Nat.le_of_ble_eq_true rfl) dX12_count_196 (fun rv σ' hpo => ?_)
            obtain ⟨rfl, hσ⟩ := hpo
            rw [hσ]
            refine n_iret hC dX12_count_199 ?_
            exact ⟨rfl, n_up_e _ _ _ _, hc⟩
          · refine n_tableIn (off := 107) (tgt := 200) hC dX12_count_93 (by decide) (by decide) (by decide) (by decide) ?_
            refine n_aload_n hC dX12_count_200 rfl rfl ?_
            refine n_bipush (v := 7) hC dX12_count_201 (by decide) ?_
            refine n_bipush (v := 7) hC dX12_count_203 (by decide) ?_
            refine n_callV hC (x_processes d 7 7 _ M _ hM) (Nat.le_refl _) (by decide) (by first | exact rfl | with_reducible assumption) rfl rfl rfl ⟨wmX12_441, wi_yX12_processes, wv_yX12_processes, wzX12, wc_yX12_processes⟩ hy_yX12_processes rfl (Nat.le_of_ble_eq_true rfl) dX12_count_205 (fun rv σ' hpo => ?_)
            obtain ⟨rfl, hσ⟩ := hpo
            rw [hσ]
            refine n_iret hC dX12_count_208 ?_
            exact ⟨rfl, n_up_e _ _ _ _, hc⟩
          · refine n_tableIn (off := 116) (tgt := 209) hC dX12_count_93 (by decide) (by decide) (by decide) (by decide) ?_
            refine n_iload_n hC dX12_count_209 rfl rfl ?_
            refine n_iret hC dX12_count_210 ?_
            exact ⟨rfl, n_up_e _ _ _ _, hc⟩
          · refine n_tableIn (off := 118) (tgt := 211) hC dX12_count_93 (by decide) (by decide) (by decide) (by decide) ?_
            refine n_iload_n hC dX12_count_211 rfl rfl ?_
            refine n_iret hC dX12_count_212 ?_
            exact ⟨rfl, n_up_e _ _ _ _, hc⟩
          · refine n_tableOut (tgt := 213) hC dX12_count_93 (by decide) (by decide) ?_
            refine n_aload_n hC dX12_count_213 rfl rfl ?_
            refine gm_size hC wfX12_227 dX12_count_214 ?_
            rw [hM.tap.1]
            refine n_iret hC dX12_count_217 ?_
            exact ⟨rfl, n_up_e _ _ _ _, hc⟩
        · exact absurd (by decide) h
      · have e : u_count M w = (1, 0) := if_neg hb
        rw [e]
        refine n_if_le (tgt := 92) hC dX12_count_85 (by decide) (fun h => ?_) (fun h => ?_)
        · exact absurd h (by decide)
        · clear h
          refine n_iconst (v := 0) hC dX12_count_88 (by decide) ?_
          refine n_goto (tgt := 93) hC dX12_count_89 (by decide) ?_
          refine n_tableIn (off := 55) (tgt := 148) hC dX12_count_93 (by decide) (by decide) (by decide) (by decide) ?_
          refine n_aload_n hC dX12_count_148 rfl rfl ?_
          refine gm_code hC wfX12_1 dX12_count_149 ?_
          rw [n_up_e]
          refine n_if_le (tgt := 159) hC dX12_count_152 (by decide) (fun h => ?_) (fun h => ?_)
          · exact absurd h (by decide)
          · refine n_iconst (v := 0) hC dX12_count_155 (by decide) ?_
            refine n_goto (tgt := 163) hC dX12_count_156 (by decide) ?_
            refine n_iret hC dX12_count_163 ?_
            exact ⟨rfl, n_up_e _ _ _ _, hc⟩
    have step : ∀ k, k < 13 → ∀ (a b a' b' : Nat), (n_up τ 0 0 2 cd) 11 0 k = 0 ∨ (n_up τ 0 0 2 cd) 11 0 k = 1 → (a' = a + (if (n_up τ 0 0 2 cd) 11 0 k = 0 then 0 else 1)) → ((n_up τ 0 0 2 cd) 11 0 k = 0 → b' = b) → ((n_up τ 0 0 2 cd) 11 0 k = 1 → ∃ n, (n_up τ 0 0 2 cd) 10 0 k = nI n ∧ b' = b + n) → n_W p l e s m [Value.ref (ad 0 0), Value.int w].toArray below meth c (rw D ca ad Ex) (d + 1) (fun rv τ' => rv = some (.int (u_count M w).2) ∧ τ' 0 0 2 = (u_count M w).1 ∧ RepR M τ') 26 [some (.ref (ad 0 0)), some (.int w), some (.int (nI a')), some (.int (nI b')), some (.int (nI (k + 1)))] [] (n_up τ 0 0 2 cd) → n_W p l e s m [Value.ref (ad 0 0), Value.int w].toArray below meth c (rw D ca ad Ex) (d + 1) (fun rv τ' => rv = some (.int (u_count M w).2) ∧ τ' 0 0 2 = (u_count M w).1 ∧ RepR M τ') 26 [some (.ref (ad 0 0)), some (.int w), some (.int (nI a)), some (.int (nI b)), some (.int (nI k))] [] (n_up τ 0 0 2 cd) := by
      intro k hk a b a' b' hfl ha hb0 hb1 nx
      refine n_iload hC dX12_count_26 rfl ?_
      refine n_bipush (v := 13) hC dX12_count_28 (by decide) ?_
      refine n_icmp_ge (tgt := 81) hC dX12_count_30 (by decide) (fun h => ?_) (fun h => ?_)
      · exact absurd h (nI_ge (b := 13) hk (by decide))
      · clear h
        refine n_iload_n hC dX12_count_33 rfl rfl ?_
        refine n_aload_n hC dX12_count_34 rfl rfl ?_
        refine gm_isProgram hC wfX12_118 dX12_count_35 ?_
        refine n_iload hC dX12_count_38 rfl ?_
        first | refine r_ldb hC rfl (fun _ => rfl) (by decide) (by first | omega | with_reducible assumption) dX12_count_40 ?_ | refine r_ldz hC rfl (fun _ => rfl) (by decide) (by first | omega | with_reducible assumption) dX12_count_40 ?_
        rcases hfl with z | z
        · rw [z] at ha
          rw [z]
          refine n_if_eq (tgt := 48) hC dX12_count_41 (by decide) (fun h => ?_) (fun h => ?_)
          · clear h
            refine n_iconst (v := 0) hC dX12_count_48 (by decide) ?_
            refine n_iadd hC dX12_count_49 ?_
            refine n_istore_n hC dX12_count_50 rfl (Nat.le_of_ble_eq_true rfl) ?_
            refine n_iload_n hC dX12_count_51 rfl rfl ?_
            refine n_aload_n hC dX12_count_52 rfl rfl ?_
            refine gm_isProgram hC wfX12_118 dX12_count_53 ?_
            refine n_iload hC dX12_count_56 rfl ?_
            first | refine r_ldb hC rfl (fun _ => rfl) (by decide) (by first | omega | with_reducible assumption) dX12_count_58 ?_ | refine r_ldz hC rfl (fun _ => rfl) (by decide) (by first | omega | with_reducible assumption) dX12_count_58 ?_
            rw [z]
            refine n_if_eq (tgt := 72) hC dX12_count_59 (by decide) (fun h => ?_) (fun h => ?_)
            · clear h
              refine n_iconst (v := 0) hC dX12_count_72 (by decide) ?_
              refine n_iadd hC dX12_count_73 ?_
              refine n_istore_n hC dX12_count_74 rfl (Nat.le_of_ble_eq_true rfl) ?_
              refine n_iinc hC dX12_count_75 rfl (show _ + Int32.ofInt 1 = _ + 1 from rfl) ?_
              refine n_goto (tgt := 26) hC dX12_count_78 (by decide) ?_
              rw [nI_1, show ∀ y : Int32, y + 0 = y from fun y => by simp, show ∀ y : Int32, y + 0 = y from fun y => by simp]
              rw [show a' = a from ha, hb0 z] at nx
              exact nx
            · exact absurd rfl h
          · exact absurd rfl h
        · obtain ⟨n, hn, hbn⟩ := hb1 z
          rw [z] at ha
          rw [z]
          refine n_if_eq (tgt := 48) hC dX12_count_41 (by decide) (fun h => ?_) (fun h => ?_)
          · exact absurd h (by decide)
          · clear h
            refine n_iconst (v := 1) hC dX12_count_44 (by decide) ?_
            refine n_goto (tgt := 49) hC dX12_count_45 (by decide) ?_
            refine n_iadd hC dX12_count_49 ?_
            refine n_istore_n hC dX12_count_50 rfl (Nat.le_of_ble_eq_true rfl) ?_
            refine n_iload_n hC dX12_count_51 rfl rfl ?_
            refine n_aload_n hC dX12_count_52 rfl rfl ?_
            refine gm_isProgram hC wfX12_118 dX12_count_53 ?_
            refine n_iload hC dX12_count_56 rfl ?_
            first | refine r_ldb hC rfl (fun _ => rfl) (by decide) (by first | omega | with_reducible assumption) dX12_count_58 ?_ | refine r_ldz hC rfl (fun _ => rfl) (by decide) (by first | omega | with_reducible assumption) dX12_count_58 ?_
            rw [z]
            refine n_if_eq (tgt := 72) hC dX12_count_59 (by decide) (fun h => ?_) (fun h => ?_)
            · exact absurd h (by decide)
            · clear h
              refine n_aload_n hC dX12_count_62 rfl rfl ?_
              refine gm_lengths hC wfX12_115 dX12_count_63 ?_
              refine n_iload hC dX12_count_66 rfl ?_
              first | refine r_ld hC rfl (fun _ => rfl) (by decide) (by first | omega | with_reducible assumption) dX12_count_68 ?_ | refine r_needs hC (by first | exact vp_in_nI (by omega) (by decide) | with_reducible assumption) dX12_count_68 ?_
              rw [hn]
              refine n_goto (tgt := 73) hC dX12_count_69 (by decide) ?_
              refine n_iadd hC dX12_count_73 ?_
              refine n_istore_n hC dX12_count_74 rfl (Nat.le_of_ble_eq_true rfl) ?_
              refine n_iinc hC dX12_count_75 rfl (show _ + Int32.ofInt 1 = _ + 1 from rfl) ?_
              refine n_goto (tgt := 26) hC dX12_count_78 (by decide) ?_
              rw [nI_1, nI_1, nI_add]
              rw [show a' = a + 1 from ha, hbn] at nx
              exact nx
    have loop : ∀ (t k : Nat), t + k = 12 → n_W p l e s m [Value.ref (ad 0 0), Value.int w].toArray below meth c (rw D ca ad Ex) (d + 1) (fun rv τ' => rv = some (.int (u_count M w).2) ∧ τ' 0 0 2 = (u_count M w).1 ∧ RepR M τ') 26 [some (.ref (ad 0 0)), some (.int w), some (.int (nI (m_pu M k))), some (.int (nI (m_iu M k))), some (.int (nI k))] [] (n_up τ 0 0 2 cd) := by
      intro t
      induction t with
      | zero =>
        intro k hk
        have : k = 12 := by omega
        subst this
        have hf : (n_up τ 0 0 2 cd) 11 0 12 = 0 := hc.2.2
        refine step 12 (by omega) (m_pu M 12) (m_iu M 12) (m_pu M 12) (m_iu M 12) (Or.inl hf) (by rw [if_pos hf]; rfl) (fun _ => rfl) (fun z => by rw [hf] at z; exact absurd z (by decide)) ?_
        refine n_iload hC dX12_count_26 rfl ?_
        refine n_bipush (v := 13) hC dX12_count_28 (by decide) ?_
        refine n_icmp_ge (tgt := 81) hC dX12_count_30 (by decide) (fun h => ?_) (fun h => ?_)
        · exact last
        · exact absurd (by decide) h
      | succ t ih =>
        intro k hk
        have hf := hc.2.1 k (by omega)
        by_cases hu : 0 < M.1 12 k
        · rw [if_pos hu] at hf
          refine step k (by omega) _ _ (m_pu M (k + 1)) (m_iu M (k + 1)) (Or.inr hf) ?_ (fun z => by rw [hf] at z; exact absurd z (by decide)) (fun _ => ⟨_, (hc.1.2.2.1 k (by omega) hu).1, ?_⟩) (ih (k + 1) (by omega))
          · rw [if_neg (by rw [hf]; decide)]
            show m_pu M k + (if 0 < M.1 12 k then 1 else 0) = _
            rw [if_pos hu]
          · show m_iu M k + (if 0 < M.1 12 k then (M.2 12 k).length else 0) = _
            rw [if_pos hu]
        · rw [if_neg hu] at hf
          refine step k (by omega) _ _ (m_pu M (k + 1)) (m_iu M (k + 1)) (Or.inl hf) ?_ (fun _ => ?_) (fun z => by rw [hf] at z; exact absurd z (by decide)) (ih (k + 1) (by omega))
          · rw [if_pos hf]
            show m_pu M k + (if 0 < M.1 12 k then 1 else 0) = _
            rw [if_neg hu]
          · show m_iu M k + (if 0 < M.1 12 k then (M.2 12 k).length else 0) = _
            rw [if_neg hu]
            rfl
    refine pm_code hC wfX12_1 dX12_count_16 ?_
    refine n_iconst (v := 0) hC dX12_count_19 (by decide) ?_
    refine n_istore_n hC dX12_count_20 rfl (Nat.le_of_ble_eq_true rfl) ?_
    refine n_iconst (v := 0) hC dX12_count_21 (by decide) ?_
    refine n_istore_n hC dX12_count_22 rfl (Nat.le_of_ble_eq_true rfl) ?_
    refine n_iconst (v := 0) hC dX12_count_23 (by decide) ?_
    refine n_istore hC dX12_count_24 (Nat.le_of_ble_eq_true rfl) ?_
    exact loop 12 0 rfl
  refine n_aload_n hC dX12_count_0 rfl rfl ?_
  refine n_iload_n hC dX12_count_1 rfl rfl ?_
  refine n_if_lt (tgt := 11) hC dX12_count_2 (by decide) (fun h => ?_) (fun h => ?_)
  · refine n_iconst (v := 1) hC dX12_count_11 (by decide) ?_
    refine n_goto (tgt := 16) hC dX12_count_12 (by decide) ?_
    exact after 1 (Or.inr ⟨rfl, fun z => z.1 h⟩)
  · have h0 := h
    clear h
    refine n_iload_n hC dX12_count_5 rfl rfl ?_
    refine n_bipush (v := 10) hC dX12_count_6 (by decide) ?_
    refine n_icmp_le (tgt := 15) hC dX12_count_8 (by decide) (fun h => ?_) (fun h => ?_)
    · refine n_iconst (v := 0) hC dX12_count_15 (by decide) ?_
      exact after 0 (Or.inl ⟨rfl, h0, h⟩)
    · refine n_iconst (v := 1) hC dX12_count_11 (by decide) ?_
      refine n_goto (tgt := 16) hC dX12_count_12 (by decide) ?_
      exact after 1 (Or.inr ⟨rfl, fun z => h z.2⟩)
end RPC
