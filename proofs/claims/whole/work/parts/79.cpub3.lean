section CP3
variable {l : Launch} {D : va_G} {ca : Nat → ClassId} {ad : Nat → Nat → Nat} {ae : Nat → Nat} {ts : Nat} {Ex : State → Heap → Prop}
theorem cp_message (hl : l.stackTraces = false) (hT : ∀ U H, Ex U H → xT (cw_A ad) U H) (d : Nat) (x i b : Int32) (M : n_M) (σ : n_S) (hM : RepC M σ) : k_Ct l (cw D ca ad ae Ex) (d + 6) yX11_message cX11_message 5 (some .int) [.ref (ad 0 0), .int x, .int i, .int b] σ (fun rv σ' => (u_msg M x i b).1 = 0 ∧ rv = some (.int (u_msg M x i b).2) ∧ σ' = σ) (fun E σ' => (u_msg M x i b).1 = 1 ∧ E = "java/lang/IndexOutOfBoundsException" ∧ σ' = σ) := by
  refine k_ofW (by decide) (Nat.le_of_ble_eq_true rfl) ?_
  intro p e s m below meth c hC hexc
  have bad : ∀ w : Option Value, ¬ ((¬ x < 1 ∧ ¬ 12 < x) ∧ ¬ i < 0 ∧ i < nI (M.2 2 (2 * x.toNatClampNeg)).length) → k_W p l e s m [Value.ref (ad 0 0), Value.int x, Value.int i, Value.int b].toArray below meth c (cw D ca ad ae Ex) (d + 6) (fun rv σ' => (u_msg M x i b).1 = 0 ∧ rv = some (.int (u_msg M x i b).2) ∧ σ' = σ) (fun E σ' => (u_msg M x i b).1 = 1 ∧ E = "java/lang/IndexOutOfBoundsException" ∧ σ' = σ) 31 [some (.ref (ad 0 0)), some (.int x), some (.int i), some (.int b), w] [] σ := by
    intro w hb
    have ee : u_msg M x i b = (1, 0) := if_neg hb
    rw [ee]
    refine kn_thr hC hl hexc hT (by omega) (ik := 61) (ic := 65) (is := 202) (cls := "java/lang/IndexOutOfBoundsException") (text := "no such process or message") (by decide) (by decide) (Nat.le_of_ble_eq_true rfl) dX11_message_31 dX11_message_34 dX11_message_35 dX11_message_37 dX11_message_40 ?_
    exact ⟨rfl, rfl, rfl⟩
  refine kn_aload_n hC dX11_message_0 rfl rfl ?_
  refine kg0_desk hC (by first | exact rfl | with_reducible assumption) wfX11_28 dX11_message_1 ?_
  refine kn_iload_n hC dX11_message_4 rfl rfl ?_
  refine kn_callV hC (c_find (d + 5) x σ) (Nat.le_refl _) (by decide) (by first | exact rfl | with_reducible assumption) rfl rfl rfl ⟨wmX11_106, wi_yX2_find, wv_yX2_find, wzX2, wc_yX2_find⟩ hy_yX2_find rfl (Nat.le_of_ble_eq_true rfl) dX11_message_5 (fun rv σ' hpo => ?_)
  obtain ⟨hpo, hσ⟩ := hpo
  rw [hσ]
  rcases hpo with ⟨q, hq, rfl, rfl⟩ | ⟨hn, rfl⟩
  · have hv : n_V q := hq
    have hd1 : cw_dom 21 q := hq
    have hd2 : cw_dom 24 (2 * q) := by
      show 2 ≤ 2 * q ∧ 2 * q ≤ 25
      omega
    have hd3 : cw_dom 26 (2 * q) := hd2
    have hd4 : cw_dom 27 (2 * q) := hd2
    obtain ⟨h1, e1, h3⟩ := hM.2 2 (2 * q) hd2
    obtain ⟨h2, e2, h4⟩ := hM.2 3 (2 * q) hd2
    have h1 : (M.2 2 (2 * q)).length ≤ 8 := h1
    have h2 : (M.2 3 (2 * q)).length ≤ 8 := h2
    have e1 : σ 24 (2 * q) 2 = nI (M.2 2 (2 * q)).length := e1
    have e2 : σ 24 (2 * q) 2 = nI (M.2 3 (2 * q)).length := e2
    have el : (M.2 3 (2 * q)).length = (M.2 2 (2 * q)).length := (nI_eq (by omega) (by omega)).mp (e2.symm.trans e1)
    have ecl : (nI q).toNatClampNeg = q := nI_clamp (by omega)
    first | refine kn_astore hC dX11_message_8 (Nat.le_of_ble_eq_true rfl) ?_ | refine kn_astoreN hC dX11_message_8 (Nat.le_of_ble_eq_true rfl) ?_
    refine kn_aload hC dX11_message_10 rfl ?_
    first | refine kn_ifnull hC dX11_message_12 ?_ | refine kn_ifnullN (tgt := 31) hC dX11_message_12 (by decide) ?_
    refine kn_iload_n hC dX11_message_15 rfl rfl ?_
    refine kn_if_lt (tgt := 31) hC dX11_message_16 (by decide) (fun h => ?_) (fun h => ?_)
    · exact bad _ (fun z => z.2.1 h)
    · have h0 := h
      clear h
      refine kn_iload_n hC dX11_message_19 rfl rfl ?_
      refine kn_aload hC dX11_message_20 rfl ?_
      refine kg21_box hC (by first | exact rfl | with_reducible assumption) wfX11_171 dX11_message_22 ?_
      refine kg24_size hC (by first | exact rfl | with_reducible assumption) wfX11_174 dX11_message_25 ?_
      rw [e1]
      refine kn_icmp_lt (tgt := 41) hC dX11_message_28 (by decide) (fun h => ?_) (fun h => ?_)
      · obtain ⟨j, hj, rfl⟩ := nI_of3 h0 (by omega) h
        have ee : u_msg M (nI q) (nI j) b = (0, if b = 0 then (M.2 2 (2 * q)).getD j 0 else (M.2 3 (2 * q)).getD j 0) := by
          unfold u_msg
          rw [ecl, if_pos ⟨pq_lo hv, h0, h⟩, nI_clamp (by omega)]
        rw [ee]
        clear bad h
        refine kn_iload_n hC dX11_message_41 rfl rfl ?_
        refine kn_if_eq (tgt := 58) hC dX11_message_42 (by decide) (fun h => ?_) (fun h => ?_)
        · rw [if_pos h]
          refine kn_aload hC dX11_message_58 rfl ?_
          refine kg21_box hC (by first | exact rfl | with_reducible assumption) wfX11_171 dX11_message_60 ?_
          refine kg24_numbers hC (by first | exact rfl | with_reducible assumption) wfX11_207 dX11_message_63 ?_
          refine kn_iload_n hC dX11_message_66 rfl rfl ?_
          refine kc_iald hC (by first | exact rfl | with_reducible assumption) (fun _ => rfl) (by first | exact vp_in_nI (by omega) (by decide) | with_reducible assumption) dX11_message_67 ?_
          rw [nI_clamp (by omega), show σ 26 (2 * q) j = (M.2 2 (2 * q)).getD j 0 from h3 j hj]
          refine kn_iret hC dX11_message_68 ?_
          exact ⟨rfl, rfl, rfl⟩
        · rw [if_neg h]
          refine kn_aload hC dX11_message_45 rfl ?_
          refine kg21_box hC (by first | exact rfl | with_reducible assumption) wfX11_171 dX11_message_47 ?_
          refine kg24_senders hC (by first | exact rfl | with_reducible assumption) wfX11_204 dX11_message_50 ?_
          refine kn_iload_n hC dX11_message_53 rfl rfl ?_
          refine kc_iald hC (by first | exact rfl | with_reducible assumption) (fun _ => rfl) (by first | exact vp_in_nI (by omega) (by decide) | with_reducible assumption) dX11_message_54 ?_
          rw [nI_clamp (by omega), show σ 27 (2 * q) j = (M.2 3 (2 * q)).getD j 0 from h4 j (by omega)]
          refine kn_goto (tgt := 68) hC dX11_message_55 (by decide) ?_
          refine kn_iret hC dX11_message_68 ?_
          exact ⟨rfl, rfl, rfl⟩
      · exact bad _ (fun z => h (by rw [ecl] at z; exact z.2.2))
  · first | refine kn_astore hC dX11_message_8 (Nat.le_of_ble_eq_true rfl) ?_ | refine kn_astoreN hC dX11_message_8 (Nat.le_of_ble_eq_true rfl) ?_
    refine kn_aloadN hC dX11_message_10 rfl ?_
    first | refine kn_ifnull hC dX11_message_12 ?_ | refine kn_ifnullN (tgt := 31) hC dX11_message_12 (by decide) ?_
    exact bad _ (fun z => hn ⟨Int32.not_lt.mp z.1.1, Int32.not_lt.mp z.1.2⟩)
theorem cp_block (hl : l.stackTraces = false) (hT : ∀ U H, Ex U H → xT (cw_A ad) U H) (d : Nat) (x w : Int32) (M : n_M) (σ : n_S) (hM : RepC M σ) (hB : IB M) : k_Ct l (cw D ca ad ae Ex) (d + 6) yX11_block cX11_block 4 (some .int) [.ref (ad 0 0), .int x, .int w] σ (fun rv σ' => (u_block M x w).1 = 0 ∧ rv = some (.int (u_block M x w).2) ∧ σ' = σ) (fun E σ' => (u_block M x w).1 = 1 ∧ E = "java/lang/IndexOutOfBoundsException" ∧ σ' = σ) := by
  have hlen := hB.len
  refine k_ofW (by decide) (Nat.le_of_ble_eq_true rfl) ?_
  intro p e s m below meth c hC hexc
  have bad : ∀ y : Option Value, ¬ ((¬ x < 0 ∧ x < nI (m_nsl M).length) ∧ ¬ w < 0 ∧ w ≤ 2) → k_W p l e s m [Value.ref (ad 0 0), Value.int x, Value.int w].toArray below meth c (cw D ca ad ae Ex) (d + 6) (fun rv σ' => (u_block M x w).1 = 0 ∧ rv = some (.int (u_block M x w).2) ∧ σ' = σ) (fun E σ' => (u_block M x w).1 = 1 ∧ E = "java/lang/IndexOutOfBoundsException" ∧ σ' = σ) 32 [some (.ref (ad 0 0)), some (.int x), some (.int w), y] [] σ := by
    intro y hb
    have ee : u_block M x w = (1, 0) := if_neg hb
    rw [ee]
    refine kn_thr hC hl hexc hT (by omega) (ik := 61) (ic := 65) (is := 228) (cls := "java/lang/IndexOutOfBoundsException") (text := "no such block or what") (by decide) (by decide) (Nat.le_of_ble_eq_true rfl) dX11_block_32 dX11_block_35 dX11_block_36 dX11_block_38 dX11_block_41 ?_
    exact ⟨rfl, rfl, rfl⟩
  refine kn_aload_n hC dX11_block_0 rfl rfl ?_
  refine kg0_desk hC (by first | exact rfl | with_reducible assumption) wfX11_28 dX11_block_1 ?_
  refine kg9_memory hC (by first | exact rfl | with_reducible assumption) wfX11_177 dX11_block_4 ?_
  refine kn_iload_n hC dX11_block_7 rfl rfl ?_
  refine kn_callV hC (c_addressOf (d + 4) x (m_nsl M) (M.2 11 0) M σ hM hB) (Nat.le_refl _) (by decide) (by first | exact rfl | with_reducible assumption) rfl rfl rfl ⟨wmX11_225, wi_yX3_addressOf, wv_yX3_addressOf, wzX3, wc_yX3_addressOf⟩ hy_yX3_addressOf rfl (Nat.le_of_ble_eq_true rfl) dX11_block_8 (fun rv σ' hpo => ?_)
  obtain ⟨hpo, hσ⟩ := hpo
  rw [hσ]
  rcases hpo with ⟨k, hk, rfl, rfl⟩ | ⟨hn, rfl⟩
  · obtain ⟨f1, f2, f3, f4⟩ := m_blk hM hB hk
    have hx0 : ¬ nI k < 0 := Int32.not_lt.mpr (nI_pos' (by omega))
    have hx3 : nI k < nI (m_nsl M).length := nI_lt hk (by omega)
    refine kn_istore_n hC dX11_block_11 rfl (Nat.le_of_ble_eq_true rfl) ?_
    refine kn_iload_n hC dX11_block_12 rfl rfl ?_
    refine kn_if_lt (tgt := 32) hC dX11_block_13 (by decide) (fun h => ?_) (fun h => ?_)
    · exact absurd h (Int32.not_lt.mpr (nI_pos' (by omega)))
    · clear h
      refine kn_iload_n hC dX11_block_16 rfl rfl ?_
      refine kn_sipush (v := 1024) hC dX11_block_17 (by decide) ?_
      refine kn_icmp_ge (tgt := 32) hC dX11_block_20 (by decide) (fun h => ?_) (fun h => ?_)
      · exact absurd h (nI_ge (b := 1024) (by omega) (by decide))
      · clear h
        refine kn_iload_n hC dX11_block_23 rfl rfl ?_
        refine kn_if_lt (tgt := 32) hC dX11_block_24 (by decide) (fun h => ?_) (fun h => ?_)
        · exact bad _ (fun z => z.2.1 h)
        · have h0 := h
          clear h
          refine kn_iload_n hC dX11_block_27 rfl rfl ?_
          refine kn_iconst (v := 2) hC dX11_block_28 (by decide) ?_
          refine kn_icmp_le (tgt := 42) hC dX11_block_29 (by decide) (fun h => ?_) (fun h => ?_)
          · have ee : u_block M (nI k) w = (0, if w = 0 then nI ((m_nsl M).take k).sum else if w = 1 then nI ((m_nsl M).getD k 0) else (M.2 11 0).getD k 0) := by
              unfold u_block
              rw [if_pos ⟨⟨hx0, hx3⟩, h0, h⟩, nI_clamp (by omega)]
            rw [ee]
            clear bad h
            refine kn_iload_n hC dX11_block_42 rfl rfl ?_
            refine kn_if_ne (tgt := 48) hC dX11_block_43 (by decide) (fun h => ?_) (fun h => ?_)
            · rw [if_neg h]
              clear h
              refine kn_iload_n hC dX11_block_48 rfl rfl ?_
              refine kn_iconst (v := 1) hC dX11_block_49 (by decide) ?_
              refine kn_icmp_ne (tgt := 68) hC dX11_block_50 (by decide) (fun h => ?_) (fun h => ?_)
              · rw [if_neg h]
                refine kn_aload_n hC dX11_block_68 rfl rfl ?_
                refine kg0_desk hC (by first | exact rfl | with_reducible assumption) wfX11_28 dX11_block_69 ?_
                refine kg9_memory hC (by first | exact rfl | with_reducible assumption) wfX11_177 dX11_block_72 ?_
                refine kg15_holders hC (by first | exact rfl | with_reducible assumption) wfX11_233 dX11_block_75 ?_
                refine kn_iload_n hC dX11_block_78 rfl rfl ?_
                refine kc_iald hC (by first | exact rfl | with_reducible assumption) (fun _ => rfl) (by first | exact vp_in_nI (by omega) (by decide) | with_reducible assumption) dX11_block_79 ?_
                rw [nI_clamp (by omega), f4]
                refine kn_iret hC dX11_block_80 ?_
                exact ⟨rfl, rfl, rfl⟩
              · rw [if_pos h]
                refine kn_aload_n hC dX11_block_53 rfl rfl ?_
                refine kg0_desk hC (by first | exact rfl | with_reducible assumption) wfX11_28 dX11_block_54 ?_
                refine kg9_memory hC (by first | exact rfl | with_reducible assumption) wfX11_177 dX11_block_57 ?_
                refine kg15_sizes hC (by first | exact rfl | with_reducible assumption) wfX11_230 dX11_block_60 ?_
                refine kn_iload_n hC dX11_block_63 rfl rfl ?_
                refine kc_iald hC (by first | exact rfl | with_reducible assumption) (fun _ => rfl) (by first | exact vp_in_nI (by omega) (by decide) | with_reducible assumption) dX11_block_64 ?_
                rw [nI_clamp (by omega), f3]
                refine kn_goto (tgt := 80) hC dX11_block_65 (by decide) ?_
                refine kn_iret hC dX11_block_80 ?_
                exact ⟨rfl, rfl, rfl⟩
            · rw [if_pos h]
              refine kn_iload_n hC dX11_block_46 rfl rfl ?_
              refine kn_iret hC dX11_block_47 ?_
              exact ⟨rfl, rfl, rfl⟩
          · exact bad _ (fun z => h z.2.2)
  · refine kn_istore_n hC dX11_block_11 rfl (Nat.le_of_ble_eq_true rfl) ?_
    refine kn_iload_n hC dX11_block_12 rfl rfl ?_
    refine kn_if_lt (tgt := 32) hC dX11_block_13 (by decide) (fun h => ?_) (fun h => ?_)
    · exact bad _ (fun z => hn (by obtain ⟨k, hk, e5⟩ := nI_of3 z.1.1 (by omega) z.1.2; exact ⟨k, hk, e5⟩))
    · exact absurd (by decide) h
theorem cp_semaphore (hl : l.stackTraces = false) (hT : ∀ U H, Ex U H → xT (cw_A ad) U H) (d : Nat) (x w : Int32) (M : n_M) (σ : n_S) (hM : RepC M σ) : k_Ct l (cw D ca ad ae Ex) (d + 6) yX11_semaphore cX11_semaphore 3 (some .int) [.ref (ad 0 0), .int x, .int w] σ (fun rv σ' => (u_sem M x w).1 = 0 ∧ rv = some (.int (u_sem M x w).2) ∧ σ' = σ) (fun E σ' => (u_sem M x w).1 = 1 ∧ E = "java/lang/IndexOutOfBoundsException" ∧ σ' = σ) := by
  refine k_ofW (by decide) (Nat.le_of_ble_eq_true rfl) ?_
  intro p e s m below meth c hC hexc
  have bad : ¬ ((¬ x < 0 ∧ x < 8) ∧ ¬ w < 0 ∧ (w ≤ 1 ∨ w - 2 < nI (M.2 5 (x.toNatClampNeg + 3)).length)) → k_W p l e s m [Value.ref (ad 0 0), Value.int x, Value.int w].toArray below meth c (cw D ca ad ae Ex) (d + 6) (fun rv σ' => (u_sem M x w).1 = 0 ∧ rv = some (.int (u_sem M x w).2) ∧ σ' = σ) (fun E σ' => (u_sem M x w).1 = 1 ∧ E = "java/lang/IndexOutOfBoundsException" ∧ σ' = σ) 32 [some (.ref (ad 0 0)), some (.int x), some (.int w)] [] σ := by
    intro hb
    have ee : u_sem M x w = (1, 0) := if_neg hb
    rw [ee]
    refine kn_thr hC hl hexc hT (by omega) (ik := 61) (ic := 65) (is := 239) (cls := "java/lang/IndexOutOfBoundsException") (text := "no such semaphore or what") (by decide) (by decide) (Nat.le_of_ble_eq_true rfl) dX11_semaphore_32 dX11_semaphore_35 dX11_semaphore_36 dX11_semaphore_38 dX11_semaphore_41 ?_
    exact ⟨rfl, rfl, rfl⟩
  refine kn_iload_n hC dX11_semaphore_0 rfl rfl ?_
  refine kn_if_lt (tgt := 32) hC dX11_semaphore_1 (by decide) (fun h => ?_) (fun h => ?_)
  · exact bad (fun z => z.1.1 h)
  · have hx0 := h
    clear h
    refine kn_iload_n hC dX11_semaphore_4 rfl rfl ?_
    refine kn_bipush (v := 8) hC dX11_semaphore_5 (by decide) ?_
    refine kn_icmp_ge (tgt := 32) hC dX11_semaphore_7 (by decide) (fun h => ?_) (fun h => ?_)
    · exact bad (fun z => absurd z.1.2 (Int32.not_lt.mpr h))
    · have hx3 := Int32.not_le.mp h
      clear h
      obtain ⟨k, hk, rfl⟩ := nI_of3 (n := 8) hx0 (by omega) hx3
      have hv : m_vL 5 (k + 3) := by show k + 3 < 11; omega
      obtain ⟨h1, e1, h3⟩ := hM.2 5 (k + 3) hv
      have h1 : (M.2 5 (k + 3)).length ≤ 12 := h1
      have e1 : σ 31 (k + 3) 1 = nI (M.2 5 (k + 3)).length := e1
      have ecl : (nI k).toNatClampNeg = k := nI_clamp (by omega)
      have hd1 : cw_dom 31 (k + 3) := hv
      have hd2 : cw_dom 32 (k + 3) := hv
      refine kn_iload_n hC dX11_semaphore_10 rfl rfl ?_
      refine kn_if_lt (tgt := 32) hC dX11_semaphore_11 (by decide) (fun h => ?_) (fun h => ?_)
      · exact bad (fun z => z.2.1 h)
      · have h0 := h
        clear h
        obtain ⟨j, hj31, rfl⟩ := nI_of h0
        refine kn_iload_n hC dX11_semaphore_14 rfl rfl ?_
        refine kn_iconst (v := 2) hC dX11_semaphore_15 (by decide) ?_
        refine kn_isub hC dX11_semaphore_16 ?_
        refine kn_aload_n hC dX11_semaphore_17 rfl rfl ?_
        refine kg0_desk hC (by first | exact rfl | with_reducible assumption) wfX11_28 dX11_semaphore_18 ?_
        refine kg9_queues hC (by first | exact rfl | with_reducible assumption) wfX11_236 dX11_semaphore_21 ?_
        refine kn_iload_n hC dX11_semaphore_24 rfl rfl ?_
        first | refine ka_rows hC (by omega) dX11_semaphore_25 ?_ | refine ka_queues hC (by omega) dX11_semaphore_25 ?_ | refine ka_procs hC (by omega) dX11_semaphore_25 ?_ | refine ka_progs hC (by omega) dX11_semaphore_25 ?_
        refine kg31_size hC (by first | exact rfl | with_reducible assumption) wfX11_212 dX11_semaphore_26 ?_
        rw [e1]
        refine kn_icmp_lt (tgt := 42) hC dX11_semaphore_29 (by decide) (fun h => ?_) (fun h => ?_)
        · have ee : u_sem M (nI k) (nI j) = (0, if nI j = 0 then M.1 9 k else if nI j = 1 then nI (M.2 5 (k + 3)).length else (M.2 5 (k + 3)).getD (nI j - 2).toNatClampNeg 0) := by
            unfold u_sem
            rw [ecl, if_pos ⟨⟨hx0, hx3⟩, h0, Or.inr h⟩]
          rw [ee]
          have hA := h
          clear bad h
          refine kn_iload_n hC dX11_semaphore_42 rfl rfl ?_
          refine kn_if_ne (tgt := 56) hC dX11_semaphore_43 (by decide) (fun h => ?_) (fun h => ?_)
          · have hw0 := h
            rw [if_neg h]
            clear h
            refine kn_iload_n hC dX11_semaphore_56 rfl rfl ?_
            refine kn_iconst (v := 1) hC dX11_semaphore_57 (by decide) ?_
            refine kn_icmp_ne (tgt := 76) hC dX11_semaphore_58 (by decide) (fun h => ?_) (fun h => ?_)
            · rw [if_neg h]
              have hj0 : j ≠ 0 := fun z => hw0 (by rw [z]; rfl)
              have hj1 : j ≠ 1 := fun z => h (by rw [z]; rfl)
              clear h
              have e2 : nI j - 2 = nI (j - 2) := nI_subL (b := 2) (by omega)
              rw [e2] at hA
              have hj : j - 2 < (M.2 5 (k + 3)).length := (nI_ltI (by omega) (by omega)).mp hA
              refine kn_aload_n hC dX11_semaphore_76 rfl rfl ?_
              refine kg0_desk hC (by first | exact rfl | with_reducible assumption) wfX11_28 dX11_semaphore_77 ?_
              refine kg9_queues hC (by first | exact rfl | with_reducible assumption) wfX11_236 dX11_semaphore_80 ?_
              refine kn_iload_n hC dX11_semaphore_83 rfl rfl ?_
              first | refine ka_rows hC (by omega) dX11_semaphore_84 ?_ | refine ka_queues hC (by omega) dX11_semaphore_84 ?_ | refine ka_procs hC (by omega) dX11_semaphore_84 ?_ | refine ka_progs hC (by omega) dX11_semaphore_84 ?_
              refine kg31_members hC (by first | exact rfl | with_reducible assumption) wfX11_217 dX11_semaphore_85 ?_
              refine kn_iload_n hC dX11_semaphore_88 rfl rfl ?_
              refine kn_iconst (v := 2) hC dX11_semaphore_89 (by decide) ?_
              refine kn_isub hC dX11_semaphore_90 ?_
              rw [e2]
              refine kc_iald hC (by first | exact rfl | with_reducible assumption) (fun _ => rfl) (by first | exact vp_in_nI (by omega) (by decide) | with_reducible assumption) dX11_semaphore_91 ?_
              rw [nI_clamp (by omega), show σ 32 (k + 3) (j - 2) = (M.2 5 (k + 3)).getD (j - 2) 0 from h3 _ hj]
              refine kn_iret hC dX11_semaphore_92 ?_
              exact ⟨rfl, rfl, rfl⟩
            · rw [if_pos h]
              refine kn_aload_n hC dX11_semaphore_61 rfl rfl ?_
              refine kg0_desk hC (by first | exact rfl | with_reducible assumption) wfX11_28 dX11_semaphore_62 ?_
              refine kg9_queues hC (by first | exact rfl | with_reducible assumption) wfX11_236 dX11_semaphore_65 ?_
              refine kn_iload_n hC dX11_semaphore_68 rfl rfl ?_
              first | refine ka_rows hC (by omega) dX11_semaphore_69 ?_ | refine ka_queues hC (by omega) dX11_semaphore_69 ?_ | refine ka_procs hC (by omega) dX11_semaphore_69 ?_ | refine ka_progs hC (by omega) dX11_semaphore_69 ?_
              refine kg31_size hC (by first | exact rfl | with_reducible assumption) wfX11_212 dX11_semaphore_70 ?_
              rw [e1]
              refine kn_goto (tgt := 92) hC dX11_semaphore_73 (by decide) ?_
              refine kn_iret hC dX11_semaphore_92 ?_
              exact ⟨rfl, rfl, rfl⟩
          · rw [if_pos h]
            refine kn_aload_n hC dX11_semaphore_46 rfl rfl ?_
            refine kg0_desk hC (by first | exact rfl | with_reducible assumption) wfX11_28 dX11_semaphore_47 ?_
            refine kg9_values hC (by first | exact rfl | with_reducible assumption) wfX11_241 dX11_semaphore_50 ?_
            refine kn_iload_n hC dX11_semaphore_53 rfl rfl ?_
            refine kc_iald hC (by first | exact rfl | with_reducible assumption) (fun _ => rfl) (by first | exact vp_in_nI (by omega) (by decide) | with_reducible assumption) dX11_semaphore_54 ?_
            rw [ecl, show σ 14 0 k = M.1 9 k from hM.1 9 k hk]
            refine kn_iret hC dX11_semaphore_55 ?_
            exact ⟨rfl, rfl, rfl⟩
        · refine bad (fun z => ?_)
          rw [ecl] at z
          rcases z.2.2 with z2 | z2
          · have hj := (nI_leI (b := 1) hj31 (by omega)).mp z2
            rcases (show j = 0 ∨ j = 1 by omega) with rfl | rfl
            · exact h (Int32.lt_of_lt_of_le (show nI 0 - 2 < 0 by decide) (nI_pos' (by omega)))
            · exact h (Int32.lt_of_lt_of_le (show nI 1 - 2 < 0 by decide) (nI_pos' (by omega)))
          · exact h z2
theorem cp_state (hl : l.stackTraces = false) (hT : ∀ U H, Ex U H → xT (cw_A ad) U H) (d : Nat) (x w : Int32) (M : n_M) (σ : n_S) (hM : RepC M σ) (hB : IB M) : k_Ct l (cw D ca ad ae Ex) (d + 6) yX11_state cX11_state 4 (some .int) [.ref (ad 0 0), .int x, .int w] σ (fun rv σ' => (u_state M x w).1 = 0 ∧ rv = some (.int (u_state M x w).2) ∧ σ' = σ) (fun E σ' => (u_state M x w).1 = 1 ∧ E = "java/lang/IndexOutOfBoundsException" ∧ σ' = σ) := by
  refine k_ofW (by decide) (Nat.le_of_ble_eq_true rfl) ?_
  intro p e s m below meth c hC hexc
  have bad : ∀ y : Option Value, ¬ ((¬ x < 1 ∧ ¬ 12 < x) ∧ ¬ w < 0 ∧ w ≤ 12) → k_W p l e s m [Value.ref (ad 0 0), Value.int x, Value.int w].toArray below meth c (cw D ca ad ae Ex) (d + 6) (fun rv σ' => (u_state M x w).1 = 0 ∧ rv = some (.int (u_state M x w).2) ∧ σ' = σ) (fun E σ' => (u_state M x w).1 = 1 ∧ E = "java/lang/IndexOutOfBoundsException" ∧ σ' = σ) 23 [some (.ref (ad 0 0)), some (.int x), some (.int w), y] [] σ := by
    intro y hb
    have ee : u_state M x w = (1, 0) := if_neg hb
    rw [ee]
    refine kn_thr hC hl hexc hT (by omega) (ik := 61) (ic := 65) (is := 157) (cls := "java/lang/IndexOutOfBoundsException") (text := "no such process or what") (by decide) (by decide) (Nat.le_of_ble_eq_true rfl) dX11_state_23 dX11_state_26 dX11_state_27 dX11_state_29 dX11_state_32 ?_
    exact ⟨rfl, rfl, rfl⟩
  refine kn_aload_n hC dX11_state_0 rfl rfl ?_
  refine kg0_desk hC (by first | exact rfl | with_reducible assumption) wfX11_28 dX11_state_1 ?_
  refine kn_iload_n hC dX11_state_4 rfl rfl ?_
  refine kn_callV hC (c_find (d + 5) x σ) (Nat.le_refl _) (by decide) (by first | exact rfl | with_reducible assumption) rfl rfl rfl ⟨wmX11_106, wi_yX2_find, wv_yX2_find, wzX2, wc_yX2_find⟩ hy_yX2_find rfl (Nat.le_of_ble_eq_true rfl) dX11_state_5 (fun rv σ' hpo => ?_)
  obtain ⟨hpo, hσ⟩ := hpo
  rw [hσ]
  rcases hpo with ⟨q, hq, rfl, rfl⟩ | ⟨hn, rfl⟩
  · have hv : n_V q := hq
    have hd1 : cw_dom 21 q := hq
    have hd2 : cw_dom 24 (2 * q) := by
      show 2 ≤ 2 * q ∧ 2 * q ≤ 25
      omega
    have hd3 : cw_dom 24 (2 * q + 1) := by
      show 2 ≤ 2 * q + 1 ∧ 2 * q + 1 ≤ 25
      omega
    have ecl : (nI q).toNatClampNeg = q := nI_clamp (by omega)
    first | refine kn_astore_n hC dX11_state_8 rfl (Nat.le_of_ble_eq_true rfl) ?_ | refine kn_astore_nN hC dX11_state_8 rfl (Nat.le_of_ble_eq_true rfl) ?_
    refine kn_aload_n hC dX11_state_9 rfl rfl ?_
    first | refine kn_ifnull hC dX11_state_10 ?_ | refine kn_ifnullN (tgt := 23) hC dX11_state_10 (by decide) ?_
    refine kn_iload_n hC dX11_state_13 rfl rfl ?_
    refine kn_if_lt (tgt := 23) hC dX11_state_14 (by decide) (fun h => ?_) (fun h => ?_)
    · exact bad _ (fun z => z.2.1 h)
    · have h0 := h
      clear h
      refine kn_iload_n hC dX11_state_17 rfl rfl ?_
      refine kn_bipush (v := 12) hC dX11_state_18 (by decide) ?_
      refine kn_icmp_le (tgt := 33) hC dX11_state_20 (by decide) (fun h => ?_) (fun h => ?_)
      · obtain ⟨j, hj, rfl⟩ := nI_of2 (M := 12) (n := 12) rfl h0 h
        have ee : u_state M (nI q) (nI j) = (0, u_stv M q j) := by
          unfold u_state
          rw [ecl, if_pos ⟨pq_lo hv, h0, h⟩, nI_clamp (by omega)]
        rw [ee]
        clear bad h h0
        refine kn_iload_n hC dX11_state_33 rfl rfl ?_
        rcases (show j = 0 ∨ j = 1 ∨ j = 2 ∨ j = 3 ∨ j = 4 ∨ j = 5 ∨ j = 6 ∨ j = 7 ∨ j = 8 ∨ j = 9 ∨ j = 10 ∨ j = 11 ∨ j = 12 by omega) with rfl | rfl | rfl | rfl | rfl | rfl | rfl | rfl | rfl | rfl | rfl | rfl | rfl
        · refine kn_tableIn (off := 62) (tgt := 96) hC dX11_state_34 (by decide) (by decide) (by decide) (by decide) ?_
          refine kn_aload_n hC dX11_state_96 rfl rfl ?_
          refine kg21_status hC (by first | exact rfl | with_reducible assumption) wfX11_120 dX11_state_97 ?_
          rw [show σ 21 q 7 = M.1 0 q from hM.1 0 q hq]
          refine kn_iret hC dX11_state_100 ?_
          exact ⟨rfl, rfl, rfl⟩
        · refine kn_tableIn (off := 67) (tgt := 101) hC dX11_state_34 (by decide) (by decide) (by decide) (by decide) ?_
          refine kn_aload_n hC dX11_state_101 rfl rfl ?_
          refine kg21_code hC (by first | exact rfl | with_reducible assumption) wfX11_131 dX11_state_102 ?_
          rw [show σ 21 q 8 = M.1 1 q from hM.1 1 q hq]
          refine kn_iret hC dX11_state_105 ?_
          exact ⟨rfl, rfl, rfl⟩
        · refine kn_tableIn (off := 72) (tgt := 106) hC dX11_state_34 (by decide) (by decide) (by decide) (by decide) ?_
          refine kn_aload_n hC dX11_state_106 rfl rfl ?_
          refine kg21_level hC (by first | exact rfl | with_reducible assumption) wfX11_159 dX11_state_107 ?_
          rw [show σ 21 q 9 = M.1 2 q from hM.1 2 q hq]
          refine kn_iret hC dX11_state_110 ?_
          exact ⟨rfl, rfl, rfl⟩
        · refine kn_tableIn (off := 77) (tgt := 111) hC dX11_state_34 (by decide) (by decide) (by decide) (by decide) ?_
          refine kn_aload_n hC dX11_state_111 rfl rfl ?_
          refine kg21_parent hC (by first | exact rfl | with_reducible assumption) wfX11_123 dX11_state_112 ?_
          rw [show σ 21 q 10 = M.1 3 q from hM.1 3 q hq]
          refine kn_iret hC dX11_state_115 ?_
          exact ⟨rfl, rfl, rfl⟩
        · refine kn_tableIn (off := 82) (tgt := 116) hC dX11_state_34 (by decide) (by decide) (by decide) (by decide) ?_
          refine kn_aload_n hC dX11_state_116 rfl rfl ?_
          refine kg21_next hC (by first | exact rfl | with_reducible assumption) wfX11_162 dX11_state_117 ?_
          rw [show σ 21 q 12 = M.1 5 q from hM.1 5 q hq]
          refine kn_iret hC dX11_state_120 ?_
          exact ⟨rfl, rfl, rfl⟩
        · refine kn_tableIn (off := 87) (tgt := 121) hC dX11_state_34 (by decide) (by decide) (by decide) (by decide) ?_
          refine kn_aload_n hC dX11_state_121 rfl rfl ?_
          refine kg21_depth hC (by first | exact rfl | with_reducible assumption) wfX11_165 dX11_state_122 ?_
          rw [show σ 21 q 5 = nI (M.2 0 q).length from (hM.2 0 q hq).2.1]
          refine kn_iret hC dX11_state_125 ?_
          exact ⟨rfl, rfl, rfl⟩
        · refine kn_tableIn (off := 92) (tgt := 126) hC dX11_state_34 (by decide) (by decide) (by decide) (by decide) ?_
          refine kn_aload_n hC dX11_state_126 rfl rfl ?_
          refine kg21_returnDepth hC (by first | exact rfl | with_reducible assumption) wfX11_168 dX11_state_127 ?_
          rw [show σ 21 q 6 = nI (M.2 1 q).length from (hM.2 1 q hq).2.1]
          refine kn_iret hC dX11_state_130 ?_
          exact ⟨rfl, rfl, rfl⟩
        · refine kn_tableIn (off := 97) (tgt := 131) hC dX11_state_34 (by decide) (by decide) (by decide) (by decide) ?_
          refine kn_aload_n hC dX11_state_131 rfl rfl ?_
          refine kg21_box hC (by first | exact rfl | with_reducible assumption) wfX11_171 dX11_state_132 ?_
          refine kg24_size hC (by first | exact rfl | with_reducible assumption) wfX11_174 dX11_state_135 ?_
          rw [show σ 24 (2 * q) 2 = nI (M.2 2 (2 * q)).length from (hM.2 2 (2 * q) hd2).2.1]
          refine kn_iret hC dX11_state_138 ?_
          exact ⟨rfl, rfl, rfl⟩
        · refine kn_tableIn (off := 105) (tgt := 139) hC dX11_state_34 (by decide) (by decide) (by decide) (by decide) ?_
          refine kn_aload_n hC dX11_state_139 rfl rfl ?_
          refine kg21_keys hC (by first | exact rfl | with_reducible assumption) wfX11_139 dX11_state_140 ?_
          refine kg24_size hC (by first | exact rfl | with_reducible assumption) wfX11_174 dX11_state_143 ?_
          rw [show σ 24 (2 * q + 1) 2 = nI (M.2 2 (2 * q + 1)).length from (hM.2 2 (2 * q + 1) hd3).2.1]
          refine kn_iret hC dX11_state_146 ?_
          exact ⟨rfl, rfl, rfl⟩
        · refine kn_tableIn (off := 113) (tgt := 147) hC dX11_state_34 (by decide) (by decide) (by decide) (by decide) ?_
          refine kn_aload_n hC dX11_state_147 rfl rfl ?_
          refine kg0_desk hC (by first | exact rfl | with_reducible assumption) wfX11_28 dX11_state_148 ?_
          refine kg9_memory hC (by first | exact rfl | with_reducible assumption) wfX11_177 dX11_state_151 ?_
          refine kn_iload_n hC dX11_state_154 rfl rfl ?_
          refine kn_callV hC (c_cellsOf (d + 4) (nI q) (m_nsl M) (M.2 11 0) M σ hM hB) (Nat.le_refl _) (by decide) (by first | exact rfl | with_reducible assumption) rfl rfl rfl ⟨wmX11_181, wi_yX3_cellsOf, wv_yX3_cellsOf, wzX3, wc_yX3_cellsOf⟩ hy_yX3_cellsOf rfl (Nat.le_of_ble_eq_true rfl) dX11_state_155 (fun rv σ' hpo => ?_)
          obtain ⟨rfl, hσ⟩ := hpo
          rw [hσ]
          refine kn_iret hC dX11_state_158 ?_
          exact ⟨rfl, rfl, rfl⟩
        · refine kn_tableIn (off := 125) (tgt := 159) hC dX11_state_34 (by decide) (by decide) (by decide) (by decide) ?_
          refine kn_aload_n hC dX11_state_159 rfl rfl ?_
          refine kg21_done hC (by first | exact rfl | with_reducible assumption) wfX11_187 dX11_state_160 ?_
          rw [show σ 21 q 13 = M.1 6 q from hM.1 6 q hq]
          refine kn_iret hC dX11_state_163 ?_
          exact ⟨rfl, rfl, rfl⟩
        · refine kn_tableIn (off := 130) (tgt := 164) hC dX11_state_34 (by decide) (by decide) (by decide) (by decide) ?_
          refine kn_aload_n hC dX11_state_164 rfl rfl ?_
          refine kg21_awaited hC (by first | exact rfl | with_reducible assumption) wfX11_190 dX11_state_165 ?_
          rw [show σ 21 q 15 = M.1 7 q from hM.1 7 q hq]
          refine kn_iret hC dX11_state_168 ?_
          exact ⟨rfl, rfl, rfl⟩
        · refine kn_tableOut (tgt := 169) hC dX11_state_34 (by decide) (by decide) ?_
          refine kn_aload_n hC dX11_state_169 rfl rfl ?_
          refine kg21_streak hC (by first | exact rfl | with_reducible assumption) wfX11_193 dX11_state_170 ?_
          rw [show σ 21 q 14 = M.1 8 q from hM.1 8 q hq]
          refine kn_iret hC dX11_state_173 ?_
          exact ⟨rfl, rfl, rfl⟩
      · exact bad _ (fun z => h z.2.2)
  · first | refine kn_astore_n hC dX11_state_8 rfl (Nat.le_of_ble_eq_true rfl) ?_ | refine kn_astore_nN hC dX11_state_8 rfl (Nat.le_of_ble_eq_true rfl) ?_
    first | refine kn_aload_n hC dX11_state_9 rfl rfl ?_ | refine kn_aload_nN hC dX11_state_9 rfl rfl ?_
    first | refine kn_ifnull hC dX11_state_10 ?_ | refine kn_ifnullN (tgt := 23) hC dX11_state_10 (by decide) ?_
    exact bad _ (fun z => hn ⟨Int32.not_lt.mp z.1.1, Int32.not_lt.mp z.1.2⟩)
theorem cp_count (hl : l.stackTraces = false) (hT : ∀ U H, Ex U H → xT (cw_A ad) U H) (d : Nat) (w : Int32) (M : n_M) (σ : n_S) (hM : RepC M σ) (hB : IB M) : k_Ct l (cw D ca ad ae Ex) (d + 6) yX11_count cX11_count 2 (some .int) [.ref (ad 0 0), .int w] σ (fun rv σ' => (u_count M w).1 = 0 ∧ rv = some (.int (u_count M w).2) ∧ σ' = σ) (fun E σ' => (u_count M w).1 = 1 ∧ E = "java/lang/IndexOutOfBoundsException" ∧ σ' = σ) := by
  refine k_ofW (by decide) (Nat.le_of_ble_eq_true rfl) ?_
  intro p e s m below meth c hC hexc
  have bad : ¬ (¬ w < 0 ∧ w ≤ 10) → k_W p l e s m [Value.ref (ad 0 0), Value.int w].toArray below meth c (cw D ca ad ae Ex) (d + 6) (fun rv σ' => (u_count M w).1 = 0 ∧ rv = some (.int (u_count M w).2) ∧ σ' = σ) (fun E σ' => (u_count M w).1 = 1 ∧ E = "java/lang/IndexOutOfBoundsException" ∧ σ' = σ) 10 [some (.ref (ad 0 0)), some (.int w)] [] σ := by
    intro hb
    have ee : u_count M w = (1, 0) := if_neg hb
    rw [ee]
    refine kn_thr hC hl hexc hT (by omega) (ik := 61) (ic := 65) (is := 252) (cls := "java/lang/IndexOutOfBoundsException") (text := "no such what") (by decide) (by decide) (Nat.le_of_ble_eq_true rfl) dX11_count_10 dX11_count_13 dX11_count_14 dX11_count_16 dX11_count_19 ?_
    exact ⟨rfl, rfl, rfl⟩
  refine kn_iload_n hC dX11_count_0 rfl rfl ?_
  refine kn_if_lt (tgt := 10) hC dX11_count_1 (by decide) (fun h => ?_) (fun h => ?_)
  · exact bad (fun z => z.1 h)
  · have h0 := h
    clear h
    refine kn_iload_n hC dX11_count_4 rfl rfl ?_
    refine kn_bipush (v := 10) hC dX11_count_5 (by decide) ?_
    refine kn_icmp_le (tgt := 20) hC dX11_count_7 (by decide) (fun h => ?_) (fun h => ?_)
    · obtain ⟨j, hj, rfl⟩ := nI_of2 (M := 10) (n := 10) rfl h0 h
      have ee : u_count M (nI j) = (0, u_cnv M j) := by
        unfold u_count
        rw [if_pos ⟨h0, h⟩, nI_clamp (by omega)]
      rw [ee]
      clear bad h h0
      refine kn_iload_n hC dX11_count_20 rfl rfl ?_
      rcases (show j = 0 ∨ j = 1 ∨ j = 2 ∨ j = 3 ∨ j = 4 ∨ j = 5 ∨ j = 6 ∨ j = 7 ∨ j = 8 ∨ j = 9 ∨ j = 10 by omega) with rfl | rfl | rfl | rfl | rfl | rfl | rfl | rfl | rfl | rfl | rfl
      · refine kn_tableIn (off := 55) (tgt := 76) hC dX11_count_21 (by decide) (by decide) (by decide) (by decide) ?_
        refine kn_aload_n hC dX11_count_76 rfl rfl ?_
        refine kg0_desk hC (by first | exact rfl | with_reducible assumption) wfX11_28 dX11_count_77 ?_
        refine kg9_clock hC (by first | exact rfl | with_reducible assumption) wfX11_254 dX11_count_80 ?_
        rw [show σ 9 0 9 = M.1 15 0 from hM.1 15 0 rfl]
        refine kn_iret hC dX11_count_83 ?_
        exact ⟨rfl, rfl, rfl⟩
      · refine kn_tableIn (off := 63) (tgt := 84) hC dX11_count_21 (by decide) (by decide) (by decide) (by decide) ?_
        refine kn_aload_n hC dX11_count_84 rfl rfl ?_
        refine kg0_desk hC (by first | exact rfl | with_reducible assumption) wfX11_28 dX11_count_85 ?_
        refine kg9_shown hC (by first | exact rfl | with_reducible assumption) wfX11_244 dX11_count_88 ?_
        rw [show σ 9 0 7 = nI (M.2 7 0).length from (hM.2 7 0 rfl).2.1]
        refine kn_iret hC dX11_count_91 ?_
        exact ⟨rfl, rfl, rfl⟩
      · refine kn_tableIn (off := 71) (tgt := 92) hC dX11_count_21 (by decide) (by decide) (by decide) (by decide) ?_
        refine kn_aload_n hC dX11_count_92 rfl rfl ?_
        refine kg0_desk hC (by first | exact rfl | with_reducible assumption) wfX11_28 dX11_count_93 ?_
        refine kg9_lost hC (by first | exact rfl | with_reducible assumption) wfX11_257 dX11_count_96 ?_
        rw [show σ 9 0 8 = M.1 18 0 from hM.1 18 0 rfl]
        refine kn_iret hC dX11_count_99 ?_
        exact ⟨rfl, rfl, rfl⟩
      · refine kn_tableIn (off := 79) (tgt := 100) hC dX11_count_21 (by decide) (by decide) (by decide) (by decide) ?_
        refine kn_aload_n hC dX11_count_100 rfl rfl ?_
        refine kg0_desk hC (by first | exact rfl | with_reducible assumption) wfX11_28 dX11_count_101 ?_
        refine kg9_memory hC (by first | exact rfl | with_reducible assumption) wfX11_177 dX11_count_104 ?_
        refine kn_iconst (v := 0) hC dX11_count_107 (by decide) ?_
        refine kn_callV hC (c_cellsOf (d + 4) 0 (m_nsl M) (M.2 11 0) M σ hM hB) (Nat.le_refl _) (by decide) (by first | exact rfl | with_reducible assumption) rfl rfl rfl ⟨wmX11_181, wi_yX3_cellsOf, wv_yX3_cellsOf, wzX3, wc_yX3_cellsOf⟩ hy_yX3_cellsOf rfl (Nat.le_of_ble_eq_true rfl) dX11_count_108 (fun rv σ' hpo => ?_)
        obtain ⟨rfl, hσ⟩ := hpo
        rw [hσ]
        refine kn_iret hC dX11_count_111 ?_
        exact ⟨rfl, rfl, rfl⟩
      · refine kn_tableIn (off := 91) (tgt := 112) hC dX11_count_21 (by decide) (by decide) (by decide) (by decide) ?_
        refine kn_aload_n hC dX11_count_112 rfl rfl ?_
        refine kg0_desk hC (by first | exact rfl | with_reducible assumption) wfX11_28 dX11_count_113 ?_
        refine kg9_memory hC (by first | exact rfl | with_reducible assumption) wfX11_177 dX11_count_116 ?_
        refine kn_callV hC (c_blocks (d + 4) (m_nsl M) (M.2 11 0) M σ hM hB) (Nat.le_refl _) (by decide) (by first | exact rfl | with_reducible assumption) rfl rfl rfl ⟨wmX11_260, wi_yX3_blocks, wv_yX3_blocks, wzX3, wc_yX3_blocks⟩ hy_yX3_blocks rfl (Nat.le_of_ble_eq_true rfl) dX11_count_119 (fun rv σ' hpo => ?_)
        obtain ⟨rfl, hσ⟩ := hpo
        rw [hσ]
        refine kn_iret hC dX11_count_122 ?_
        exact ⟨rfl, rfl, rfl⟩
      · refine kn_tableIn (off := 102) (tgt := 123) hC dX11_count_21 (by decide) (by decide) (by decide) (by decide) ?_
        refine kn_aload_n hC dX11_count_123 rfl rfl ?_
        refine kg0_desk hC (by first | exact rfl | with_reducible assumption) wfX11_28 dX11_count_124 ?_
        refine kn_iconst (v := 1) hC dX11_count_127 (by decide) ?_
        refine kn_bipush (v := 6) hC dX11_count_128 (by decide) ?_
        refine kn_callV hC (c_countFrom (d + 5) 1 6 M σ hM) (Nat.le_refl _) (by decide) (by first | exact rfl | with_reducible assumption) rfl rfl rfl ⟨wmX11_263, wi_yX2_countFrom, wv_yX2_countFrom, wzX2, wc_yX2_countFrom⟩ hy_yX2_countFrom rfl (Nat.le_of_ble_eq_true rfl) dX11_count_130 (fun rv σ' hpo => ?_)
        obtain ⟨rfl, hσ⟩ := hpo
        rw [hσ]
        refine kn_iret hC dX11_count_133 ?_
        exact ⟨rfl, rfl, rfl⟩
      · refine kn_tableIn (off := 113) (tgt := 134) hC dX11_count_21 (by decide) (by decide) (by decide) (by decide) ?_
        refine kn_aload_n hC dX11_count_134 rfl rfl ?_
        refine kg0_desk hC (by first | exact rfl | with_reducible assumption) wfX11_28 dX11_count_135 ?_
        refine kn_iconst (v := 1) hC dX11_count_138 (by decide) ?_
        refine kn_iconst (v := 1) hC dX11_count_139 (by decide) ?_
        refine kn_callV hC (c_countFrom (d + 5) 1 1 M σ hM) (Nat.le_refl _) (by decide) (by first | exact rfl | with_reducible assumption) rfl rfl rfl ⟨wmX11_263, wi_yX2_countFrom, wv_yX2_countFrom, wzX2, wc_yX2_countFrom⟩ hy_yX2_countFrom rfl (Nat.le_of_ble_eq_true rfl) dX11_count_140 (fun rv σ' hpo => ?_)
        obtain ⟨rfl, hσ⟩ := hpo
        rw [hσ]
        refine kn_iret hC dX11_count_143 ?_
        exact ⟨rfl, rfl, rfl⟩
      · refine kn_tableIn (off := 123) (tgt := 144) hC dX11_count_21 (by decide) (by decide) (by decide) (by decide) ?_
        refine kn_aload_n hC dX11_count_144 rfl rfl ?_
        refine kg0_desk hC (by first | exact rfl | with_reducible assumption) wfX11_28 dX11_count_145 ?_
        refine kn_bipush (v := 7) hC dX11_count_148 (by decide) ?_
        refine kn_bipush (v := 7) hC dX11_count_150 (by decide) ?_
        refine kn_callV hC (c_countFrom (d + 5) 7 7 M σ hM) (Nat.le_refl _) (by decide) (by first | exact rfl | with_reducible assumption) rfl rfl rfl ⟨wmX11_263, wi_yX2_countFrom, wv_yX2_countFrom, wzX2, wc_yX2_countFrom⟩ hy_yX2_countFrom rfl (Nat.le_of_ble_eq_true rfl) dX11_count_152 (fun rv σ' hpo => ?_)
        obtain ⟨rfl, hσ⟩ := hpo
        rw [hσ]
        refine kn_iret hC dX11_count_155 ?_
        exact ⟨rfl, rfl, rfl⟩
      · refine kn_tableIn (off := 135) (tgt := 156) hC dX11_count_21 (by decide) (by decide) (by decide) (by decide) ?_
        refine kn_aload_n hC dX11_count_156 rfl rfl ?_
        refine kg0_desk hC (by first | exact rfl | with_reducible assumption) wfX11_28 dX11_count_157 ?_
        refine kn_callV hC (c_programsInUse (d + 5) M σ hM) (Nat.le_refl _) (by decide) (by first | exact rfl | with_reducible assumption) rfl rfl rfl ⟨wmX11_267, wi_yX2_programsInUse, wv_yX2_programsInUse, wzX2, wc_yX2_programsInUse⟩ hy_yX2_programsInUse rfl (Nat.le_of_ble_eq_true rfl) dX11_count_160 (fun rv σ' hpo => ?_)
        obtain ⟨rfl, hσ⟩ := hpo
        rw [hσ]
        refine kn_iret hC dX11_count_163 ?_
        exact ⟨rfl, rfl, rfl⟩
      · refine kn_tableIn (off := 143) (tgt := 164) hC dX11_count_21 (by decide) (by decide) (by decide) (by decide) ?_
        refine kn_aload_n hC dX11_count_164 rfl rfl ?_
        refine kg0_desk hC (by first | exact rfl | with_reducible assumption) wfX11_28 dX11_count_165 ?_
        refine kn_callV hC (c_instructionsInUse (d + 5) M σ hM) (Nat.le_refl _) (by decide) (by first | exact rfl | with_reducible assumption) rfl rfl rfl ⟨wmX11_270, wi_yX2_instructionsInUse, wv_yX2_instructionsInUse, wzX2, wc_yX2_instructionsInUse⟩ hy_yX2_instructionsInUse rfl (Nat.le_of_ble_eq_true rfl) dX11_count_168 (fun rv σ' hpo => ?_)
        obtain ⟨rfl, hσ⟩ := hpo
        rw [hσ]
        refine kn_iret hC dX11_count_171 ?_
        exact ⟨rfl, rfl, rfl⟩
      · refine kn_tableOut (tgt := 172) hC dX11_count_21 (by decide) (by decide) ?_
        refine kn_aload_n hC dX11_count_172 rfl rfl ?_
        refine kg0_tape hC (by first | exact rfl | with_reducible assumption) wfX11_10 dX11_count_173 ?_
        refine kg1_length hC (by first | exact rfl | with_reducible assumption) wfX11_41 dX11_count_176 ?_
        rw [show σ 1 0 1 = nI (M.2 8 0).length from (hM.2 8 0 rfl).2.1]
        refine kn_iret hC dX11_count_179 ?_
        exact ⟨rfl, rfl, rfl⟩
    · exact bad (fun z => h z.2)
end CP3
