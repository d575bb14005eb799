section CP1
variable {l : Launch} {D : va_G} {ca : Nat → ClassId} {ad : Nat → Nat → Nat} {ae : Nat → Nat} {ts : Nat} {Ex : State → Heap → Prop}
theorem cp_fault (d : Nat) (M : n_M) (σ : n_S) (hM : RepC M σ) : n_Ct l (cw D ca ad ae Ex) d yX11_fault cX11_fault 1 (some .int) [.ref (ad 0 0)] σ (fun rv σ' => rv = some (.int (M.1 17 0)) ∧ σ' = σ) := by
  have e1 : σ 3 0 9 = M.1 17 0 := hM.1 17 0 rfl
  refine n_ofW (by decide) (Nat.le_of_ble_eq_true rfl) ?_
  intro p e s m below meth c hC
  refine n_aload_n hC dX11_fault_0 rfl rfl ?_
  refine g0_reader hC (by first | exact rfl | with_reducible assumption) wfX11_21 dX11_fault_1 ?_
  refine g3_fault hC (by first | exact rfl | with_reducible assumption) wfX11_80 dX11_fault_4 ?_
  rw [e1]
  refine n_iret hC dX11_fault_7 ?_
  exact ⟨rfl, rfl⟩
theorem cp_tick (hX : ∀ U H, Ex U H → cE ad ae ts U H) (d : Nat) (M : n_M) (σ : n_S) (hM : RepC M σ) (hI : II M) (hclk : M.1 15 0 + 1 < 2147483647) : n_Ct l (cw D ca ad ae Ex) (d + 7) yX11_tick cX11_tick 1 (some .int) [.ref (ad 0 0)] σ (fun rv σ' => ∃ v M', m_tick M v M' ∧ rv = some (.int v) ∧ RepC M' σ') := by
  refine n_ofW (by decide) (Nat.le_of_ble_eq_true rfl) ?_
  intro p e s m below meth c hC
  refine n_aload_n hC dX11_tick_0 rfl rfl ?_
  refine g0_worker hC (by first | exact rfl | with_reducible assumption) wfX11_37 dX11_tick_1 ?_
  refine n_callV hC (c_advance hX d M σ hM hI hclk) (Nat.le_refl _) (by decide) (by first | exact rfl | with_reducible assumption) rfl rfl rfl ⟨wmX11_95, wi_yX10_advance, wv_yX10_advance, wzX10, wc_yX10_advance⟩ hy_yX10_advance rfl (Nat.le_of_ble_eq_true rfl) dX11_tick_4 (fun rv σ' hpo => ?_)
  obtain ⟨v, M', h1, rfl, h2⟩ := hpo
  refine n_iret hC dX11_tick_7 ?_
  exact ⟨v, M', h1, rfl, h2⟩
theorem cp_cell (hl : l.stackTraces = false) (hT : ∀ U H, Ex U H → xT (cw_A ad) U H) (d : Nat) (x : Int32) (M : n_M) (σ : n_S) (hM : RepC M σ) : k_Ct l (cw D ca ad ae Ex) (d + 6) yX11_cell cX11_cell 2 (some .int) [.ref (ad 0 0), .int x] σ (fun rv σ' => (u_cell M x).1 = 0 ∧ rv = some (.int (u_cell M x).2) ∧ σ' = σ) (fun E σ' => (u_cell M x).1 = 1 ∧ E = "java/lang/IndexOutOfBoundsException" ∧ σ' = σ) := by
  refine k_ofW (by decide) (Nat.le_of_ble_eq_true rfl) ?_
  intro p e s m below meth c hC hexc
  have bad : ¬ (¬ x < 0 ∧ x < 1024) → k_W p l e s m [Value.ref (ad 0 0), Value.int x].toArray below meth c (cw D ca ad ae Ex) (d + 6) (fun rv σ' => (u_cell M x).1 = 0 ∧ rv = some (.int (u_cell M x).2) ∧ σ' = σ) (fun E σ' => (u_cell M x).1 = 1 ∧ E = "java/lang/IndexOutOfBoundsException" ∧ σ' = σ) 11 [some (.ref (ad 0 0)), some (.int x)] [] σ := by
    intro hb
    have ee : u_cell M x = (1, 0) := if_neg hb
    rw [ee]
    refine kn_thr hC hl hexc hT (by omega) (ik := 61) (ic := 65) (is := 220) (cls := "java/lang/IndexOutOfBoundsException") (text := "no such cell") (by decide) (by decide) (Nat.le_of_ble_eq_true rfl) dX11_cell_11 dX11_cell_14 dX11_cell_15 dX11_cell_17 dX11_cell_20 ?_
    exact ⟨rfl, rfl, rfl⟩
  refine kn_iload_n hC dX11_cell_0 rfl rfl ?_
  refine kn_if_lt (tgt := 11) hC dX11_cell_1 (by decide) (fun h => ?_) (fun h => ?_)
  · exact bad (fun z => z.1 h)
  · have h0 := h
    clear h
    refine kn_iload_n hC dX11_cell_4 rfl rfl ?_
    refine kn_sipush (v := 1024) hC dX11_cell_5 (by decide) ?_
    refine kn_icmp_lt (tgt := 21) hC dX11_cell_8 (by decide) (fun h => ?_) (fun h => ?_)
    · obtain ⟨j, hj, rfl⟩ := nI_of3 (n := 1024) h0 (by omega) h
      have ee : u_cell M (nI j) = (0, M.1 10 j) := by
        unfold u_cell
        rw [if_pos ⟨h0, h⟩, nI_clamp (by omega)]
      rw [ee]
      clear bad
      refine kn_aload_n hC dX11_cell_21 rfl rfl ?_
      refine kg0_desk hC (by first | exact rfl | with_reducible assumption) wfX11_28 dX11_cell_22 ?_
      refine kg9_memory hC (by first | exact rfl | with_reducible assumption) wfX11_177 dX11_cell_25 ?_
      refine kg15_cells hC (by first | exact rfl | with_reducible assumption) wfX11_222 dX11_cell_28 ?_
      refine kn_iload_n hC dX11_cell_31 rfl rfl ?_
      refine kc_iald hC (by first | exact rfl | with_reducible assumption) (fun _ => rfl) (by first | exact vp_in_nI (by omega) (by decide) | with_reducible assumption) dX11_cell_32 ?_
      rw [nI_clamp (by omega), show σ 16 0 j = M.1 10 j from hM.1 10 j hj]
      refine kn_iret hC dX11_cell_33 ?_
      exact ⟨rfl, rfl, rfl⟩
    · exact bad (fun z => h z.2)
theorem cp_out (hl : l.stackTraces = false) (hT : ∀ U H, Ex U H → xT (cw_A ad) U H) (d : Nat) (x : Int32) (M : n_M) (σ : n_S) (hM : RepC M σ) : k_Ct l (cw D ca ad ae Ex) (d + 6) yX11_out cX11_out 2 (some .int) [.ref (ad 0 0), .int x] σ (fun rv σ' => (u_out M x).1 = 0 ∧ rv = some (.int (u_out M x).2) ∧ σ' = σ) (fun E σ' => (u_out M x).1 = 1 ∧ E = "java/lang/IndexOutOfBoundsException" ∧ σ' = σ) := by
  obtain ⟨h1, e1, h3⟩ := hM.2 7 0 rfl
  have h1 : (M.2 7 0).length ≤ 2000 := h1
  have e1 : σ 9 0 7 = nI (M.2 7 0).length := e1
  refine k_ofW (by decide) (Nat.le_of_ble_eq_true rfl) ?_
  intro p e s m below meth c hC hexc
  have bad : ¬ (¬ x < 0 ∧ x < nI (M.2 7 0).length) → k_W p l e s m [Value.ref (ad 0 0), Value.int x].toArray below meth c (cw D ca ad ae Ex) (d + 6) (fun rv σ' => (u_out M x).1 = 0 ∧ rv = some (.int (u_out M x).2) ∧ σ' = σ) (fun E σ' => (u_out M x).1 = 1 ∧ E = "java/lang/IndexOutOfBoundsException" ∧ σ' = σ) 15 [some (.ref (ad 0 0)), some (.int x)] [] σ := by
    intro hb
    have ee : u_out M x = (1, 0) := if_neg hb
    rw [ee]
    refine kn_thr hC hl hexc hT (by omega) (ik := 61) (ic := 65) (is := 247) (cls := "java/lang/IndexOutOfBoundsException") (text := "no such number") (by decide) (by decide) (Nat.le_of_ble_eq_true rfl) dX11_out_15 dX11_out_18 dX11_out_19 dX11_out_21 dX11_out_24 ?_
    exact ⟨rfl, rfl, rfl⟩
  refine kn_iload_n hC dX11_out_0 rfl rfl ?_
  refine kn_if_lt (tgt := 15) hC dX11_out_1 (by decide) (fun h => ?_) (fun h => ?_)
  · exact bad (fun z => z.1 h)
  · have h0 := h
    clear h
    refine kn_iload_n hC dX11_out_4 rfl rfl ?_
    refine kn_aload_n hC dX11_out_5 rfl rfl ?_
    refine kg0_desk hC (by first | exact rfl | with_reducible assumption) wfX11_28 dX11_out_6 ?_
    refine kg9_shown hC (by first | exact rfl | with_reducible assumption) wfX11_244 dX11_out_9 ?_
    rw [e1]
    refine kn_icmp_lt (tgt := 25) hC dX11_out_12 (by decide) (fun h => ?_) (fun h => ?_)
    · obtain ⟨j, hj, rfl⟩ := nI_of3 h0 (by omega) h
      have ee : u_out M (nI j) = (0, (M.2 7 0).getD j 0) := by
        unfold u_out
        rw [if_pos ⟨h0, h⟩, nI_clamp (by omega)]
      rw [ee]
      clear bad
      refine kn_aload_n hC dX11_out_25 rfl rfl ?_
      refine kg0_desk hC (by first | exact rfl | with_reducible assumption) wfX11_28 dX11_out_26 ?_
      refine kg9_console hC (by first | exact rfl | with_reducible assumption) wfX11_249 dX11_out_29 ?_
      refine kn_iload_n hC dX11_out_32 rfl rfl ?_
      refine kc_iald hC (by first | exact rfl | with_reducible assumption) (fun _ => rfl) (by first | exact vp_in_nI (by omega) (by decide) | with_reducible assumption) dX11_out_33 ?_
      rw [nI_clamp (by omega), show σ 19 0 j = (M.2 7 0).getD j 0 from h3 j hj]
      refine kn_iret hC dX11_out_34 ?_
      exact ⟨rfl, rfl, rfl⟩
    · exact bad (fun z => h z.2)
theorem cp_ready (hl : l.stackTraces = false) (hT : ∀ U H, Ex U H → xT (cw_A ad) U H) (d : Nat) (x i : Int32) (M : n_M) (σ : n_S) (hM : RepC M σ) : k_Ct l (cw D ca ad ae Ex) (d + 6) yX11_ready cX11_ready 3 (some .int) [.ref (ad 0 0), .int x, .int i] σ (fun rv σ' => (u_ready M x i).1 = 0 ∧ rv = some (.int (u_ready M x i).2) ∧ σ' = σ) (fun E σ' => (u_ready M x i).1 = 1 ∧ E = "java/lang/IndexOutOfBoundsException" ∧ σ' = σ) := by
  refine k_ofW (by decide) (Nat.le_of_ble_eq_true rfl) ?_
  intro p e s m below meth c hC hexc
  have bad : ¬ ((¬ x < 0 ∧ x < 3) ∧ ¬ i < 0 ∧ i < nI (M.2 5 x.toNatClampNeg).length) → k_W p l e s m [Value.ref (ad 0 0), Value.int x, Value.int i].toArray below meth c (cw D ca ad ae Ex) (d + 6) (fun rv σ' => (u_ready M x i).1 = 0 ∧ rv = some (.int (u_ready M x i).2) ∧ σ' = σ) (fun E σ' => (u_ready M x i).1 = 1 ∧ E = "java/lang/IndexOutOfBoundsException" ∧ σ' = σ) 29 [some (.ref (ad 0 0)), some (.int x), some (.int i)] [] σ := by
    intro hb
    have ee : u_ready M x i = (1, 0) := if_neg hb
    rw [ee]
    refine kn_thr hC hl hexc hT (by omega) (ik := 61) (ic := 65) (is := 215) (cls := "java/lang/IndexOutOfBoundsException") (text := "no such level or place") (by decide) (by decide) (Nat.le_of_ble_eq_true rfl) dX11_ready_29 dX11_ready_32 dX11_ready_33 dX11_ready_35 dX11_ready_38 ?_
    exact ⟨rfl, rfl, rfl⟩
  refine kn_iload_n hC dX11_ready_0 rfl rfl ?_
  refine kn_if_lt (tgt := 29) hC dX11_ready_1 (by decide) (fun h => ?_) (fun h => ?_)
  · exact bad (fun z => z.1.1 h)
  · have hx0 := h
    clear h
    refine kn_iload_n hC dX11_ready_4 rfl rfl ?_
    refine kn_iconst (v := 3) hC dX11_ready_5 (by decide) ?_
    refine kn_icmp_ge (tgt := 29) hC dX11_ready_6 (by decide) (fun h => ?_) (fun h => ?_)
    · exact bad (fun z => absurd z.1.2 (Int32.not_lt.mpr h))
    · have hx3 := Int32.not_le.mp h
      clear h
      obtain ⟨r, hr, rfl⟩ := nI_of3 (n := 3) hx0 (by omega) hx3
      have hv : m_vL 5 r := by show r < 11; omega
      obtain ⟨h1, e1, h3⟩ := hM.2 5 r hv
      have h1 : (M.2 5 r).length ≤ 12 := h1
      have e1 : σ 31 r 1 = nI (M.2 5 r).length := e1
      have ecl : (nI r).toNatClampNeg = r := nI_clamp (by omega)
      have hd1 : cw_dom 31 r := by show r < 11; omega
      have hd2 : cw_dom 32 r := by show r < 11; omega
      refine kn_iload_n hC dX11_ready_9 rfl rfl ?_
      refine kn_if_lt (tgt := 29) hC dX11_ready_10 (by decide) (fun h => ?_) (fun h => ?_)
      · exact bad (fun z => z.2.1 h)
      · have h0 := h
        clear h
        refine kn_iload_n hC dX11_ready_13 rfl rfl ?_
        refine kn_aload_n hC dX11_ready_14 rfl rfl ?_
        refine kg0_desk hC (by first | exact rfl | with_reducible assumption) wfX11_28 dX11_ready_15 ?_
        refine kg9_rows hC (by first | exact rfl | with_reducible assumption) wfX11_208 dX11_ready_18 ?_
        refine kn_iload_n hC dX11_ready_21 rfl rfl ?_
        first | refine ka_rows hC (by omega) dX11_ready_22 ?_ | refine ka_queues hC (by omega) dX11_ready_22 ?_ | refine ka_procs hC (by omega) dX11_ready_22 ?_ | refine ka_progs hC (by omega) dX11_ready_22 ?_
        refine kg31_size hC (by first | exact rfl | with_reducible assumption) wfX11_212 dX11_ready_23 ?_
        rw [e1]
        refine kn_icmp_lt (tgt := 39) hC dX11_ready_26 (by decide) (fun h => ?_) (fun h => ?_)
        · obtain ⟨j, hj, rfl⟩ := nI_of3 h0 (by omega) h
          have ee : u_ready M (nI r) (nI j) = (0, (M.2 5 r).getD j 0) := by
            unfold u_ready
            rw [ecl, if_pos ⟨⟨hx0, hx3⟩, h0, h⟩, nI_clamp (by omega)]
          rw [ee]
          clear bad
          refine kn_aload_n hC dX11_ready_39 rfl rfl ?_
          refine kg0_desk hC (by first | exact rfl | with_reducible assumption) wfX11_28 dX11_ready_40 ?_
          refine kg9_rows hC (by first | exact rfl | with_reducible assumption) wfX11_208 dX11_ready_43 ?_
          refine kn_iload_n hC dX11_ready_46 rfl rfl ?_
          first | refine ka_rows hC (by omega) dX11_ready_47 ?_ | refine ka_queues hC (by omega) dX11_ready_47 ?_ | refine ka_procs hC (by omega) dX11_ready_47 ?_ | refine ka_progs hC (by omega) dX11_ready_47 ?_
          refine kg31_members hC (by first | exact rfl | with_reducible assumption) wfX11_217 dX11_ready_48 ?_
          refine kn_iload_n hC dX11_ready_51 rfl rfl ?_
          refine kc_iald hC (by first | exact rfl | with_reducible assumption) (fun _ => rfl) (by first | exact vp_in_nI (by omega) (by decide) | with_reducible assumption) dX11_ready_52 ?_
          rw [nI_clamp (by omega), show σ 32 r j = (M.2 5 r).getD j 0 from h3 j hj]
          refine kn_iret hC dX11_ready_53 ?_
          exact ⟨rfl, rfl, rfl⟩
        · exact bad (fun z => h (by rw [ecl] at z; exact z.2.2))
theorem cp_stack (hl : l.stackTraces = false) (hT : ∀ U H, Ex U H → xT (cw_A ad) U H) (d : Nat) (x i : Int32) (M : n_M) (σ : n_S) (hM : RepC M σ) : k_Ct l (cw D ca ad ae Ex) (d + 6) yX11_stack cX11_stack 4 (some .int) [.ref (ad 0 0), .int x, .int i] σ (fun rv σ' => (u_stack M x i).1 = 0 ∧ rv = some (.int (u_stack M x i).2) ∧ σ' = σ) (fun E σ' => (u_stack M x i).1 = 1 ∧ E = "java/lang/IndexOutOfBoundsException" ∧ σ' = σ) := by
  refine k_ofW (by decide) (Nat.le_of_ble_eq_true rfl) ?_
  intro p e s m below meth c hC hexc
  have bad : ∀ w : Option Value, ¬ ((¬ x < 1 ∧ ¬ 12 < x) ∧ ¬ i < 0 ∧ i < nI (M.2 0 x.toNatClampNeg).length) → k_W p l e s m [Value.ref (ad 0 0), Value.int x, Value.int i].toArray below meth c (cw D ca ad ae Ex) (d + 6) (fun rv σ' => (u_stack M x i).1 = 0 ∧ rv = some (.int (u_stack M x i).2) ∧ σ' = σ) (fun E σ' => (u_stack M x i).1 = 1 ∧ E = "java/lang/IndexOutOfBoundsException" ∧ σ' = σ) 25 [some (.ref (ad 0 0)), some (.int x), some (.int i), w] [] σ := by
    intro w hb
    have ee : u_stack M x i = (1, 0) := if_neg hb
    rw [ee]
    refine kn_thr hC hl hexc hT (by omega) (ik := 61) (ic := 65) (is := 196) (cls := "java/lang/IndexOutOfBoundsException") (text := "no such process or number") (by decide) (by decide) (Nat.le_of_ble_eq_true rfl) dX11_stack_25 dX11_stack_28 dX11_stack_29 dX11_stack_31 dX11_stack_34 ?_
    exact ⟨rfl, rfl, rfl⟩
  refine kn_aload_n hC dX11_stack_0 rfl rfl ?_
  refine kg0_desk hC (by first | exact rfl | with_reducible assumption) wfX11_28 dX11_stack_1 ?_
  refine kn_iload_n hC dX11_stack_4 rfl rfl ?_
  refine kn_callV hC (c_find (d + 5) x σ) (Nat.le_refl _) (by decide) (by first | exact rfl | with_reducible assumption) rfl rfl rfl ⟨wmX11_106, wi_yX2_find, wv_yX2_find, wzX2, wc_yX2_find⟩ hy_yX2_find rfl (Nat.le_of_ble_eq_true rfl) dX11_stack_5 (fun rv σ' hpo => ?_)
  obtain ⟨hpo, hσ⟩ := hpo
  rw [hσ]
  rcases hpo with ⟨q, hq, rfl, rfl⟩ | ⟨hn, rfl⟩
  · have hv : n_V q := hq
    have hd1 : cw_dom 21 q := hq
    have hd2 : cw_dom 22 q := hq
    obtain ⟨h1, e1, h3⟩ := hM.2 0 q hq
    have h1 : (M.2 0 q).length ≤ 40 := h1
    have e1 : σ 21 q 5 = nI (M.2 0 q).length := e1
    have ecl : (nI q).toNatClampNeg = q := nI_clamp (by omega)
    first | refine kn_astore_n hC dX11_stack_8 rfl (Nat.le_of_ble_eq_true rfl) ?_ | refine kn_astore_nN hC dX11_stack_8 rfl (Nat.le_of_ble_eq_true rfl) ?_
    refine kn_aload_n hC dX11_stack_9 rfl rfl ?_
    first | refine kn_ifnull hC dX11_stack_10 ?_ | refine kn_ifnullN (tgt := 25) hC dX11_stack_10 (by decide) ?_
    refine kn_iload_n hC dX11_stack_13 rfl rfl ?_
    refine kn_if_lt (tgt := 25) hC dX11_stack_14 (by decide) (fun h => ?_) (fun h => ?_)
    · exact bad _ (fun z => z.2.1 h)
    · have h0 := h
      clear h
      refine kn_iload_n hC dX11_stack_17 rfl rfl ?_
      refine kn_aload_n hC dX11_stack_18 rfl rfl ?_
      refine kg21_depth hC (by first | exact rfl | with_reducible assumption) wfX11_165 dX11_stack_19 ?_
      rw [e1]
      refine kn_icmp_lt (tgt := 35) hC dX11_stack_22 (by decide) (fun h => ?_) (fun h => ?_)
      · obtain ⟨j, hj, rfl⟩ := nI_of3 h0 (by omega) h
        have ee : u_stack M (nI q) (nI j) = (0, (M.2 0 q).getD j 0) := by
          unfold u_stack
          rw [ecl, if_pos ⟨pq_lo hv, h0, h⟩, nI_clamp (by omega)]
        rw [ee]
        clear bad
        refine kn_aload_n hC dX11_stack_35 rfl rfl ?_
        refine kg21_numbers hC (by first | exact rfl | with_reducible assumption) wfX11_198 dX11_stack_36 ?_
        refine kn_iload_n hC dX11_stack_39 rfl rfl ?_
        refine kc_iald hC (by first | exact rfl | with_reducible assumption) (fun _ => rfl) (by first | exact vp_in_nI (by omega) (by decide) | with_reducible assumption) dX11_stack_40 ?_
        rw [nI_clamp (by omega), show σ 22 q j = (M.2 0 q).getD j 0 from h3 j hj]
        refine kn_iret hC dX11_stack_41 ?_
        exact ⟨rfl, rfl, rfl⟩
      · exact bad _ (fun z => h (by rw [ecl] at z; exact z.2.2))
  · first | refine kn_astore_n hC dX11_stack_8 rfl (Nat.le_of_ble_eq_true rfl) ?_ | refine kn_astore_nN hC dX11_stack_8 rfl (Nat.le_of_ble_eq_true rfl) ?_
    first | refine kn_aload_n hC dX11_stack_9 rfl rfl ?_ | refine kn_aload_nN hC dX11_stack_9 rfl rfl ?_
    first | refine kn_ifnull hC dX11_stack_10 ?_ | refine kn_ifnullN (tgt := 25) hC dX11_stack_10 (by decide) ?_
    refine bad _ (fun z => hn ?_)
    obtain ⟨q, hq, rfl⟩ := pq_of z.1
    exact ⟨Int32.not_lt.mp z.1.1, Int32.not_lt.mp z.1.2⟩
theorem cp_quantum (hl : l.stackTraces = false) (hT : ∀ U H, Ex U H → xT (cw_A ad) U H) (d : Nat) (x : Int32) (M : n_M) (σ : n_S) (hM : RepC M σ) : k_Ct l (cw D ca ad ae Ex) (d + 6) yX11_quantum cX11_quantum 3 (some .int) [.ref (ad 0 0), .int x] σ (fun rv σ' => (u_quantum M x).1 = 0 ∧ rv = some (.int (u_quantum M x).2.1) ∧ RepC (u_quantum M x).2.2 σ') (fun E σ' => (u_quantum M x).1 = 1 ∧ E = "java/lang/IllegalArgumentException" ∧ σ' = σ) := by
  have e1 : σ 20 0 1 = M.1 16 0 := hM.1 16 0 rfl
  refine k_ofW (by decide) (Nat.le_of_ble_eq_true rfl) ?_
  intro p e s m below meth c hC hexc
  have bad : ¬ (¬ x < 1 ∧ ¬ 100 < x) → k_W p l e s m [Value.ref (ad 0 0), Value.int x].toArray below meth c (cw D ca ad ae Ex) (d + 6) (fun rv σ' => (u_quantum M x).1 = 0 ∧ rv = some (.int (u_quantum M x).2.1) ∧ RepC (u_quantum M x).2.2 σ') (fun E σ' => (u_quantum M x).1 = 1 ∧ E = "java/lang/IllegalArgumentException" ∧ σ' = σ) 11 [some (.ref (ad 0 0)), some (.int x), none] [] σ := by
    intro hb
    have ee : u_quantum M x = (1, 0, M) := if_neg hb
    rw [ee]
    refine kn_thr hC hl hexc hT (by omega) (ik := 56) (ic := 60) (is := 101) (cls := "java/lang/IllegalArgumentException") (text := "no such quantum") (by decide) (by decide) (Nat.le_of_ble_eq_true rfl) dX11_quantum_11 dX11_quantum_14 dX11_quantum_15 dX11_quantum_17 dX11_quantum_20 ?_
    exact ⟨rfl, rfl, rfl⟩
  refine kn_iload_n hC dX11_quantum_0 rfl rfl ?_
  refine kn_iconst (v := 1) hC dX11_quantum_1 (by decide) ?_
  refine kn_icmp_lt (tgt := 11) hC dX11_quantum_2 (by decide) (fun h => ?_) (fun h => ?_)
  · exact bad (fun z => z.1 h)
  · have h0 := h
    clear h
    refine kn_iload_n hC dX11_quantum_5 rfl rfl ?_
    refine kn_bipush (v := 100) hC dX11_quantum_6 (by decide) ?_
    refine kn_icmp_le (tgt := 21) hC dX11_quantum_8 (by decide) (fun h => ?_) (fun h => ?_)
    · have ee : u_quantum M x = (0, M.1 16 0, m_s M 16 0 x) := if_pos ⟨h0, Int32.not_lt.mpr h⟩
      rw [ee]
      refine kn_aload_n hC dX11_quantum_21 rfl rfl ?_
      refine kg0_worker hC (by first | exact rfl | with_reducible assumption) wfX11_37 dX11_quantum_22 ?_
      refine kg20_quantum hC (by first | exact rfl | with_reducible assumption) wfX11_103 dX11_quantum_25 ?_
      rw [e1]
      refine kn_istore_n hC dX11_quantum_28 rfl (Nat.le_of_ble_eq_true rfl) ?_
      refine kn_aload_n hC dX11_quantum_29 rfl rfl ?_
      refine kg0_worker hC (by first | exact rfl | with_reducible assumption) wfX11_37 dX11_quantum_30 ?_
      refine kn_iload_n hC dX11_quantum_33 rfl rfl ?_
      refine kp20_quantum hC (by first | exact rfl | with_reducible assumption) wfX11_103 dX11_quantum_34 ?_
      refine kn_iload_n hC dX11_quantum_37 rfl rfl ?_
      refine kn_iret hC dX11_quantum_38 ?_
      exact ⟨rfl, rfl, cu_16 hM rfl⟩
    · exact bad (fun z => z.2 (Int32.not_le.mp h))
theorem cp_kill (hl : l.stackTraces = false) (hT : ∀ U H, Ex U H → xT (cw_A ad) U H) (d : Nat) (x : Int32) (M : n_M) (σ : n_S) (hM : RepC M σ) (hI : II M) : k_Ct l (cw D ca ad ae Ex) (d + 6) yX11_kill cX11_kill 3 (some .boolean) [.ref (ad 0 0), .int x] σ (fun rv σ' => (u_kill M x).1 = 0 ∧ rv = some (.int (u_kill M x).2.1) ∧ RepC (u_kill M x).2.2 σ') (fun E σ' => (u_kill M x).1 = 1 ∧ E = "java/lang/IndexOutOfBoundsException" ∧ σ' = σ) := by
  refine k_ofW (by decide) (Nat.le_of_ble_eq_true rfl) ?_
  intro p e s m below meth c hC hexc
  refine kn_aload_n hC dX11_kill_0 rfl rfl ?_
  refine kg0_desk hC (by first | exact rfl | with_reducible assumption) wfX11_28 dX11_kill_1 ?_
  refine kn_iload_n hC dX11_kill_4 rfl rfl ?_
  refine kn_callV hC (c_find (d + 5) x σ) (Nat.le_refl _) (by decide) (by first | exact rfl | with_reducible assumption) rfl rfl rfl ⟨wmX11_106, wi_yX2_find, wv_yX2_find, wzX2, wc_yX2_find⟩ hy_yX2_find rfl (Nat.le_of_ble_eq_true rfl) dX11_kill_5 (fun rv σ' hpo => ?_)
  obtain ⟨hpo, hσ⟩ := hpo
  rw [hσ]
  rcases hpo with ⟨q, hq, rfl, rfl⟩ | ⟨hn, rfl⟩
  · have hv : n_V q := hq
    have hd1 : cw_dom 21 q := hq
    have ecl : (nI q).toNatClampNeg = q := nI_clamp (by omega)
    first | refine kn_astore_n hC dX11_kill_8 rfl (Nat.le_of_ble_eq_true rfl) ?_ | refine kn_astore_nN hC dX11_kill_8 rfl (Nat.le_of_ble_eq_true rfl) ?_
    refine kn_aload_n hC dX11_kill_9 rfl rfl ?_
    first | refine kn_ifnonnull (tgt := 23) hC dX11_kill_10 (by decide) ?_ | refine kn_ifnonnullN hC dX11_kill_10 ?_
    refine kn_aload_n hC dX11_kill_23 rfl rfl ?_
    refine kn_callV hC (c_alive (d + 5) q M σ hM hq) (Nat.le_refl _) (by decide) (by first | exact rfl | with_reducible assumption) rfl rfl rfl ⟨wmX11_112, wi_yX9_isAlive, wv_yX9_isAlive, wzX9, wc_yX9_isAlive⟩ hy_yX9_isAlive rfl (Nat.le_of_ble_eq_true rfl) dX11_kill_24 (fun rv σ' hpo => ?_)
    obtain ⟨hpo, hσ⟩ := hpo
    rw [hσ]
    rcases hpo with ⟨hal, rfl⟩ | ⟨hal, rfl⟩
    · have ee : u_kill M (nI q) = (0, 1, m_fin M q (-1)) := by
        unfold u_kill
        rw [ecl, if_pos (pq_lo hv), if_pos ((u_al_i M q).mpr hal)]
      rw [ee]
      refine kn_if_ne (tgt := 32) hC dX11_kill_27 (by decide) (fun h => ?_) (fun h => ?_)
      · refine kn_aload_n hC dX11_kill_32 rfl rfl ?_
        refine kg0_desk hC (by first | exact rfl | with_reducible assumption) wfX11_28 dX11_kill_33 ?_
        refine kn_aload_n hC dX11_kill_36 rfl rfl ?_
        refine kn_iconst (v := -1) hC dX11_kill_37 (by decide) ?_
        refine kn_callV hC (c_finish (d + 2) q (-1) M σ hM hI.2.1 hI.1 hI.w.ip hv (hI.pr hv)) (Nat.le_refl _) (by decide) (by first | exact rfl | with_reducible assumption) rfl rfl rfl ⟨wmX11_116, wi_yX2_finish, wv_yX2_finish, wzX2, wc_yX2_finish⟩ hy_yX2_finish rfl (Nat.le_of_ble_eq_true rfl) dX11_kill_38 (fun rv σ' hpo => ?_)
        obtain ⟨rfl, g⟩ := hpo
        refine kn_iconst (v := 1) hC dX11_kill_41 (by decide) ?_
        refine kn_zret hC dX11_kill_42 rfl ?_
        exact ⟨rfl, rfl, g⟩
      · exact absurd h (by decide)
    · have ee : u_kill M (nI q) = (0, 0, M) := by
        unfold u_kill
        rw [ecl, if_pos (pq_lo hv), if_neg (fun z => hal ((u_al_i M q).mp z))]
      rw [ee]
      refine kn_if_ne (tgt := 32) hC dX11_kill_27 (by decide) (fun h => ?_) (fun h => ?_)
      · exact absurd rfl h
      · refine kn_iconst (v := 0) hC dX11_kill_30 (by decide) ?_
        refine kn_zret hC dX11_kill_31 rfl ?_
        exact ⟨rfl, rfl, hM⟩
  · have ee : u_kill M x = (1, 0, M) := if_neg (fun z => hn ⟨Int32.not_lt.mp z.1, Int32.not_lt.mp z.2⟩)
    rw [ee]
    first | refine kn_astore_n hC dX11_kill_8 rfl (Nat.le_of_ble_eq_true rfl) ?_ | refine kn_astore_nN hC dX11_kill_8 rfl (Nat.le_of_ble_eq_true rfl) ?_
    first | refine kn_aload_n hC dX11_kill_9 rfl rfl ?_ | refine kn_aload_nN hC dX11_kill_9 rfl rfl ?_
    first | refine kn_ifnonnull (tgt := 23) hC dX11_kill_10 (by decide) ?_ | refine kn_ifnonnullN hC dX11_kill_10 ?_
    refine kn_thr hC hl hexc hT (by omega) (ik := 61) (ic := 65) (is := 110) (cls := "java/lang/IndexOutOfBoundsException") (text := "no such process") (by decide) (by decide) (Nat.le_of_ble_eq_true rfl) dX11_kill_13 dX11_kill_16 dX11_kill_17 dX11_kill_19 dX11_kill_22 ?_
    exact ⟨rfl, rfl, rfl⟩
theorem cp_reap (hl : l.stackTraces = false) (hT : ∀ U H, Ex U H → xT (cw_A ad) U H) (d : Nat) (x : Int32) (M : n_M) (σ : n_S) (hM : RepC M σ) (hI : II M) : k_Ct l (cw D ca ad ae Ex) (d + 6) yX11_reap cX11_reap 4 (some .int) [.ref (ad 0 0), .int x] σ (fun rv σ' => (u_reap M x).1 = 0 ∧ rv = some (.int (u_reap M x).2.1) ∧ RepC (u_reap M x).2.2 σ') (fun E σ' => (((u_reap M x).1 = 1 ∧ E = "java/lang/IndexOutOfBoundsException") ∨ ((u_reap M x).1 = 2 ∧ E = "java/lang/IllegalStateException")) ∧ σ' = σ) := by
  refine k_ofW (by decide) (Nat.le_of_ble_eq_true rfl) ?_
  intro p e s m below meth c hC hexc
  refine kn_aload_n hC dX11_reap_0 rfl rfl ?_
  refine kg0_desk hC (by first | exact rfl | with_reducible assumption) wfX11_28 dX11_reap_1 ?_
  refine kn_iload_n hC dX11_reap_4 rfl rfl ?_
  refine kn_callV hC (c_find (d + 5) x σ) (Nat.le_refl _) (by decide) (by first | exact rfl | with_reducible assumption) rfl rfl rfl ⟨wmX11_106, wi_yX2_find, wv_yX2_find, wzX2, wc_yX2_find⟩ hy_yX2_find rfl (Nat.le_of_ble_eq_true rfl) dX11_reap_5 (fun rv σ' hpo => ?_)
  obtain ⟨hpo, hσ⟩ := hpo
  rw [hσ]
  rcases hpo with ⟨q, hq, rfl, rfl⟩ | ⟨hn, rfl⟩
  · have hv : n_V q := hq
    have hd1 : cw_dom 21 q := hq
    have ecl : (nI q).toNatClampNeg = q := nI_clamp (by omega)
    have e0 : σ 21 q 7 = M.1 0 q := hM.1 0 q hq
    have e1 : σ 21 q 8 = M.1 1 q := hM.1 1 q hq
    have e3 : σ 21 q 10 = M.1 3 q := hM.1 3 q hq
    have bad : ¬ (M.1 0 q = 7 ∧ M.1 3 q = 0) → k_W p l e s m [Value.ref (ad 0 0), Value.int (nI q)].toArray below meth c (cw D ca ad ae Ex) (d + 6) (fun rv σ' => (u_reap M (nI q)).1 = 0 ∧ rv = some (.int (u_reap M (nI q)).2.1) ∧ RepC (u_reap M (nI q)).2.2 σ') (fun E σ' => (((u_reap M (nI q)).1 = 1 ∧ E = "java/lang/IndexOutOfBoundsException") ∨ ((u_reap M (nI q)).1 = 2 ∧ E = "java/lang/IllegalStateException")) ∧ σ' = σ) 39 [some (.ref (ad 0 0)), some (.int (nI q)), some (.ref (ad 21 q)), none] [] σ := by
      intro hb
      have ee : u_reap M (nI q) = (2, 0, M) := by
        unfold u_reap
        rw [ecl, if_pos (pq_lo hv), if_neg hb]
      rw [ee]
      refine kn_thr hC hl hexc hT (by omega) (ik := 126) (ic := 130) (is := 128) (cls := "java/lang/IllegalStateException") (text := "it is not ended without a parent") (by decide) (by decide) (Nat.le_of_ble_eq_true rfl) dX11_reap_39 dX11_reap_42 dX11_reap_43 dX11_reap_45 dX11_reap_48 ?_
      exact ⟨Or.inr ⟨rfl, rfl⟩, rfl⟩
    first | refine kn_astore_n hC dX11_reap_8 rfl (Nat.le_of_ble_eq_true rfl) ?_ | refine kn_astore_nN hC dX11_reap_8 rfl (Nat.le_of_ble_eq_true rfl) ?_
    refine kn_aload_n hC dX11_reap_9 rfl rfl ?_
    first | refine kn_ifnonnull (tgt := 23) hC dX11_reap_10 (by decide) ?_ | refine kn_ifnonnullN hC dX11_reap_10 ?_
    refine kn_aload_n hC dX11_reap_23 rfl rfl ?_
    refine kg21_status hC (by first | exact rfl | with_reducible assumption) wfX11_120 dX11_reap_24 ?_
    rw [e0]
    refine kn_bipush (v := 7) hC dX11_reap_27 (by decide) ?_
    refine kn_icmp_ne (tgt := 39) hC dX11_reap_29 (by decide) (fun h => ?_) (fun h => ?_)
    · exact bad (fun z => h z.1)
    · have h7 : M.1 0 q = 7 := h
      clear h
      refine kn_aload_n hC dX11_reap_32 rfl rfl ?_
      refine kg21_parent hC (by first | exact rfl | with_reducible assumption) wfX11_123 dX11_reap_33 ?_
      rw [e3]
      refine kn_if_eq (tgt := 49) hC dX11_reap_36 (by decide) (fun h => ?_) (fun h => ?_)
      · have ee : u_reap M (nI q) = (0, M.1 1 q, m_van M q) := by
          unfold u_reap
          rw [ecl, if_pos (pq_lo hv), if_pos ⟨h7, h⟩]
        rw [ee]
        clear bad
        refine kn_aload_n hC dX11_reap_49 rfl rfl ?_
        refine kg21_code hC (by first | exact rfl | with_reducible assumption) wfX11_131 dX11_reap_50 ?_
        rw [e1]
        refine kn_istore_n hC dX11_reap_53 rfl (Nat.le_of_ble_eq_true rfl) ?_
        refine kn_aload_n hC dX11_reap_54 rfl rfl ?_
        refine kn_callV hC (c_vanish (d + 4) q M σ hM hq (hI.w.ip q hv)) (Nat.le_refl _) (by decide) (by first | exact rfl | with_reducible assumption) rfl rfl rfl ⟨wmX11_134, wi_yX9_vanish, wv_yX9_vanish, wzX9, wc_yX9_vanish⟩ hy_yX9_vanish rfl (Nat.le_of_ble_eq_true rfl) dX11_reap_55 (fun rv σ' hpo => ?_)
        obtain ⟨rfl, g⟩ := hpo
        refine kn_iload_n hC dX11_reap_58 rfl rfl ?_
        refine kn_iret hC dX11_reap_59 ?_
        exact ⟨rfl, rfl, g⟩
      · exact bad (fun z => h z.2)
  · have ee : u_reap M x = (1, 0, M) := if_neg (fun z => hn ⟨Int32.not_lt.mp z.1, Int32.not_lt.mp z.2⟩)
    rw [ee]
    first | refine kn_astore_n hC dX11_reap_8 rfl (Nat.le_of_ble_eq_true rfl) ?_ | refine kn_astore_nN hC dX11_reap_8 rfl (Nat.le_of_ble_eq_true rfl) ?_
    first | refine kn_aload_n hC dX11_reap_9 rfl rfl ?_ | refine kn_aload_nN hC dX11_reap_9 rfl rfl ?_
    first | refine kn_ifnonnull (tgt := 23) hC dX11_reap_10 (by decide) ?_ | refine kn_ifnonnullN hC dX11_reap_10 ?_
    refine kn_thr hC hl hexc hT (by omega) (ik := 61) (ic := 65) (is := 110) (cls := "java/lang/IndexOutOfBoundsException") (text := "no such process") (by decide) (by decide) (Nat.le_of_ble_eq_true rfl) dX11_reap_13 dX11_reap_16 dX11_reap_17 dX11_reap_19 dX11_reap_22 ?_
    exact ⟨Or.inl ⟨rfl, rfl⟩, rfl⟩
end CP1
