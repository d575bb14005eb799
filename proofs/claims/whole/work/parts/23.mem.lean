section ME1
variable {l : Launch} {D : va_G} {ca : Nat → ClassId} {ad : Nat → Nat → Nat} {ae : Nat → Nat} {Ex : State → Heap → Prop}
theorem c_cellsOf (d : Nat) (x : Int32) (ns : List Nat) (os : List Int32) (M : n_M) (σ : n_S) (hM : RepC M σ) (hB : m_isB M ns os) : n_Ct l (cw D ca ad ae Ex) (d + 1) yX3_cellsOf cX3_cellsOf 4 (some .int) [.ref (ad 15 0), .int x] σ (fun rv σ' => rv = some (.int (nI (m_own ns os x))) ∧ σ' = σ) := by
  refine n_ofW (by decide) (Nat.le_of_ble_eq_true rfl) ?_
  intro p e s m below meth c hC
  have hbw := hB.1
  have loop : ∀ (n j : Nat), n + j = ns.length →
      n_W p l e s m [Value.ref (ad 15 0), Value.int x].toArray below meth c (cw D ca ad ae Ex) (d + 1) (fun rv σ' => rv = some (.int (nI (m_own ns os x))) ∧ σ' = σ) 4 [some (.ref (ad 15 0)), some (.int x), some (.int (nI (m_own (ns.take j) (os.take j) x))), some (.int (nI (ns.take j).sum))] [] σ := by
    intro n
    induction n with
    | zero =>
      intro j hj
      have : j = ns.length := by omega
      subst this
      rw [m_at_end hbw]
      refine n_iload_n hC dX3_cellsOf_4 rfl rfl ?_
      refine n_sipush (v := 1024) hC dX3_cellsOf_5 (by decide) ?_
      refine n_icmp_ge (tgt := 46) hC dX3_cellsOf_8 (by decide) (fun h => ?_) (fun h => ?_)
      · refine n_iload_n hC dX3_cellsOf_46 rfl rfl ?_
        refine n_iret hC dX3_cellsOf_47 ?_
        rw [List.take_length, hbw.1, List.take_length]
        exact ⟨rfl, rfl⟩
      · exact absurd (by decide) h
    | succ n ih =>
      intro j hj
      have hjl : j < ns.length := by omega
      obtain ⟨k1, k2, k3, k4⟩ := m_blk hM hB hjl
      have e1 : (nI (ns.take j).sum).toNatClampNeg = (ns.take j).sum := nI_clamp (by omega)
      have step : ∀ y : Nat, y = m_own (ns.take (j + 1)) (os.take (j + 1)) x → n_W p l e s m [Value.ref (ad 15 0), Value.int x].toArray below meth c (cw D ca ad ae Ex) (d + 1) (fun rv σ' => rv = some (.int (nI (m_own ns os x))) ∧ σ' = σ) 30 [some (.ref (ad 15 0)), some (.int x), some (.int (nI y)), some (.int (nI (ns.take j).sum))] [] σ := by
        intro y hy
        subst hy
        refine n_iload_n hC dX3_cellsOf_30 rfl rfl ?_
        refine n_aload_n hC dX3_cellsOf_31 rfl rfl ?_
        refine g15_sizes hC (by first | assumption | exact rfl) wfX3_18 dX3_cellsOf_32 ?_
        refine n_iload_n hC dX3_cellsOf_35 rfl rfl ?_
        refine c_iald hC (by first | assumption | exact rfl) (fun _ => rfl) (by first | assumption | exact vp_in_nI (by omega) (by decide)) dX3_cellsOf_36 ?_
        refine n_iconst (v := 1) hC dX3_cellsOf_37 (by decide) ?_
        rw [e1, k3]
        refine n_mmax hC wmX3_25 (Nat.le_of_ble_eq_true rfl) dX3_cellsOf_38 ?_
        rw [m_mx1 k2 (by omega)]
        refine n_iadd hC dX3_cellsOf_41 ?_
        refine n_istore_n hC dX3_cellsOf_42 rfl (Nat.le_of_ble_eq_true rfl) ?_
        refine n_goto (tgt := 4) hC dX3_cellsOf_43 (by decide) ?_
        rw [nI_add, ← m_tk1 hjl]
        exact ih (j + 1) (by omega)
      refine n_iload_n hC dX3_cellsOf_4 rfl rfl ?_
      refine n_sipush (v := 1024) hC dX3_cellsOf_5 (by decide) ?_
      refine n_icmp_ge (tgt := 46) hC dX3_cellsOf_8 (by decide) (fun h => ?_) (fun h => ?_)
      · exact absurd h (nI_ge (b := 1024) (by omega) (by decide))
      · clear h
        refine n_aload_n hC dX3_cellsOf_11 rfl rfl ?_
        refine g15_holders hC (by first | assumption | exact rfl) wfX3_15 dX3_cellsOf_12 ?_
        refine n_iload_n hC dX3_cellsOf_15 rfl rfl ?_
        refine c_iald hC (by first | assumption | exact rfl) (fun _ => rfl) (by first | assumption | exact vp_in_nI (by omega) (by decide)) dX3_cellsOf_16 ?_
        rw [e1, k4]
        refine n_iload_n hC dX3_cellsOf_17 rfl rfl ?_
        refine n_icmp_ne (tgt := 30) hC dX3_cellsOf_18 (by decide) (fun h => ?_) (fun h => ?_)
        · exact step _ (by rw [m_own_tk ns os x j hbw.1 hjl, if_neg h]; rfl)
        · refine n_iload_n hC dX3_cellsOf_21 rfl rfl ?_
          refine n_aload_n hC dX3_cellsOf_22 rfl rfl ?_
          refine g15_sizes hC (by first | assumption | exact rfl) wfX3_18 dX3_cellsOf_23 ?_
          refine n_iload_n hC dX3_cellsOf_26 rfl rfl ?_
          refine c_iald hC (by first | assumption | exact rfl) (fun _ => rfl) (by first | assumption | exact vp_in_nI (by omega) (by decide)) dX3_cellsOf_27 ?_
          rw [e1, k3]
          refine n_iadd hC dX3_cellsOf_28 ?_
          refine n_istore_n hC dX3_cellsOf_29 rfl (Nat.le_of_ble_eq_true rfl) ?_
          rw [nI_add]
          exact step _ (by rw [m_own_tk ns os x j hbw.1 hjl, if_pos h])
  refine n_iconst (v := 0) hC dX3_cellsOf_0 (by decide) ?_
  refine n_istore_n hC dX3_cellsOf_1 rfl (Nat.le_of_ble_eq_true rfl) ?_
  refine n_iconst (v := 0) hC dX3_cellsOf_2 (by decide) ?_
  refine n_istore_n hC dX3_cellsOf_3 rfl (Nat.le_of_ble_eq_true rfl) ?_
  have := loop ns.length 0 (by omega)
  simp [m_own] at this
  exact this
theorem c_blocks (d : Nat) (ns : List Nat) (os : List Int32) (M : n_M) (σ : n_S) (hM : RepC M σ) (hB : m_isB M ns os) : n_Ct l (cw D ca ad ae Ex) (d + 1) yX3_blocks cX3_blocks 3 (some .int) [.ref (ad 15 0)] σ (fun rv σ' => rv = some (.int (nI ns.length)) ∧ σ' = σ) := by
  refine n_ofW (by decide) (Nat.le_of_ble_eq_true rfl) ?_
  intro p e s m below meth c hC
  have hbw := hB.1
  have loop : ∀ (n j : Nat), n + j = ns.length →
      n_W p l e s m [Value.ref (ad 15 0)].toArray below meth c (cw D ca ad ae Ex) (d + 1) (fun rv σ' => rv = some (.int (nI ns.length)) ∧ σ' = σ) 4 [some (.ref (ad 15 0)), some (.int (nI j)), some (.int (nI (ns.take j).sum))] [] σ := by
    intro n
    induction n with
    | zero =>
      intro j hj
      have : j = ns.length := by omega
      subst this
      rw [m_at_end hbw]
      refine n_iload_n hC dX3_blocks_4 rfl rfl ?_
      refine n_sipush (v := 1024) hC dX3_blocks_5 (by decide) ?_
      refine n_icmp_ge (tgt := 30) hC dX3_blocks_8 (by decide) (fun h => ?_) (fun h => ?_)
      · refine n_iload_n hC dX3_blocks_30 rfl rfl ?_
        refine n_iret hC dX3_blocks_31 ?_
        exact ⟨rfl, rfl⟩
      · exact absurd (by decide) h
    | succ n ih =>
      intro j hj
      have hjl : j < ns.length := by omega
      obtain ⟨k1, k2, k3, k4⟩ := m_blk hM hB hjl
      have e1 : (nI (ns.take j).sum).toNatClampNeg = (ns.take j).sum := nI_clamp (by omega)
      refine n_iload_n hC dX3_blocks_4 rfl rfl ?_
      refine n_sipush (v := 1024) hC dX3_blocks_5 (by decide) ?_
      refine n_icmp_ge (tgt := 30) hC dX3_blocks_8 (by decide) (fun h => ?_) (fun h => ?_)
      · exact absurd h (nI_ge (b := 1024) (by omega) (by decide))
      · clear h
        refine n_iinc hC dX3_blocks_11 rfl (show _ + Int32.ofInt 1 = _ + 1 from rfl) ?_
        refine n_iload_n hC dX3_blocks_14 rfl rfl ?_
        refine n_aload_n hC dX3_blocks_15 rfl rfl ?_
        refine g15_sizes hC (by first | assumption | exact rfl) wfX3_18 dX3_blocks_16 ?_
        refine n_iload_n hC dX3_blocks_19 rfl rfl ?_
        refine c_iald hC (by first | assumption | exact rfl) (fun _ => rfl) (by first | assumption | exact vp_in_nI (by omega) (by decide)) dX3_blocks_20 ?_
        refine n_iconst (v := 1) hC dX3_blocks_21 (by decide) ?_
        rw [e1, k3]
        refine n_mmax hC wmX3_25 (Nat.le_of_ble_eq_true rfl) dX3_blocks_22 ?_
        rw [m_mx1 k2 (by omega)]
        refine n_iadd hC dX3_blocks_25 ?_
        refine n_istore_n hC dX3_blocks_26 rfl (Nat.le_of_ble_eq_true rfl) ?_
        refine n_goto (tgt := 4) hC dX3_blocks_27 (by decide) ?_
        rw [nI_add, ← m_tk1 hjl, nI_1]
        exact ih (j + 1) (by omega)
  refine n_iconst (v := 0) hC dX3_blocks_0 (by decide) ?_
  refine n_istore_n hC dX3_blocks_1 rfl (Nat.le_of_ble_eq_true rfl) ?_
  refine n_iconst (v := 0) hC dX3_blocks_2 (by decide) ?_
  refine n_istore_n hC dX3_blocks_3 rfl (Nat.le_of_ble_eq_true rfl) ?_
  exact loop ns.length 0 (by omega)
theorem c_addressOf (d : Nat) (x : Int32) (ns : List Nat) (os : List Int32) (M : n_M) (σ : n_S) (hM : RepC M σ) (hB : m_isB M ns os) : n_Ct l (cw D ca ad ae Ex) (d + 1) yX3_addressOf cX3_addressOf 4 (some .int) [.ref (ad 15 0), .int x] σ (fun rv σ' => ((∃ k, k < ns.length ∧ x = nI k ∧ rv = some (.int (nI (ns.take k).sum))) ∨ ((¬ ∃ k, k < ns.length ∧ x = nI k) ∧ rv = some (.int (-1)))) ∧ σ' = σ) := by
  refine n_ofW (by decide) (Nat.le_of_ble_eq_true rfl) ?_
  intro p e s m below meth c hC
  have hbw := hB.1
  have hle := m_lelen ns hbw.2.1
  rw [hbw.2.2] at hle
  have loop : ∀ (n j : Nat), n + j = ns.length → (∀ k, k < j → x ≠ nI k) →
      n_W p l e s m [Value.ref (ad 15 0), Value.int x].toArray below meth c (cw D ca ad ae Ex) (d + 1) (fun rv σ' => ((∃ k, k < ns.length ∧ x = nI k ∧ rv = some (.int (nI (ns.take k).sum))) ∨ ((¬ ∃ k, k < ns.length ∧ x = nI k) ∧ rv = some (.int (-1)))) ∧ σ' = σ) 4 [some (.ref (ad 15 0)), some (.int x), some (.int (x - nI j)), some (.int (nI (ns.take j).sum))] [] σ := by
    intro n
    induction n with
    | zero =>
      intro j hj hne
      have : j = ns.length := by omega
      subst this
      rw [m_at_end hbw]
      refine n_iload_n hC dX3_addressOf_4 rfl rfl ?_
      refine n_sipush (v := 1024) hC dX3_addressOf_5 (by decide) ?_
      refine n_icmp_ge (tgt := 36) hC dX3_addressOf_8 (by decide) (fun h => ?_) (fun h => ?_)
      · refine n_iconst (v := -1) hC dX3_addressOf_36 (by decide) ?_
        refine n_iret hC dX3_addressOf_37 ?_
        refine ⟨Or.inr ⟨fun z => ?_, rfl⟩, rfl⟩
        obtain ⟨k, hk, e⟩ := z
        exact hne k hk e
      · exact absurd (by decide) h
    | succ n ih =>
      intro j hj hne
      have hjl : j < ns.length := by omega
      obtain ⟨k1, k2, k3, k4⟩ := m_blk hM hB hjl
      have e1 : (nI (ns.take j).sum).toNatClampNeg = (ns.take j).sum := nI_clamp (by omega)
      have e2 : x - nI j = 0 ↔ x = nI j := by
        constructor
        · intro z
          have : x - nI j + nI j = 0 + nI j := by rw [z]
          rwa [Int32.sub_add_cancel, Int32.zero_add] at this
        · intro z
          rw [z, Int32.sub_self]
      refine n_iload_n hC dX3_addressOf_4 rfl rfl ?_
      refine n_sipush (v := 1024) hC dX3_addressOf_5 (by decide) ?_
      refine n_icmp_ge (tgt := 36) hC dX3_addressOf_8 (by decide) (fun h => ?_) (fun h => ?_)
      · exact absurd h (nI_ge (b := 1024) (by omega) (by decide))
      · clear h
        refine n_iload_n hC dX3_addressOf_11 rfl rfl ?_
        refine n_if_ne (tgt := 17) hC dX3_addressOf_12 (by decide) (fun h => ?_) (fun h => ?_)
        · refine n_iinc hC dX3_addressOf_17 rfl (show _ + Int32.ofInt (-1) = _ + (-1) from rfl) ?_
          refine n_iload_n hC dX3_addressOf_20 rfl rfl ?_
          refine n_aload_n hC dX3_addressOf_21 rfl rfl ?_
          refine g15_sizes hC (by first | assumption | exact rfl) wfX3_18 dX3_addressOf_22 ?_
          refine n_iload_n hC dX3_addressOf_25 rfl rfl ?_
          refine c_iald hC (by first | assumption | exact rfl) (fun _ => rfl) (by first | assumption | exact vp_in_nI (by omega) (by decide)) dX3_addressOf_26 ?_
          refine n_iconst (v := 1) hC dX3_addressOf_27 (by decide) ?_
          rw [e1, k3]
          refine n_mmax hC wmX3_25 (Nat.le_of_ble_eq_true rfl) dX3_addressOf_28 ?_
          rw [m_mx1 k2 (by omega)]
          refine n_iadd hC dX3_addressOf_31 ?_
          refine n_istore_n hC dX3_addressOf_32 rfl (Nat.le_of_ble_eq_true rfl) ?_
          refine n_goto (tgt := 4) hC dX3_addressOf_33 (by decide) ?_
          rw [nI_add, ← m_tk1 hjl, show x - nI j + (-1) = x - nI (j + 1) by rw [nI_succ]; grind]
          refine ih (j + 1) (by omega) (fun k hk => ?_)
          by_cases z : k = j
          · subst z
            exact fun q => h (e2.mpr q)
          · exact hne k (by omega)
        · refine n_iload_n hC dX3_addressOf_15 rfl rfl ?_
          refine n_iret hC dX3_addressOf_16 ?_
          exact ⟨Or.inl ⟨j, hjl, e2.mp h, rfl⟩, rfl⟩
  refine n_iload_n hC dX3_addressOf_0 rfl rfl ?_
  refine n_istore_n hC dX3_addressOf_1 rfl (Nat.le_of_ble_eq_true rfl) ?_
  refine n_iconst (v := 0) hC dX3_addressOf_2 (by decide) ?_
  refine n_istore_n hC dX3_addressOf_3 rfl (Nat.le_of_ble_eq_true rfl) ?_
  have := loop ns.length 0 (by omega) (fun k hk => by omega)
  rw [nI_0, Int32.sub_zero] at this
  exact this
def m_hd (M : n_M) (o x : Int32) : Prop := ∃ k, k < 1024 ∧ x = nI k ∧ M.1 11 k = o
theorem c_holds (d : Nat) (o x : Int32) (M : n_M) (σ : n_S) (hM : RepC M σ) : n_Ct l (cw D ca ad ae Ex) d yX3_holds cX3_holds 3 (some .boolean) [.ref (ad 15 0), .int o, .int x] σ (fun rv σ' => ((m_hd M o x ∧ rv = some (.int 1)) ∨ (¬ m_hd M o x ∧ rv = some (.int 0))) ∧ σ' = σ) := by
  refine n_ofW (by decide) (Nat.le_of_ble_eq_true rfl) ?_
  intro p e s m below meth c hC
  refine n_iload_n hC dX3_holds_0 rfl rfl ?_
  refine n_if_lt (tgt := 25) hC dX3_holds_1 (by decide) (fun h => ?_) (fun h => ?_)
  · refine n_iconst (v := 0) hC dX3_holds_25 (by decide) ?_
    refine n_zret hC dX3_holds_26 rfl ?_
    refine ⟨Or.inr ⟨fun z => ?_, rfl⟩, rfl⟩
    obtain ⟨k, hk, rfl, -⟩ := z
    exact nI_pos (by omega) h
  · obtain ⟨k, hk, rfl⟩ := nI_of h
    clear h
    refine n_iload_n hC dX3_holds_4 rfl rfl ?_
    refine n_sipush (v := 1024) hC dX3_holds_5 (by decide) ?_
    refine n_icmp_ge (tgt := 25) hC dX3_holds_8 (by decide) (fun h => ?_) (fun h => ?_)
    · refine n_iconst (v := 0) hC dX3_holds_25 (by decide) ?_
      refine n_zret hC dX3_holds_26 rfl ?_
      refine ⟨Or.inr ⟨fun z => ?_, rfl⟩, rfl⟩
      obtain ⟨k2, hk2, e, -⟩ := z
      rw [e] at h
      exact nI_ge (b := 1024) hk2 (by decide) h
    · have hk1 : k < 1024 := Nat.lt_of_not_le fun q => h (nI_le (a := 1024) q hk)
      clear h
      have e1 : (nI k).toNatClampNeg = k := nI_clamp hk
      refine n_aload_n hC dX3_holds_11 rfl rfl ?_
      refine g15_holders hC (by first | assumption | exact rfl) wfX3_15 dX3_holds_12 ?_
      refine n_iload_n hC dX3_holds_15 rfl rfl ?_
      refine c_iald hC (by first | assumption | exact rfl) (fun _ => rfl) (by first | assumption | exact vp_in_nI (by omega) (by decide)) dX3_holds_16 ?_
      rw [e1, show σ 17 0 k = M.1 11 k from hM.1 11 k hk1]
      refine n_iload_n hC dX3_holds_17 rfl rfl ?_
      refine n_icmp_ne (tgt := 25) hC dX3_holds_18 (by decide) (fun h => ?_) (fun h => ?_)
      · refine n_iconst (v := 0) hC dX3_holds_25 (by decide) ?_
        refine n_zret hC dX3_holds_26 rfl ?_
        refine ⟨Or.inr ⟨fun z => ?_, rfl⟩, rfl⟩
        obtain ⟨k2, hk2, e, e3⟩ := z
        have : k = k2 := (nI_eq (by omega) (by omega)).mp e
        subst this
        exact h e3
      · refine n_iconst (v := 1) hC dX3_holds_21 (by decide) ?_
        refine n_goto (tgt := 26) hC dX3_holds_22 (by decide) ?_
        refine n_zret hC dX3_holds_26 rfl ?_
        exact ⟨Or.inl ⟨⟨k, hk1, rfl, h⟩, rfl⟩, rfl⟩
def m_hf (M : n_M) (o x : Int32) : Prop := ∃ k, k < 1024 ∧ x = nI k ∧ M.1 11 k = o ∧ 0 < M.1 13 k
theorem c_holdsFrom (d : Nat) (o x : Int32) (M : n_M) (σ : n_S) (hM : RepC M σ) : n_Ct l (cw D ca ad ae Ex) (d + 1) yX3_holdsFrom cX3_holdsFrom 3 (some .boolean) [.ref (ad 15 0), .int o, .int x] σ (fun rv σ' => ((m_hf M o x ∧ rv = some (.int 1)) ∨ (¬ m_hf M o x ∧ rv = some (.int 0))) ∧ σ' = σ) := by
  refine n_ofW (by decide) (Nat.le_of_ble_eq_true rfl) ?_
  intro p e s m below meth c hC
  refine n_aload_n hC dX3_holdsFrom_0 rfl rfl ?_
  refine n_iload_n hC dX3_holdsFrom_1 rfl rfl ?_
  refine n_iload_n hC dX3_holdsFrom_2 rfl rfl ?_
  refine n_callV hC (c_holds d o x M σ hM) (Nat.le_refl _) (by decide) (by first | assumption | exact rfl) rfl rfl rfl ⟨wmX3_37, wi_yX3_holds, wv_yX3_holds, wzX3, wc_yX3_holds⟩ hy_yX3_holds rfl (Nat.le_of_ble_eq_true rfl) dX3_holdsFrom_3 (fun rv σ' hpo => ?_)
  obtain ⟨hpo, rfl⟩ := hpo
  rcases hpo with ⟨⟨k, hk, rfl, h3⟩, rfl⟩ | ⟨hn, rfl⟩
  · have e1 : (nI k).toNatClampNeg = k := nI_clamp (by omega)
    refine n_if_eq (tgt := 22) hC dX3_holdsFrom_6 (by decide) (fun h => ?_) (fun h => ?_)
    · exact absurd h (by decide)
    · clear h
      refine n_aload_n hC dX3_holdsFrom_9 rfl rfl ?_
      refine g15_sizes hC (by first | assumption | exact rfl) wfX3_18 dX3_holdsFrom_10 ?_
      refine n_iload_n hC dX3_holdsFrom_13 rfl rfl ?_
      refine c_iald hC (by first | assumption | exact rfl) (fun _ => rfl) (by first | assumption | exact vp_in_nI (by omega) (by decide)) dX3_holdsFrom_14 ?_
      rw [e1, show σ' 18 0 k = M.1 13 k from hM.1 13 k hk]
      refine n_if_le (tgt := 22) hC dX3_holdsFrom_15 (by decide) (fun h => ?_) (fun h => ?_)
      · refine n_iconst (v := 0) hC dX3_holdsFrom_22 (by decide) ?_
        refine n_zret hC dX3_holdsFrom_23 rfl ?_
        refine ⟨Or.inr ⟨fun z => ?_, rfl⟩, rfl⟩
        obtain ⟨k2, hk2, e, -, e4⟩ := z
        have : k = k2 := (nI_eq (by omega) (by omega)).mp e
        subst this
        exact absurd e4 (Int32.not_lt.mpr h)
      · refine n_iconst (v := 1) hC dX3_holdsFrom_18 (by decide) ?_
        refine n_goto (tgt := 23) hC dX3_holdsFrom_19 (by decide) ?_
        refine n_zret hC dX3_holdsFrom_23 rfl ?_
        exact ⟨Or.inl ⟨⟨k, hk, rfl, h3, Int32.not_le.mp h⟩, rfl⟩, rfl⟩
  · refine n_if_eq (tgt := 22) hC dX3_holdsFrom_6 (by decide) (fun h => ?_) (fun h => ?_)
    · refine n_iconst (v := 0) hC dX3_holdsFrom_22 (by decide) ?_
      refine n_zret hC dX3_holdsFrom_23 rfl ?_
      refine ⟨Or.inr ⟨fun z => ?_, rfl⟩, rfl⟩
      obtain ⟨k2, hk2, e, e3, -⟩ := z
      exact hn ⟨k2, hk2, e, e3⟩
    · exact absurd rfl h
end ME1
