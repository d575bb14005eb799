theorem m_tk_mono (ns : List Nat) {i j : Nat} (hij : i < j) (hj : j ≤ ns.length) : (ns.take i).sum + ns.getD i 0 ≤ (ns.take j).sum := by
  induction j with
  | zero => omega
  | succ j ih =>
    rw [m_tk1 (by omega)]
    by_cases e : i = j
    · rw [e]; omega
    · have := ih (by omega) (by omega)
      omega
theorem m_at_inj {M : n_M} (hB : IB M) {o o' x : Int32} {j j' : Nat} (h : m_at M o x j) (h' : m_at M o' x j') : j = j' := by
  obtain ⟨⟨b1, b2, b3⟩, -⟩ := hB
  obtain ⟨a1, a2, -⟩ := h
  obtain ⟨c1, c2, -⟩ := h'
  have l1 := m_tkle (m_nsl M) j
  have l2 := m_tkle (m_nsl M) j'
  have e := (nI_eq (by omega) (by omega)).mp (a2.symm.trans c2)
  have p1 := b2 _ (m_getmem a1)
  have p2 := b2 _ (m_getmem c1)
  rcases Nat.lt_trichotomy j j' with z | z | z
  · have := m_tk_mono (m_nsl M) z (by omega)
    omega
  · exact z
  · have := m_tk_mono (m_nsl M) z (by omega)
    omega
theorem m_at_hf {M : n_M} (hB : IB M) {o x : Int32} {j : Nat} (h : m_at M o x j) : m_hf M o x := by
  obtain ⟨⟨b1, b2, b3⟩, -, -, b6, b7⟩ := hB
  obtain ⟨a1, a2, a3⟩ := h
  have p1 := b2 _ (m_getmem a1)
  have l1 := m_tkle (m_nsl M) (j + 1)
  rw [m_tk1 a1] at l1
  refine ⟨((m_nsl M).take j).sum, by omega, a2, ?_, ?_⟩
  · rw [b6 _ (by omega), m_hs_at _ _ j _ b1 a1 (Nat.le_refl _) (by omega), a3]
  · rw [b7 _ (by omega), m_sz_at _ _ b2 a1]
    exact (nI_ltI (a := 0) (by omega) (by omega)).mpr p1
theorem m_hf_at {M : n_M} (hB : IB M) {o x : Int32} : m_hf M o x ↔ ∃ j, m_at M o x j := ⟨fun h => m_hf_j hB h, fun ⟨_, h⟩ => m_at_hf hB h⟩
theorem m_inb : ∀ (ns : List Nat) (k : Nat), k < ns.sum → ∃ j, j < ns.length ∧ (ns.take j).sum ≤ k ∧ k < (ns.take j).sum + ns.getD j 0
  | [], k, h => by simp at h
  | n :: ns, k, h => by
    by_cases e : k < n
    · exact ⟨0, by simp, by simp, by simpa using e⟩
    · rw [List.sum_cons] at h
      obtain ⟨j, h1, h2, h3⟩ := m_inb ns (k - n) (by omega)
      refine ⟨j + 1, by simpa using h1, ?_, ?_⟩
      · rw [List.take_succ_cons, List.sum_cons]; omega
      · rw [List.take_succ_cons, List.sum_cons, List.getD_cons_succ]; omega
theorem m_hd_b {M : n_M} (hB : IB M) {o x : Int32} : m_hd M o x ↔ ∃ j k, j < (m_nsl M).length ∧ x = nI k ∧ ((m_nsl M).take j).sum ≤ k ∧ k < ((m_nsl M).take j).sum + (m_nsl M).getD j 0 ∧ (M.2 11 0).getD j 0 = o := by
  obtain ⟨⟨b1, b2, b3⟩, -, -, b6, b7⟩ := hB
  constructor
  · rintro ⟨k, hk, rfl, h⟩
    obtain ⟨j, h1, h2, h3⟩ := m_inb (m_nsl M) k (by omega)
    refine ⟨j, k, h1, rfl, h2, h3, ?_⟩
    rw [← h, b6 k hk, m_hs_at _ _ j k b1 h1 h2 h3]
  · rintro ⟨j, k, h1, rfl, h2, h3, h4⟩
    have l1 := m_tkle (m_nsl M) (j + 1)
    rw [m_tk1 h1] at l1
    refine ⟨k, by omega, rfl, ?_⟩
    rw [b6 k (by omega), m_hs_at _ _ j k b1 h1 h2 h3, h4]
theorem RQ.rb {τ0 τ : n_S} {M : n_M} (h : RQ τ0 M τ) (hB : IB M) : RB (m_nsl M) (M.2 11 0) τ := h.1.2.rb hB
theorem IB.len {M : n_M} (hB : IB M) : (m_nsl M).length ≤ 1024 := by
  have := m_lelen (m_nsl M) hB.1.2.1
  have := hB.1.2.2
  omega
section RMM
variable {l : Launch} {D : va_G} {ca : Nat → ClassId} {ad : Nat → Nat → Nat} {Ex : State → Heap → Prop}
theorem x_blockFrom (d : Nat) (o x : Int32) (τ0 : n_S) (M : n_M) (τ : n_S) (hM : RQ τ0 M τ) (hB : IB M) : n_Ct l (rw D ca ad Ex) d yX12_blockFrom cX12_blockFrom 5 (some .int) [.ref (ad 0 0), .int o, .int x] τ (fun rv τ' => ((∃ j, m_at M o x j ∧ rv = some (.int (nI j))) ∨ ((¬ ∃ j, m_at M o x j) ∧ rv = some (.int (-1)))) ∧ τ' = τ) := by
  obtain ⟨e48, hR⟩ := hM.rb hB
  have hlen := hB.len
  refine n_ofW (by decide) (Nat.le_of_ble_eq_true rfl) ?_
  intro p e s m below meth c hC
  have loop : ∀ (n k : Nat) (f : Int32), n + k = (m_nsl M).length → ((∃ j, j < k ∧ m_at M o x j ∧ f = nI j) ∨ ((¬ ∃ j, j < k ∧ m_at M o x j) ∧ f = -1)) → n_W p l e s m [Value.ref (ad 0 0), Value.int o, Value.int x].toArray below meth c (rw D ca ad Ex) d (fun rv τ' => ((∃ j, m_at M o x j ∧ rv = some (.int (nI j))) ∨ ((¬ ∃ j, m_at M o x j) ∧ rv = some (.int (-1)))) ∧ τ' = τ) 5 [some (.ref (ad 0 0)), some (.int o), some (.int x), some (.int f), some (.int (nI k))] [] τ := by
    intro n
    induction n with
    | zero =>
      intro k f hn hf
      refine n_iload hC dX12_blockFrom_5 rfl ?_
      refine n_aload_n hC dX12_blockFrom_7 rfl rfl ?_
      refine gm_blocks hC wfX12_221 dX12_blockFrom_8 ?_
      rw [e48]
      refine n_icmp_ge (tgt := 49) hC dX12_blockFrom_11 (by decide) (fun h => ?_) (fun h => ?_)
      · refine n_iload_n hC dX12_blockFrom_49 rfl rfl ?_
        refine n_iret hC dX12_blockFrom_50 ?_
        refine ⟨?_, rfl⟩
        rcases hf with ⟨j, h1, h2, rfl⟩ | ⟨h1, rfl⟩
        · exact Or.inl ⟨j, h2, rfl⟩
        · exact Or.inr ⟨fun ⟨j, h2⟩ => h1 ⟨j, by have := h2.1; omega, h2⟩, rfl⟩
      · exact absurd (nI_le (a := (m_nsl M).length) (b := k) (by omega) (by omega)) h
    | succ n ih =>
      intro k f hn hf
      have hkl : k < (m_nsl M).length := by omega
      obtain ⟨w1, w2, w3⟩ := hR k hkl
      have nx : ∀ f2 : Int32, ((∃ j, j < k + 1 ∧ m_at M o x j ∧ f2 = nI j) ∨ ((¬ ∃ j, j < k + 1 ∧ m_at M o x j) ∧ f2 = -1)) → n_W p l e s m [Value.ref (ad 0 0), Value.int o, Value.int x].toArray below meth c (rw D ca ad Ex) d (fun rv τ' => ((∃ j, m_at M o x j ∧ rv = some (.int (nI j))) ∨ ((¬ ∃ j, m_at M o x j) ∧ rv = some (.int (-1)))) ∧ τ' = τ) 42 [some (.ref (ad 0 0)), some (.int o), some (.int x), some (.int f), some (.int (nI k))] [.int f2] τ := by
        intro f2 h2
        refine n_istore_n hC dX12_blockFrom_42 rfl (Nat.le_of_ble_eq_true rfl) ?_
        refine n_iinc hC dX12_blockFrom_43 rfl (show _ + Int32.ofInt 1 = _ + 1 from rfl) ?_
        refine n_goto (tgt := 5) hC dX12_blockFrom_46 (by decide) ?_
        rw [nI_1]
        exact ih (k + 1) f2 (by omega) h2
      have same : ¬ m_at M o x k → n_W p l e s m [Value.ref (ad 0 0), Value.int o, Value.int x].toArray below meth c (rw D ca ad Ex) d (fun rv τ' => ((∃ j, m_at M o x j ∧ rv = some (.int (nI j))) ∨ ((¬ ∃ j, m_at M o x j) ∧ rv = some (.int (-1)))) ∧ τ' = τ) 41 [some (.ref (ad 0 0)), some (.int o), some (.int x), some (.int f), some (.int (nI k))] [] τ := by
        intro hno
        refine n_iload_n hC dX12_blockFrom_41 rfl rfl ?_
        refine nx f ?_
        rcases hf with ⟨j, h1, h2, rfl⟩ | ⟨h1, rfl⟩
        · exact Or.inl ⟨j, by omega, h2, rfl⟩
        · refine Or.inr ⟨fun ⟨j, h2, h3⟩ => ?_, rfl⟩
          by_cases ej : j = k
          · rw [ej] at h3; exact hno h3
          · exact h1 ⟨j, by omega, h3⟩
      refine n_iload hC dX12_blockFrom_5 rfl ?_
      refine n_aload_n hC dX12_blockFrom_7 rfl rfl ?_
      refine gm_blocks hC wfX12_221 dX12_blockFrom_8 ?_
      rw [e48]
      refine n_icmp_ge (tgt := 49) hC dX12_blockFrom_11 (by decide) (fun h => ?_) (fun h => ?_)
      · exact absurd h (nI_ge hkl (by omega))
      · clear h
        refine n_aload_n hC dX12_blockFrom_14 rfl rfl ?_
        refine gm_blockOf hC wfX12_218 dX12_blockFrom_15 ?_
        refine n_iload hC dX12_blockFrom_18 rfl ?_
        first | refine r_ld hC rfl (fun _ => rfl) (by decide) (by first | omega | with_reducible assumption) dX12_blockFrom_20 ?_ | refine r_needs hC (by first | exact vp_in_nI (by omega) (by decide) | with_reducible assumption) dX12_blockFrom_20 ?_
        rw [w3]
        refine n_iload_n hC dX12_blockFrom_21 rfl rfl ?_
        refine n_icmp_ne (tgt := 41) hC dX12_blockFrom_22 (by decide) (fun h => ?_) (fun h => ?_)
        · exact same (fun z => h z.2.2)
        · have ho := h
          clear h
          refine n_aload_n hC dX12_blockFrom_25 rfl rfl ?_
          refine gm_blockAt hC wfX12_212 dX12_blockFrom_26 ?_
          refine n_iload hC dX12_blockFrom_29 rfl ?_
          first | refine r_ld hC rfl (fun _ => rfl) (by decide) (by first | omega | with_reducible assumption) dX12_blockFrom_31 ?_ | refine r_needs hC (by first | exact vp_in_nI (by omega) (by decide) | with_reducible assumption) dX12_blockFrom_31 ?_
          rw [w1]
          refine n_iload_n hC dX12_blockFrom_32 rfl rfl ?_
          refine n_icmp_ne (tgt := 41) hC dX12_blockFrom_33 (by decide) (fun h => ?_) (fun h => ?_)
          · exact same (fun z => h z.2.1.symm)
          · refine n_iload hC dX12_blockFrom_36 rfl ?_
            refine n_goto (tgt := 42) hC dX12_blockFrom_38 (by decide) ?_
            exact nx (nI k) (Or.inl ⟨k, by omega, ⟨hkl, h.symm, ho⟩, rfl⟩)
  refine n_iconst (v := -1) hC dX12_blockFrom_0 (by decide) ?_
  refine n_istore_n hC dX12_blockFrom_1 rfl (Nat.le_of_ble_eq_true rfl) ?_
  refine n_iconst (v := 0) hC dX12_blockFrom_2 (by decide) ?_
  refine n_istore hC dX12_blockFrom_3 (Nat.le_of_ble_eq_true rfl) ?_
  exact loop (m_nsl M).length 0 (-1) (by omega) (Or.inr ⟨fun ⟨j, h1, _⟩ => by omega, rfl⟩)
theorem x_holds (d : Nat) (o x : Int32) (τ0 : n_S) (M : n_M) (τ : n_S) (hM : RQ τ0 M τ) (hB : IB M) : n_Ct l (rw D ca ad Ex) d yX12_holds cX12_holds 5 (some .boolean) [.ref (ad 0 0), .int o, .int x] τ (fun rv τ' => ((m_hd M o x ∧ rv = some (.int 1)) ∨ (¬ m_hd M o x ∧ rv = some (.int 0))) ∧ τ' = τ) := by
  obtain ⟨e48, hR⟩ := hM.rb hB
  have hlen := hB.len
  have hhd := m_hd_b (o := o) (x := x) hB
  obtain ⟨⟨b1, b2, b3⟩, -⟩ := hB
  refine n_ofW (by decide) (Nat.le_of_ble_eq_true rfl) ?_
  intro p e s m below meth c hC
  have loop : ∀ (n k : Nat) (f : Int32), n + k = (m_nsl M).length → ((m_hd M o x ∧ f = 1) ∨ ((¬ ∃ j y, j < k ∧ x = nI y ∧ ((m_nsl M).take j).sum ≤ y ∧ y < ((m_nsl M).take j).sum + (m_nsl M).getD j 0 ∧ (M.2 11 0).getD j 0 = o) ∧ f = 0)) → n_W p l e s m [Value.ref (ad 0 0), Value.int o, Value.int x].toArray below meth c (rw D ca ad Ex) d (fun rv τ' => ((m_hd M o x ∧ rv = some (.int 1)) ∨ (¬ m_hd M o x ∧ rv = some (.int 0))) ∧ τ' = τ) 5 [some (.ref (ad 0 0)), some (.int o), some (.int x), some (.int f), some (.int (nI k))] [] τ := by
    intro n
    induction n with
    | zero =>
      intro k f hn hf
      refine n_iload hC dX12_holds_5 rfl ?_
      refine n_aload_n hC dX12_holds_7 rfl rfl ?_
      refine gm_blocks hC wfX12_221 dX12_holds_8 ?_
      rw [e48]
      refine n_icmp_ge (tgt := 71) hC dX12_holds_11 (by decide) (fun h => ?_) (fun h => ?_)
      · refine n_iload_n hC dX12_holds_71 rfl rfl ?_
        rcases hf with ⟨h1, rfl⟩ | ⟨h1, rfl⟩
        · refine n_zret hC dX12_holds_72 rfl ?_
          exact ⟨Or.inl ⟨h1, rfl⟩, rfl⟩
        · refine n_zret hC dX12_holds_72 rfl ?_
          exact ⟨Or.inr ⟨fun z => by obtain ⟨j, y, g1, g2⟩ := hhd.mp z; exact h1 ⟨j, y, by omega, g2⟩, rfl⟩, rfl⟩
      · exact absurd (nI_le (a := (m_nsl M).length) (b := k) (by omega) (by omega)) h
    | succ n ih =>
      intro k f hn hf
      have hkl : k < (m_nsl M).length := by omega
      obtain ⟨w1, w2, w3⟩ := hR k hkl
      have l1 := m_tkle (m_nsl M) (k + 1)
      rw [m_tk1 hkl] at l1
      have one : m_hd M o x → n_W p l e s m [Value.ref (ad 0 0), Value.int o, Value.int x].toArray below meth c (rw D ca ad Ex) d (fun rv τ' => ((m_hd M o x ∧ rv = some (.int 1)) ∨ (¬ m_hd M o x ∧ rv = some (.int 0))) ∧ τ' = τ) 59 [some (.ref (ad 0 0)), some (.int o), some (.int x), some (.int f), some (.int (nI k))] [] τ := by
        intro h2
        refine n_iconst (v := 1) hC dX12_holds_59 (by decide) ?_
        refine n_goto (tgt := 64) hC dX12_holds_60 (by decide) ?_
        refine n_istore_n hC dX12_holds_64 rfl (Nat.le_of_ble_eq_true rfl) ?_
        refine n_iinc hC dX12_holds_65 rfl (show _ + Int32.ofInt 1 = _ + 1 from rfl) ?_
        refine n_goto (tgt := 5) hC dX12_holds_68 (by decide) ?_
        rw [nI_1]
        exact ih (k + 1) 1 (by omega) (Or.inl ⟨h2, rfl⟩)
      refine n_iload hC dX12_holds_5 rfl ?_
      refine n_aload_n hC dX12_holds_7 rfl rfl ?_
      refine gm_blocks hC wfX12_221 dX12_holds_8 ?_
      rw [e48]
      refine n_icmp_ge (tgt := 71) hC dX12_holds_11 (by decide) (fun h => ?_) (fun h => ?_)
      · exact absurd h (nI_ge hkl (by omega))
      · clear h
        refine n_iload_n hC dX12_holds_14 rfl rfl ?_
        refine n_if_ne (tgt := 59) hC dX12_holds_15 (by decide) (fun h => ?_) (fun h => ?_)
        · rcases hf with ⟨h1, rfl⟩ | ⟨h1, rfl⟩
          · exact one h1
          · exact absurd rfl h
        · have h0 : ¬ ∃ j y, j < k ∧ x = nI y ∧ ((m_nsl M).take j).sum ≤ y ∧ y < ((m_nsl M).take j).sum + (m_nsl M).getD j 0 ∧ (M.2 11 0).getD j 0 = o := by
            rcases hf with ⟨h1, rfl⟩ | ⟨h1, rfl⟩
            · exact absurd h (by decide)
            · exact h1
          clear h
          have zer : ¬ (∃ y, x = nI y ∧ ((m_nsl M).take k).sum ≤ y ∧ y < ((m_nsl M).take k).sum + (m_nsl M).getD k 0 ∧ (M.2 11 0).getD k 0 = o) → n_W p l e s m [Value.ref (ad 0 0), Value.int o, Value.int x].toArray below meth c (rw D ca ad Ex) d (fun rv τ' => ((m_hd M o x ∧ rv = some (.int 1)) ∨ (¬ m_hd M o x ∧ rv = some (.int 0))) ∧ τ' = τ) 63 [some (.ref (ad 0 0)), some (.int o), some (.int x), some (.int f), some (.int (nI k))] [] τ := by
            intro h2
            refine n_iconst (v := 0) hC dX12_holds_63 (by decide) ?_
            refine n_istore_n hC dX12_holds_64 rfl (Nat.le_of_ble_eq_true rfl) ?_
            refine n_iinc hC dX12_holds_65 rfl (show _ + Int32.ofInt 1 = _ + 1 from rfl) ?_
            refine n_goto (tgt := 5) hC dX12_holds_68 (by decide) ?_
            rw [nI_1]
            refine ih (k + 1) 0 (by omega) (Or.inr ⟨fun ⟨j, y, g1, g2⟩ => ?_, rfl⟩)
            by_cases ej : j = k
            · rw [ej] at g2; exact h2 ⟨y, g2⟩
            · exact h0 ⟨j, y, by omega, g2⟩
          refine n_aload_n hC dX12_holds_18 rfl rfl ?_
          refine gm_blockOf hC wfX12_218 dX12_holds_19 ?_
          refine n_iload hC dX12_holds_22 rfl ?_
          first | refine r_ld hC rfl (fun _ => rfl) (by decide) (by first | omega | with_reducible assumption) dX12_holds_24 ?_ | refine r_needs hC (by first | exact vp_in_nI (by omega) (by decide) | with_reducible assumption) dX12_holds_24 ?_
          rw [w3]
          refine n_iload_n hC dX12_holds_25 rfl rfl ?_
          refine n_icmp_ne (tgt := 63) hC dX12_holds_26 (by decide) (fun h => ?_) (fun h => ?_)
          · exact zer (fun ⟨y, _, _, _, z⟩ => h z)
          · have ho := h
            clear h
            refine n_iload_n hC dX12_holds_29 rfl rfl ?_
            refine n_aload_n hC dX12_holds_30 rfl rfl ?_
            refine gm_blockAt hC wfX12_212 dX12_holds_31 ?_
            refine n_iload hC dX12_holds_34 rfl ?_
            first | refine r_ld hC rfl (fun _ => rfl) (by decide) (by first | omega | with_reducible assumption) dX12_holds_36 ?_ | refine r_needs hC (by first | exact vp_in_nI (by omega) (by decide) | with_reducible assumption) dX12_holds_36 ?_
            rw [w1]
            refine n_icmp_lt (tgt := 63) hC dX12_holds_37 (by decide) (fun h => ?_) (fun h => ?_)
            · refine zer (fun ⟨y, z1, z2, z3, _⟩ => ?_)
              rw [z1] at h
              have := (nI_ltI (by omega) (by omega)).mp h
              omega
            · have hge := h
              clear h
              have x0 : ¬ x < 0 := fun z => hge (Int32.lt_of_lt_of_le z (nI_pos' (by omega)))
              obtain ⟨y, hy, rfl⟩ := nI_of x0
              have hge2 : ((m_nsl M).take k).sum ≤ y := by
                rcases Nat.lt_or_ge y ((m_nsl M).take k).sum with z | z
                · exact absurd (nI_lt z (by omega)) hge
                · exact z
              refine n_iload_n hC dX12_holds_40 rfl rfl ?_
              refine n_aload_n hC dX12_holds_41 rfl rfl ?_
              refine gm_blockAt hC wfX12_212 dX12_holds_42 ?_
              refine n_iload hC dX12_holds_45 rfl ?_
              first | refine r_ld hC rfl (fun _ => rfl) (by decide) (by first | omega | with_reducible assumption) dX12_holds_47 ?_ | refine r_needs hC (by first | exact vp_in_nI (by omega) (by decide) | with_reducible assumption) dX12_holds_47 ?_
              rw [w1]
              refine n_isub hC dX12_holds_48 ?_
              rw [nI_subL hge2]
              refine n_aload_n hC dX12_holds_49 rfl rfl ?_
              refine gm_blockSize hC wfX12_215 dX12_holds_50 ?_
              refine n_iload hC dX12_holds_53 rfl ?_
              first | refine r_ld hC rfl (fun _ => rfl) (by decide) (by first | omega | with_reducible assumption) dX12_holds_55 ?_ | refine r_needs hC (by first | exact vp_in_nI (by omega) (by decide) | with_reducible assumption) dX12_holds_55 ?_
              rw [w2]
              refine n_icmp_ge (tgt := 63) hC dX12_holds_56 (by decide) (fun h => ?_) (fun h => ?_)
              · refine zer (fun ⟨y2, z1, z2, z3, _⟩ => ?_)
                have ey := (nI_eq hy (by omega)).mp z1
                have := (nI_leI (by omega) (by omega)).mp h
                omega
              · have hlt : y - ((m_nsl M).take k).sum < (m_nsl M).getD k 0 := by
                  rcases Nat.lt_or_ge (y - ((m_nsl M).take k).sum) ((m_nsl M).getD k 0) with z | z
                  · exact z
                  · exact absurd (nI_le z (by omega)) h
                exact one (hhd.mpr ⟨k, y, hkl, rfl, hge2, by omega, ho⟩)
  refine n_iconst (v := 0) hC dX12_holds_0 (by decide) ?_
  refine n_istore_n hC dX12_holds_1 rfl (Nat.le_of_ble_eq_true rfl) ?_
  refine n_iconst (v := 0) hC dX12_holds_2 (by decide) ?_
  refine n_istore hC dX12_holds_3 (Nat.le_of_ble_eq_true rfl) ?_
  exact loop (m_nsl M).length 0 0 (by omega) (Or.inr ⟨fun ⟨j, y, h1, _⟩ => by omega, rfl⟩)
theorem x_held (d : Nat) (o : Int32) (τ0 : n_S) (M : n_M) (τ : n_S) (hM : RQ τ0 M τ) (hB : IB M) : n_Ct l (rw D ca ad Ex) d yX12_held cX12_held 4 (some .int) [.ref (ad 0 0), .int o] τ (fun rv τ' => rv = some (.int (nI (m_own (m_nsl M) (M.2 11 0) o))) ∧ τ' = τ) := by
  obtain ⟨e48, hR⟩ := hM.rb hB
  have hlen := hB.len
  obtain ⟨⟨b1, b2, b3⟩, -⟩ := hB
  refine n_ofW (by decide) (Nat.le_of_ble_eq_true rfl) ?_
  intro p e s m below meth c hC
  have loop : ∀ (n k : Nat), n + k = (m_nsl M).length → n_W p l e s m [Value.ref (ad 0 0), Value.int o].toArray below meth c (rw D ca ad Ex) d (fun rv τ' => rv = some (.int (nI (m_own (m_nsl M) (M.2 11 0) o))) ∧ τ' = τ) 4 [some (.ref (ad 0 0)), some (.int o), some (.int (nI (m_own ((m_nsl M).take k) ((M.2 11 0).take k) o))), some (.int (nI k))] [] τ := by
    intro n
    induction n with
    | zero =>
      intro k hn
      refine n_iload_n hC dX12_held_4 rfl rfl ?_
      refine n_aload_n hC dX12_held_5 rfl rfl ?_
      refine gm_blocks hC wfX12_221 dX12_held_6 ?_
      rw [e48]
      refine n_icmp_ge (tgt := 41) hC dX12_held_9 (by decide) (fun h => ?_) (fun h => ?_)
      · refine n_iload_n hC dX12_held_41 rfl rfl ?_
        refine n_iret hC dX12_held_42 ?_
        have ek : k = (m_nsl M).length := by omega
        rw [ek, List.take_length, show (M.2 11 0).take (m_nsl M).length = M.2 11 0 from by rw [b1, List.take_length]]
        exact ⟨rfl, rfl⟩
      · exact absurd (nI_le (a := (m_nsl M).length) (b := k) (by omega) (by omega)) h
    | succ n ih =>
      intro k hn
      have hkl : k < (m_nsl M).length := by omega
      obtain ⟨w1, w2, w3⟩ := hR k hkl
      have hown := m_own_tk (m_nsl M) (M.2 11 0) o k b1 hkl
      have ih2 := ih (k + 1) (by omega)
      rw [hown] at ih2
      refine n_iload_n hC dX12_held_4 rfl rfl ?_
      refine n_aload_n hC dX12_held_5 rfl rfl ?_
      refine gm_blocks hC wfX12_221 dX12_held_6 ?_
      rw [e48]
      refine n_icmp_ge (tgt := 41) hC dX12_held_9 (by decide) (fun h => ?_) (fun h => ?_)
      · exact absurd h (nI_ge hkl (by omega))
      · clear h
        refine n_iload_n hC dX12_held_12 rfl rfl ?_
        refine n_aload_n hC dX12_held_13 rfl rfl ?_
        refine gm_blockOf hC wfX12_218 dX12_held_14 ?_
        refine n_iload_n hC dX12_held_17 rfl rfl ?_
        first | refine r_ld hC rfl (fun _ => rfl) (by decide) (by first | omega | with_reducible assumption) dX12_held_18 ?_ | refine r_needs hC (by first | exact vp_in_nI (by omega) (by decide) | with_reducible assumption) dX12_held_18 ?_
        rw [w3]
        refine n_iload_n hC dX12_held_19 rfl rfl ?_
        refine n_icmp_ne (tgt := 32) hC dX12_held_20 (by decide) (fun h => ?_) (fun h => ?_)
        · rw [if_neg h] at ih2
          refine n_iconst (v := 0) hC dX12_held_32 (by decide) ?_
          refine n_iadd hC dX12_held_33 ?_
          refine n_istore_n hC dX12_held_34 rfl (Nat.le_of_ble_eq_true rfl) ?_
          refine n_iinc hC dX12_held_35 rfl (show _ + Int32.ofInt 1 = _ + 1 from rfl) ?_
          refine n_goto (tgt := 4) hC dX12_held_38 (by decide) ?_
          rw [nI_1, show ∀ y : Int32, y + 0 = y from fun y => by simp]
          exact ih2
        · rw [if_pos h] at ih2
          refine n_aload_n hC dX12_held_23 rfl rfl ?_
          refine gm_blockSize hC wfX12_215 dX12_held_24 ?_
          refine n_iload_n hC dX12_held_27 rfl rfl ?_
          first | refine r_ld hC rfl (fun _ => rfl) (by decide) (by first | omega | with_reducible assumption) dX12_held_28 ?_ | refine r_needs hC (by first | exact vp_in_nI (by omega) (by decide) | with_reducible assumption) dX12_held_28 ?_
          rw [w2]
          refine n_goto (tgt := 33) hC dX12_held_29 (by decide) ?_
          refine n_iadd hC dX12_held_33 ?_
          refine n_istore_n hC dX12_held_34 rfl (Nat.le_of_ble_eq_true rfl) ?_
          refine n_iinc hC dX12_held_35 rfl (show _ + Int32.ofInt 1 = _ + 1 from rfl) ?_
          refine n_goto (tgt := 4) hC dX12_held_38 (by decide) ?_
          rw [nI_1, nI_add]
          exact ih2
  refine n_iconst (v := 0) hC dX12_held_0 (by decide) ?_
  refine n_istore_n hC dX12_held_1 rfl (Nat.le_of_ble_eq_true rfl) ?_
  refine n_iconst (v := 0) hC dX12_held_2 (by decide) ?_
  refine n_istore_n hC dX12_held_3 rfl (Nat.le_of_ble_eq_true rfl) ?_
  exact loop (m_nsl M).length 0 (by omega)
end RMM
