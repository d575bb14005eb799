section RTN
variable {l : Launch} {D : va_G} {ca : Nat → ClassId} {ad : Nat → Nat → Nat} {Ex : State → Heap → Prop}
theorem x_wakeSleepers (d : Nat) (τ0 : n_S) (N : n_M) (τ : n_S) (hM : RQ τ0 N τ) (hR : IR N) (hdue : ∀ p, n_V p → m_due N p → N.1 7 p = N.1 15 0) : n_Ct l (rw D ca ad Ex) (d + 2) yX12_wakeSleepers cX12_wakeSleepers 4 none [.ref (ad 0 0)] τ (fun rv τ' => rv = none ∧ RQ τ0 (m_ws 12 N) τ') := by
  refine n_ofW (by decide) (Nat.le_of_ble_eq_true rfl) ?_
  intro p e s m below meth c hC
  have body : ∀ (t j : Nat) (τ1 : n_S) (P0 w2 w3 : Option Value), 12 - j ≤ t → j ≤ 12 → RQ τ0 (m_ws j N) τ1 → n_W p l e s m [Value.ref (ad 0 0)].toArray below meth c (rw D ca ad Ex) (d + 2) (fun rv τ' => rv = none ∧ RQ τ0 (m_ws 12 N) τ') 6 [some (.ref (ad 0 0)), P0, w2, w3] [] τ1 := by
    intro t
    induction t with
    | zero =>
      intro j τ1 P0 w2 w3 ht hj hQ
      have : j = 12 := by omega
      subst this
      have inner : ∀ (t k : Nat) (w3 : Option Value), t + k = 13 → 1 ≤ k → n_W p l e s m [Value.ref (ad 0 0)].toArray below meth c (rw D ca ad Ex) (d + 2) (fun rv τ' => rv = none ∧ RQ τ0 (m_ws 12 N) τ') 10 [some (.ref (ad 0 0)), some (.int 0), some (.int (nI k)), w3] [] τ1 := by
        intro t
        induction t with
        | zero =>
          intro k w3 hk hk1
          have : k = 13 := by omega
          subst this
          refine n_iload_n hC dX12_wakeSleepers_10 rfl rfl ?_
          refine n_bipush (v := 12) hC dX12_wakeSleepers_11 (by decide) ?_
          refine n_icmp_gt (tgt := 80) hC dX12_wakeSleepers_13 (by decide) (fun h => ?_) (fun h => ?_)
          · clear h
            refine n_iload_n hC dX12_wakeSleepers_80 rfl rfl ?_
            refine n_if_le (tgt := 2) hC dX12_wakeSleepers_81 (by decide) (fun h => ?_) (fun h => ?_)
            · clear h
              refine n_iload_n hC dX12_wakeSleepers_2 rfl rfl ?_
              refine n_if_le (tgt := 92) hC dX12_wakeSleepers_3 (by decide) (fun h => ?_) (fun h => ?_)
              · refine n_vret hC dX12_wakeSleepers_92 ?_
                exact ⟨rfl, hQ⟩
              · exact absurd (by decide) h
            · exact absurd (by decide) h
          · exact absurd (by decide) h
        | succ t ih =>
          intro k w3 hk hk1
          have hv : n_V k := ⟨hk1, by omega⟩
          have hnd := m_ws_due N hk1 12 (by omega)
          have no : n_W p l e s m [Value.ref (ad 0 0)].toArray below meth c (rw D ca ad Ex) (d + 2) (fun rv τ' => rv = none ∧ RQ τ0 (m_ws 12 N) τ') 43 [some (.ref (ad 0 0)), some (.int 0), some (.int (nI k)), w3] [] τ1 := by
            refine n_iconst (v := 0) hC dX12_wakeSleepers_43 (by decide) ?_
            refine n_istore_n hC dX12_wakeSleepers_44 rfl (Nat.le_of_ble_eq_true rfl) ?_
            refine n_iload_n hC dX12_wakeSleepers_45 rfl rfl ?_
            refine n_if_eq (tgt := 72) hC dX12_wakeSleepers_46 (by decide) (fun h => ?_) (fun h => ?_)
            · clear h
              refine n_iload_n hC dX12_wakeSleepers_72 rfl rfl ?_
              refine n_istore_n hC dX12_wakeSleepers_73 rfl (Nat.le_of_ble_eq_true rfl) ?_
              refine n_iinc hC dX12_wakeSleepers_74 rfl (show _ + Int32.ofInt 1 = _ + 1 from rfl) ?_
              refine n_goto (tgt := 10) hC dX12_wakeSleepers_77 (by decide) ?_
              rw [nI_1]
              exact ih (k + 1) _ (by omega) (by omega)
            · exact absurd rfl h
          refine n_iload_n hC dX12_wakeSleepers_10 rfl rfl ?_
          refine n_bipush (v := 12) hC dX12_wakeSleepers_11 (by decide) ?_
          refine n_icmp_gt (tgt := 80) hC dX12_wakeSleepers_13 (by decide) (fun h => ?_) (fun h => ?_)
          · exact absurd h (nI_nlt (a := 12) (by omega) (by decide))
          · clear h
            refine n_aload_n hC dX12_wakeSleepers_16 rfl rfl ?_
            refine gm_status hC wfX12_137 dX12_wakeSleepers_17 ?_
            refine n_iload_n hC dX12_wakeSleepers_20 rfl rfl ?_
            first | refine r_ld hC rfl (fun _ => rfl) (by decide) (by first | omega | with_reducible assumption) dX12_wakeSleepers_21 ?_ | refine r_needs hC (by first | exact vp_in_nI (by omega) (by decide) | with_reducible assumption) dX12_wakeSleepers_21 ?_
            rw [hQ.status hv]
            refine n_iconst (v := 5) hC dX12_wakeSleepers_22 (by decide) ?_
            refine n_icmp_ne (tgt := 43) hC dX12_wakeSleepers_23 (by decide) (fun h => ?_) (fun h => ?_)
            · exact no
            · have h5 := h
              clear h
              refine n_aload_n hC dX12_wakeSleepers_26 rfl rfl ?_
              refine gm_waits hC wfX12_185 dX12_wakeSleepers_27 ?_
              refine n_iload_n hC dX12_wakeSleepers_30 rfl rfl ?_
              first | refine r_ld hC rfl (fun _ => rfl) (by decide) (by first | omega | with_reducible assumption) dX12_wakeSleepers_31 ?_ | refine r_needs hC (by first | exact vp_in_nI (by omega) (by decide) | with_reducible assumption) dX12_wakeSleepers_31 ?_
              rw [hQ.waits hv]
              refine n_aload_n hC dX12_wakeSleepers_32 rfl rfl ?_
              refine gm_clock hC wfX12_399 dX12_wakeSleepers_33 ?_
              rw [hQ.clock]
              refine n_icmp_gt (tgt := 43) hC dX12_wakeSleepers_36 (by decide) (fun h => ?_) (fun h => ?_)
              · exact no
              · exact absurd ⟨h5, Int32.not_lt.mp h⟩ hnd
      refine n_iconst (v := 0) hC dX12_wakeSleepers_6 (by decide) ?_
      refine n_istore_n hC dX12_wakeSleepers_7 rfl (Nat.le_of_ble_eq_true rfl) ?_
      refine n_iconst (v := 1) hC dX12_wakeSleepers_8 (by decide) ?_
      refine n_istore_n hC dX12_wakeSleepers_9 rfl (Nat.le_of_ble_eq_true rfl) ?_
      exact inner 12 1 _ rfl (by omega)
    | succ t ih0 =>
      intro j τ1 P0 w2 w3 ht hj hQ
      have inner : ∀ (t' k P : Nat) (w3 : Option Value), t' + k = 13 → 1 ≤ k → ((P = 0 ∧ ∀ r, 1 ≤ r → r < k → ¬ m_due (m_ws j N) r) ∨ (n_V P ∧ P < k ∧ m_due (m_ws j N) P ∧ ∀ r, 1 ≤ r → r < P → ¬ m_due (m_ws j N) r)) → n_W p l e s m [Value.ref (ad 0 0)].toArray below meth c (rw D ca ad Ex) (d + 2) (fun rv τ' => rv = none ∧ RQ τ0 (m_ws 12 N) τ') 10 [some (.ref (ad 0 0)), some (.int (nI P)), some (.int (nI k)), w3] [] τ1 := by
        intro t'
        induction t' with
        | zero =>
          intro k P w3 hk hk1 hP
          have : k = 13 := by omega
          subst this
          refine n_iload_n hC dX12_wakeSleepers_10 rfl rfl ?_
          refine n_bipush (v := 12) hC dX12_wakeSleepers_11 (by decide) ?_
          refine n_icmp_gt (tgt := 80) hC dX12_wakeSleepers_13 (by decide) (fun h => ?_) (fun h => ?_)
          · clear h
            refine n_iload_n hC dX12_wakeSleepers_80 rfl rfl ?_
            refine n_if_le (tgt := 2) hC dX12_wakeSleepers_81 (by decide) (fun h => ?_) (fun h => ?_)
            · have hP0 : P = 0 := by
                rcases hP with ⟨z, -⟩ | ⟨z, -⟩
                · exact z
                · have := (nI_leI (a := P) (b := 0) (by have := z.2; omega) (by omega)).mp h
                  omega
              clear h
              subst hP0
              refine n_iload_n hC dX12_wakeSleepers_2 rfl rfl ?_
              refine n_if_le (tgt := 92) hC dX12_wakeSleepers_3 (by decide) (fun h => ?_) (fun h => ?_)
              · refine n_vret hC dX12_wakeSleepers_92 ?_
                refine ⟨rfl, ?_⟩
                rcases hP with ⟨-, z⟩ | ⟨z, -⟩
                · obtain ⟨a, b⟩ := m_ws_skip N (j := j) 12 hj (fun p' h1 h2 hd => by
                    obtain ⟨u1, u2⟩ := m_ws_above N (p := p') j h1
                    exact z p' (by omega) (by omega) ⟨u1.trans hd.1, by rw [u2, m_ws_15]; exact hd.2⟩)
                  exact hQ.gh19 a b
                · have := z.1
                  omega
              · exact absurd (by decide) h
            · rcases hP with ⟨z, -⟩ | ⟨hv, -, hd, hlo⟩
              · subst z
                exact absurd (by decide) h
              · clear h
                have hPj : j < P := by
                  rcases Nat.lt_or_ge j P with z | z
                  · exact z
                  · exact absurd hd (m_ws_due N hv.1 j z)
                obtain ⟨u1, u2⟩ := m_ws_above N (p := P) j hPj
                have hdN : m_due N P := ⟨u1.symm.trans hd.1, by
                  have := hd.2
                  rw [u2, m_ws_15] at this
                  exact this⟩
                obtain ⟨P1, rfl⟩ : ∃ P1, P = P1 + 1 := ⟨P - 1, by omega⟩
                obtain ⟨a, b⟩ := m_ws_skip N (j := j) P1 (by omega) (fun p' h1 h2 hd2 => by
                  obtain ⟨v1, v2⟩ := m_ws_above N (p := p') j h1
                  exact hlo p' (by omega) (by omega) ⟨v1.trans hd2.1, by rw [v2, m_ws_15]; exact hd2.2⟩)
                have hQ1 := hQ.gh19 a b
                obtain ⟨v1, v2⟩ := m_ws_above N (p := P1 + 1) P1 (by omega)
                have hR1 := IR_ws hR P1 (by have := hv.2; omega)
                have hl1 := hR1.lv hv
                obtain ⟨hv1, hv2⟩ := id hv
                refine n_aload_n hC dX12_wakeSleepers_84 rfl rfl ?_
                refine n_iload_n hC dX12_wakeSleepers_85 rfl rfl ?_
                refine n_callV hC (x_wake d (P1 + 1) τ0 _ _ hQ1 hv (hR1.1 _ hv) (hR1.row hv hl1.1 (hR1.notrow hv hl1.1 (by rw [v1, hdN.1]; decide)))) (Nat.le_refl _) (by decide) (by first | exact rfl | with_reducible assumption) rfl rfl rfl ⟨wmX12_324, wi_yX12_wake, wv_yX12_wake, wzX12, wc_yX12_wake⟩ hy_yX12_wake rfl (Nat.le_of_ble_eq_true rfl) dX12_wakeSleepers_86 (fun rv σ' hpo => ?_)
                obtain ⟨rfl, g⟩ := hpo
                rw [← m_ws_at N hdN] at g
                refine n_goto (tgt := 2) hC dX12_wakeSleepers_89 (by decide) ?_
                refine n_iload_n hC dX12_wakeSleepers_2 rfl rfl ?_
                refine n_if_le (tgt := 92) hC dX12_wakeSleepers_3 (by decide) (fun h => ?_) (fun h => ?_)
                · have := (nI_leI (a := P1 + 1) (b := 0) (by omega) (by omega)).mp h
                  omega
                · exact ih0 (P1 + 1) _ _ _ _ (by omega) hv2 g
          · exact absurd (by decide) h
        | succ t' ih =>
          intro k P w3 hk hk1 hP
          have hv : n_V k := ⟨hk1, by omega⟩
          have same : ¬ m_due (m_ws j N) k → n_W p l e s m [Value.ref (ad 0 0)].toArray below meth c (rw D ca ad Ex) (d + 2) (fun rv τ' => rv = none ∧ RQ τ0 (m_ws 12 N) τ') 43 [some (.ref (ad 0 0)), some (.int (nI P)), some (.int (nI k)), w3] [] τ1 := by
            intro hnd
            refine n_iconst (v := 0) hC dX12_wakeSleepers_43 (by decide) ?_
            refine n_istore_n hC dX12_wakeSleepers_44 rfl (Nat.le_of_ble_eq_true rfl) ?_
            refine n_iload_n hC dX12_wakeSleepers_45 rfl rfl ?_
            refine n_if_eq (tgt := 72) hC dX12_wakeSleepers_46 (by decide) (fun h => ?_) (fun h => ?_)
            · clear h
              refine n_iload_n hC dX12_wakeSleepers_72 rfl rfl ?_
              refine n_istore_n hC dX12_wakeSleepers_73 rfl (Nat.le_of_ble_eq_true rfl) ?_
              refine n_iinc hC dX12_wakeSleepers_74 rfl (show _ + Int32.ofInt 1 = _ + 1 from rfl) ?_
              refine n_goto (tgt := 10) hC dX12_wakeSleepers_77 (by decide) ?_
              rw [nI_1]
              refine ih (k + 1) P _ (by omega) (by omega) ?_
              rcases hP with ⟨z, z2⟩ | ⟨z1, z2, z3⟩
              · refine Or.inl ⟨z, fun r h1 h2 => ?_⟩
                by_cases zr : r = k
                · rw [zr]; exact hnd
                · exact z2 r h1 (by omega)
              · exact Or.inr ⟨z1, by omega, z3⟩
            · exact absurd rfl h
          refine n_iload_n hC dX12_wakeSleepers_10 rfl rfl ?_
          refine n_bipush (v := 12) hC dX12_wakeSleepers_11 (by decide) ?_
          refine n_icmp_gt (tgt := 80) hC dX12_wakeSleepers_13 (by decide) (fun h => ?_) (fun h => ?_)
          · exact absurd h (nI_nlt (a := 12) (by omega) (by decide))
          · clear h
            refine n_aload_n hC dX12_wakeSleepers_16 rfl rfl ?_
            refine gm_status hC wfX12_137 dX12_wakeSleepers_17 ?_
            refine n_iload_n hC dX12_wakeSleepers_20 rfl rfl ?_
            first | refine r_ld hC rfl (fun _ => rfl) (by decide) (by first | omega | with_reducible assumption) dX12_wakeSleepers_21 ?_ | refine r_needs hC (by first | exact vp_in_nI (by omega) (by decide) | with_reducible assumption) dX12_wakeSleepers_21 ?_
            rw [hQ.status hv]
            refine n_iconst (v := 5) hC dX12_wakeSleepers_22 (by decide) ?_
            refine n_icmp_ne (tgt := 43) hC dX12_wakeSleepers_23 (by decide) (fun h => ?_) (fun h => ?_)
            · exact same (fun z => h z.1)
            · have h5 := h
              clear h
              refine n_aload_n hC dX12_wakeSleepers_26 rfl rfl ?_
              refine gm_waits hC wfX12_185 dX12_wakeSleepers_27 ?_
              refine n_iload_n hC dX12_wakeSleepers_30 rfl rfl ?_
              first | refine r_ld hC rfl (fun _ => rfl) (by decide) (by first | omega | with_reducible assumption) dX12_wakeSleepers_31 ?_ | refine r_needs hC (by first | exact vp_in_nI (by omega) (by decide) | with_reducible assumption) dX12_wakeSleepers_31 ?_
              rw [hQ.waits hv]
              refine n_aload_n hC dX12_wakeSleepers_32 rfl rfl ?_
              refine gm_clock hC wfX12_399 dX12_wakeSleepers_33 ?_
              rw [hQ.clock]
              refine n_icmp_gt (tgt := 43) hC dX12_wakeSleepers_36 (by decide) (fun h => ?_) (fun h => ?_)
              · exact same (fun z => absurd h (Int32.not_lt.mpr z.2))
              · have hd : m_due (m_ws j N) k := ⟨h5, Int32.not_lt.mp h⟩
                clear h
                refine n_iconst (v := 1) hC dX12_wakeSleepers_39 (by decide) ?_
                refine n_goto (tgt := 44) hC dX12_wakeSleepers_40 (by decide) ?_
                refine n_istore_n hC dX12_wakeSleepers_44 rfl (Nat.le_of_ble_eq_true rfl) ?_
                refine n_iload_n hC dX12_wakeSleepers_45 rfl rfl ?_
                refine n_if_eq (tgt := 72) hC dX12_wakeSleepers_46 (by decide) (fun h => ?_) (fun h => ?_)
                · exact absurd h (by decide)
                · clear h
                  refine n_iload_n hC dX12_wakeSleepers_49 rfl rfl ?_
                  refine n_if_eq (tgt := 68) hC dX12_wakeSleepers_50 (by decide) (fun h => ?_) (fun h => ?_)
                  · have hP0 : P = 0 := by
                      rcases hP with ⟨z, -⟩ | ⟨z, -⟩
                      · exact z
                      · exact absurd h (nI_ne0 (by have := z.1; omega) (by have := z.2; omega))
                    clear h
                    refine n_iload_n hC dX12_wakeSleepers_68 rfl rfl ?_
                    refine n_goto (tgt := 73) hC dX12_wakeSleepers_69 (by decide) ?_
                    refine n_istore_n hC dX12_wakeSleepers_73 rfl (Nat.le_of_ble_eq_true rfl) ?_
                    refine n_iinc hC dX12_wakeSleepers_74 rfl (show _ + Int32.ofInt 1 = _ + 1 from rfl) ?_
                    refine n_goto (tgt := 10) hC dX12_wakeSleepers_77 (by decide) ?_
                    rw [nI_1]
                    refine ih (k + 1) k _ (by omega) (by omega) (Or.inr ⟨hv, by omega, hd, fun r h1 h2 => ?_⟩)
                    rcases hP with ⟨-, z⟩ | ⟨z, -⟩
                    · exact z r h1 h2
                    · have := z.1
                      omega
                  · rcases hP with ⟨z, -⟩ | ⟨zv, zk, zd, zl⟩
                    · subst z
                      exact absurd rfl h
                    · clear h
                      obtain ⟨zv1, zv2⟩ := id zv
                      have ofN : ∀ r, n_V r → m_due (m_ws j N) r → (m_ws j N).1 7 r = N.1 15 0 := by
                        intro r hr hdr
                        have hjr : j < r := by
                          rcases Nat.lt_or_ge j r with z | z
                          · exact z
                          · exact absurd hdr (m_ws_due N hr.1 j z)
                        obtain ⟨v1, v2⟩ := m_ws_above N (p := r) j hjr
                        rw [v2]
                        refine hdue r hr ⟨v1.symm.trans hdr.1, ?_⟩
                        have := hdr.2
                        rw [v2, m_ws_15] at this
                        exact this
                      refine n_aload_n hC dX12_wakeSleepers_53 rfl rfl ?_
                      refine gm_waits hC wfX12_185 dX12_wakeSleepers_54 ?_
                      refine n_iload_n hC dX12_wakeSleepers_57 rfl rfl ?_
                      first | refine r_ld hC rfl (fun _ => rfl) (by decide) (by first | omega | with_reducible assumption) dX12_wakeSleepers_58 ?_ | refine r_needs hC (by first | exact vp_in_nI (by omega) (by decide) | with_reducible assumption) dX12_wakeSleepers_58 ?_
                      rw [hQ.waits hv]
                      refine n_aload_n hC dX12_wakeSleepers_59 rfl rfl ?_
                      refine gm_waits hC wfX12_185 dX12_wakeSleepers_60 ?_
                      refine n_iload_n hC dX12_wakeSleepers_63 rfl rfl ?_
                      first | refine r_ld hC rfl (fun _ => rfl) (by decide) (by first | omega | with_reducible assumption) dX12_wakeSleepers_64 ?_ | refine r_needs hC (by first | exact vp_in_nI (by omega) (by decide) | with_reducible assumption) dX12_wakeSleepers_64 ?_
                      rw [hQ.waits zv, ofN k hv hd, ofN P zv zd]
                      refine n_icmp_ge (tgt := 72) hC dX12_wakeSleepers_65 (by decide) (fun h => ?_) (fun h => ?_)
                      · clear h
                        refine n_iload_n hC dX12_wakeSleepers_72 rfl rfl ?_
                        refine n_istore_n hC dX12_wakeSleepers_73 rfl (Nat.le_of_ble_eq_true rfl) ?_
                        refine n_iinc hC dX12_wakeSleepers_74 rfl (show _ + Int32.ofInt 1 = _ + 1 from rfl) ?_
                        refine n_goto (tgt := 10) hC dX12_wakeSleepers_77 (by decide) ?_
                        rw [nI_1]
                        exact ih (k + 1) P _ (by omega) (by omega) (Or.inr ⟨zv, by omega, zd, zl⟩)
                      · exact absurd (Int32.le_refl _) h
      refine n_iconst (v := 0) hC dX12_wakeSleepers_6 (by decide) ?_
      refine n_istore_n hC dX12_wakeSleepers_7 rfl (Nat.le_of_ble_eq_true rfl) ?_
      refine n_iconst (v := 1) hC dX12_wakeSleepers_8 (by decide) ?_
      refine n_istore_n hC dX12_wakeSleepers_9 rfl (Nat.le_of_ble_eq_true rfl) ?_
      exact inner 12 1 0 _ rfl (by omega) (Or.inl ⟨rfl, fun r a b => by omega⟩)
  refine n_iconst (v := 1) hC dX12_wakeSleepers_0 (by decide) ?_
  refine n_istore_n hC dX12_wakeSleepers_1 rfl (Nat.le_of_ble_eq_true rfl) ?_
  refine n_iload_n hC dX12_wakeSleepers_2 rfl rfl ?_
  refine n_if_le (tgt := 92) hC dX12_wakeSleepers_3 (by decide) (fun h => ?_) (fun h => ?_)
  · exact absurd h (by decide)
  · exact body 12 0 τ _ _ _ (by omega) (by omega) hM
theorem x_turn (d : Nat) (τ0 : n_S) (M : n_M) (τ : n_S) (hS : RS τ0 M τ) (hI : II M) (hJ : I7 M) (hclk : M.1 15 0 + 1 < 2147483647) : n_Ct l (rw D ca ad Ex) (d + 8) yX12_turn cX12_turn 3 (some .int) [.ref (ad 0 0)] τ (fun rv τ' => ∃ v M', m_tick M v M' ∧ rv = some (.int v) ∧ RepQ M' τ' ∧ RF M' τ' ∧ τ' 0 0 2 = τ0 0 0 2) := by
  have hM := hS.q
  have iW := II_wake hI
  have jW : I7 (m_wake M) := hJ.step (S7_wake M)
  have cW : (m_wake M).1 15 0 < 2147483647 := by rw [m_wake_15]; exact hclk
  have g0 := rq_15 (v := M.1 15 0 + 1) hM rfl
  have hdue : ∀ p, n_V p → m_due (m_clk M) p → (m_clk M).1 7 p = (m_clk M).1 15 0 := by
    intro p hp ⟨h5, hw⟩
    have h5 : M.1 0 p = 5 := h5
    have hw : M.1 7 p ≤ M.1 15 0 + 1 := hw
    have hs := ((hI.2.2.1 p hp).2.2.2.2 h5).2
    show M.1 7 p = M.1 15 0 + 1
    have a1 := Int32.lt_iff_toInt_lt.mp hs
    have a2 := Int32.le_iff_toInt_le.mp hw
    have a3 := Int32.lt_iff_toInt_lt.mp hclk
    have b1 := (M.1 15 0).toInt_lt
    have b2 := (M.1 15 0).le_toInt
    have b3 := (M.1 7 p).toInt_lt
    have b4 := (M.1 7 p).le_toInt
    have e : (M.1 15 0 + 1).toInt = (M.1 15 0).toInt + 1 := by
      rw [Int32.toInt_add]
      exact Int.bmod_eq_of_le (by show -2147483648 ≤ (M.1 15 0).toInt + 1; omega) (by show (M.1 15 0).toInt + 1 < 2147483648; omega)
    refine Int32.toInt_inj.mp ?_
    rw [e] at a2 ⊢
    omega
  have toWake : ∀ τ', RQ τ (m_ws 12 (m_clk M)) τ' → RQ τ (m_wake M) τ' := by
    intro τ' h
    unfold m_wake
    split
    · refine h.gh19 (fun c i hc => ?_) (fun c i => ?_)
      · exact (m_ws_19 (m_clk M) 2147483647 12).1 c i hc
      · exact (m_ws_19 (m_clk M) 2147483647 12).2 c i
    · rename_i hz
      obtain ⟨a, b⟩ := m_ws_skip (m_clk M) (j := 0) 12 (by omega) (fun p h1 h2 hd => by
        have h5 : M.1 0 p = 5 := hd.1
        have := ((hI.2.2.1 p ⟨h1, h2⟩).2.2.2.2 h5).1
        exact hz (Int32.le_trans (show (m_clk M).1 19 0 ≤ (m_clk M).1 7 p from this) hd.2))
      exact h.gh19 (fun c i hc => (a c i hc).symm) (fun c i => (b c i).symm)
  refine n_ofW (by decide) (Nat.le_of_ble_eq_true rfl) ?_
  intro p e s m below meth c hC
  refine n_aload_n hC dX12_turn_0 rfl rfl ?_
  refine n_dup hC dX12_turn_1 rfl ?_
  refine gm_clock hC wfX12_399 dX12_turn_2 ?_
  rw [hM.clock]
  refine n_iconst (v := 1) hC dX12_turn_5 (by decide) ?_
  refine n_iadd hC dX12_turn_6 ?_
  refine pm_clock hC wfX12_399 dX12_turn_7 ?_
  refine n_aload_n hC dX12_turn_10 rfl rfl ?_
  refine n_callV hC (x_wakeSleepers (d + 5) _ (m_clk M) _ g0 (IR_s hI.1 (by omega)) hdue) (Nat.le_refl _) (by decide) (by first | exact rfl | with_reducible assumption) rfl rfl rfl ⟨wmX12_422, wi_yX12_wakeSleepers, wv_yX12_wakeSleepers, wzX12, wc_yX12_wakeSleepers⟩ hy_yX12_wakeSleepers rfl (Nat.le_of_ble_eq_true rfl) dX12_turn_11 (fun rv τ1 hpo => ?_)
  obtain ⟨rfl, g⟩ := hpo
  have g := toWake _ g
  have s12 : ∀ i, (m_wake M).1 12 i = M.1 12 i := fun i => m_wake_12 M i
  have gS : RS τ (m_wake M) τ1 := ⟨g.1, RF_cong hS.2.1 (fun i _ => s12 i) (fun x => g.2.1 x), g.2.2.1, g.2.2.2⟩
  have loop : ∀ (t r : Nat), t + r = 3 → (∀ r', r' < r → (m_wake M).2 5 r' = []) → n_W p l e s m [Value.ref (ad 0 0)].toArray below meth c (rw D ca ad Ex) (d + 8) (fun rv τ' => ∃ v M', m_tick M v M' ∧ rv = some (.int v) ∧ RepQ M' τ' ∧ RF M' τ' ∧ τ' 0 0 2 = τ0 0 0 2) 16 [some (.ref (ad 0 0)), some (.int (nI r)), none] [] τ1 := by
    intro t
    induction t with
    | zero =>
      intro r hr hemp
      have : r = 3 := by omega
      subst this
      refine n_iload_n hC dX12_turn_16 rfl rfl ?_
      refine n_iconst (v := 3) hC dX12_turn_17 (by decide) ?_
      refine n_icmp_ge (tgt := 36) hC dX12_turn_18 (by decide) (fun h => ?_) (fun h => ?_)
      · clear h
        refine n_iload_n hC dX12_turn_36 rfl rfl ?_
        refine n_iconst (v := 3) hC dX12_turn_37 (by decide) ?_
        refine n_icmp_ne (tgt := 43) hC dX12_turn_38 (by decide) (fun h => ?_) (fun h => ?_)
        · exact absurd rfl h
        · refine n_iconst (v := -1) hC dX12_turn_41 (by decide) ?_
          refine n_iret hC dX12_turn_42 ?_
          exact ⟨-1, m_wake M, Or.inl ⟨hemp, rfl, rfl⟩, rfl, gS.1, gS.2.1, gS.2.2.2.trans hS.2.2.2⟩
      · exact absurd (by decide) h
    | succ t ih =>
      intro r hr hemp
      have hr3 : r < 3 := by omega
      obtain ⟨e1, e2, e3⟩ := g.row hr3
      refine n_iload_n hC dX12_turn_16 rfl rfl ?_
      refine n_iconst (v := 3) hC dX12_turn_17 (by decide) ?_
      refine n_icmp_ge (tgt := 36) hC dX12_turn_18 (by decide) (fun h => ?_) (fun h => ?_)
      · exact absurd h (nI_ge (b := 3) hr3 (by decide))
      · clear h
        refine n_aload_n hC dX12_turn_21 rfl rfl ?_
        refine gm_rowCount hC wfX12_194 dX12_turn_22 ?_
        refine n_iload_n hC dX12_turn_25 rfl rfl ?_
        first | refine r_ld hC rfl (fun _ => rfl) (by decide) (by first | omega | with_reducible assumption) dX12_turn_26 ?_ | refine r_needs hC (by first | exact vp_in_nI (by omega) (by decide) | with_reducible assumption) dX12_turn_26 ?_
        rw [e1]
        refine n_if_ne (tgt := 36) hC dX12_turn_27 (by decide) (fun h => ?_) (fun h => ?_)
        · have hne : (m_wake M).2 5 r ≠ [] := fun z => h (by rw [z]; rfl)
          clear h
          cases hx : (m_wake M).2 5 r with
          | nil => exact absurd hx hne
          | cons f u =>
          obtain ⟨q, hq, rfl, hq1, hq2⟩ := (iW.1.2.1 r hr3).2 f (by rw [hx]; simp)
          obtain ⟨hqa, hqb⟩ := id hq
          have ff : τ1 38 0 (13 * r) = nI q := by
            have := e3 0 (by rw [hx]; simp)
            rw [hx] at this
            exact this
          have tick : ∀ M', m_act (m_wake M) q M' → m_tick M (nI q) M' := fun M' z => Or.inr ⟨r, q, u, hr3, hemp, hq, hx, rfl, z⟩
          refine n_iload_n hC dX12_turn_36 rfl rfl ?_
          refine n_iconst (v := 3) hC dX12_turn_37 (by decide) ?_
          refine n_icmp_ne (tgt := 43) hC dX12_turn_38 (by decide) (fun h => ?_) (fun h => ?_)
          · clear h
            refine n_aload_n hC dX12_turn_43 rfl rfl ?_
            refine gm_rows hC wfX12_191 dX12_turn_44 ?_
            refine n_bipush (v := 13) hC dX12_turn_47 (by decide) ?_
            refine n_iload_n hC dX12_turn_49 rfl rfl ?_
            refine n_imul hC dX12_turn_50 ?_
            rw [show (13 : Int32) * nI r = nI (13 * r) from nI_mulL 13 r]
            first | refine r_ld hC rfl (fun _ => rfl) (by decide) (by first | omega | with_reducible assumption) dX12_turn_51 ?_ | refine r_needs hC (by first | exact vp_in_nI (by omega) (by decide) | with_reducible assumption) dX12_turn_51 ?_
            rw [ff]
            refine n_istore_n hC dX12_turn_52 rfl (Nat.le_of_ble_eq_true rfl) ?_
            refine n_aload_n hC dX12_turn_53 rfl rfl ?_
            refine n_iload_n hC dX12_turn_54 rfl rfl ?_
            refine n_callV hC (x_act d q τ (m_wake M) _ gS iW jW hq hq1 cW) (Nat.le_refl _) (by decide) (by first | exact rfl | with_reducible assumption) rfl rfl rfl ⟨wmX12_425, wi_yX12_act, wv_yX12_act, wzX12, wc_yX12_act⟩ hy_yX12_act rfl (Nat.le_of_ble_eq_true rfl) dX12_turn_55 (fun rv τ2 hpo => ?_)
            obtain ⟨rfl, Ma, a1, a2, a3, a4⟩ := hpo
            have gA : RQ τ2 Ma τ2 := ⟨a1, fun _ => rfl, rfl, rfl⟩
            have acode : τ2 0 0 2 = τ0 0 0 2 := a3.trans hS.2.2.2
            have stop : m_act (m_wake M) q Ma → n_W p l e s m [Value.ref (ad 0 0)].toArray below meth c (rw D ca ad Ex) (d + 8) (fun rv τ' => ∃ v M', m_tick M v M' ∧ rv = some (.int v) ∧ RepQ M' τ' ∧ RF M' τ' ∧ τ' 0 0 2 = τ0 0 0 2) 103 [some (.ref (ad 0 0)), some (.int (nI r)), some (.int (nI q))] [] τ2 := by
              intro hA
              refine n_iload_n hC dX12_turn_103 rfl rfl ?_
              refine n_iret hC dX12_turn_104 ?_
              exact ⟨nI q, Ma, tick _ hA, rfl, a1, a2, acode⟩
            refine n_aload_n hC dX12_turn_58 rfl rfl ?_
            refine gm_status hC wfX12_137 dX12_turn_59 ?_
            refine n_iload_n hC dX12_turn_62 rfl rfl ?_
            first | refine r_ld hC rfl (fun _ => rfl) (by decide) (by first | omega | with_reducible assumption) dX12_turn_63 ?_ | refine r_needs hC (by first | exact vp_in_nI (by omega) (by decide) | with_reducible assumption) dX12_turn_63 ?_
            rw [gA.status hq]
            refine n_iconst (v := 1) hC dX12_turn_64 (by decide) ?_
            refine n_icmp_ne (tgt := 103) hC dX12_turn_65 (by decide) (fun h => ?_) (fun h => ?_)
            · rcases a4 with ⟨-, z, -⟩ | ⟨-, z⟩
              · exact absurd z h
              · exact stop z
            · have h1a := h
              clear h
              refine n_aload_n hC dX12_turn_68 rfl rfl ?_
              refine gm_moved hC wfX12_392 dX12_turn_69 ?_
              refine n_if_ne (tgt := 103) hC dX12_turn_72 (by decide) (fun h => ?_) (fun h => ?_)
              · rcases a4 with ⟨z, -⟩ | ⟨-, z⟩
                · exact absurd z h
                · exact stop z
              · rcases a4 with ⟨-, -, hA, iA, jA⟩ | ⟨z | z, -⟩
                · clear h
                  refine n_aload_n hC dX12_turn_75 rfl rfl ?_
                  refine gm_inRow hC wfX12_188 dX12_turn_76 ?_
                  refine n_iload_n hC dX12_turn_79 rfl rfl ?_
                  refine n_dup2_11 hC dX12_turn_80 rfl rfl ?_
                  first | refine r_ld hC rfl (fun _ => rfl) (by decide) (by first | omega | with_reducible assumption) dX12_turn_81 ?_ | refine r_needs hC (by first | exact vp_in_nI (by omega) (by decide) | with_reducible assumption) dX12_turn_81 ?_
                  rw [gA.inRow hq]
                  have g8 := rq_8 (v := Ma.1 8 q + 1) gA hq
                  refine n_iconst (v := 1) hC dX12_turn_82 (by decide) ?_
                  refine n_iadd hC dX12_turn_83 ?_
                  refine r_st hC rfl (fun _ h => h) (fun _ => rfl) (by decide) (by first | omega | with_reducible assumption) dX12_turn_84 ?_
                  refine n_aload_n hC dX12_turn_85 rfl rfl ?_
                  refine gm_inRow hC wfX12_188 dX12_turn_86 ?_
                  refine n_iload_n hC dX12_turn_89 rfl rfl ?_
                  first | refine r_ld hC rfl (fun _ => rfl) (by decide) (by first | omega | with_reducible assumption) dX12_turn_90 ?_ | refine r_needs hC (by first | exact vp_in_nI (by omega) (by decide) | with_reducible assumption) dX12_turn_90 ?_
                  rw [n_up_e]
                  refine n_aload_n hC dX12_turn_91 rfl rfl ?_
                  refine gm_quantum hC wfX12_197 dX12_turn_92 ?_
                  rw [show (n_up τ2 37 0 q (Ma.1 8 q + 1)) 0 0 40 = Ma.1 16 0 from g8.quantum]
                  refine n_icmp_lt (tgt := 103) hC dX12_turn_95 (by decide) (fun h => ?_) (fun h => ?_)
                  · have hq0 : ¬ Ma.1 16 0 ≤ Ma.1 8 q + 1 := Int32.not_le.mpr h
                    refine n_iload_n hC dX12_turn_103 rfl rfl ?_
                    refine n_iret hC dX12_turn_104 ?_
                    refine ⟨nI q, _, tick _ hA, rfl, ?_⟩
                    unfold m_cont
                    rw [if_neg hq0]
                    exact ⟨g8.1, RF_cong a2 (fun i _ => ms_n (by omega)) (fun x => g8.2.1 x), g8.2.2.2.trans acode⟩
                  · have hq0 : Ma.1 16 0 ≤ Ma.1 8 q + 1 := Int32.not_lt.mp h
                    refine n_aload_n hC dX12_turn_98 rfl rfl ?_
                    refine n_iload_n hC dX12_turn_99 rfl rfl ?_
                    refine n_callV hC (x_toEnd (d + 6) q _ _ _ g8 hq (IR_s iA.1 (by omega)) h1a (jA q h1a)) (Nat.le_refl _) (by decide) (by first | exact rfl | with_reducible assumption) rfl rfl rfl ⟨wmX12_396, wi_yX12_toEnd, wv_yX12_toEnd, wzX12, wc_yX12_toEnd⟩ hy_yX12_toEnd rfl (Nat.le_of_ble_eq_true rfl) dX12_turn_100 (fun rv σ' hpo => ?_)
                    obtain ⟨rfl, g9⟩ := hpo
                    refine n_iload_n hC dX12_turn_103 rfl rfl ?_
                    refine n_iret hC dX12_turn_104 ?_
                    refine ⟨nI q, _, tick _ hA, rfl, ?_⟩
                    unfold m_cont
                    rw [if_pos hq0]
                    refine ⟨g9.1, RF_cong a2 (fun i _ => ?_) (fun x => g9.2.1 x), g9.2.2.2.trans acode⟩
                    rw [m_plast_sn (by omega), ms_n (by omega)]
                · rw [z] at h
                  exact absurd h (by decide)
                · exact absurd h1a z
          · have := (nI_eq (by omega) (by omega)).mp (show nI r = nI 3 from h)
            omega
        · have hnil : (m_wake M).2 5 r = [] := by
            have := (nI_eq (a := ((m_wake M).2 5 r).length) (b := 0) (by omega) (by omega)).mp h
            exact List.eq_nil_of_length_eq_zero this
          clear h
          refine n_iinc hC dX12_turn_30 rfl (show _ + Int32.ofInt 1 = _ + 1 from rfl) ?_
          refine n_goto (tgt := 16) hC dX12_turn_33 (by decide) ?_
          rw [nI_1]
          refine ih (r + 1) (by omega) (fun r' hr' => ?_)
          by_cases z : r' = r
          · rw [z]; exact hnil
          · exact hemp r' (by omega)
  refine n_iconst (v := 0) hC dX12_turn_14 (by decide) ?_
  refine n_istore_n hC dX12_turn_15 rfl (Nat.le_of_ble_eq_true rfl) ?_
  exact loop 3 0 rfl (fun r' h => by omega)
end RTN
