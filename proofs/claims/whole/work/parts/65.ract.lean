theorem r_op_20a : ∀ k, k < 43 → 1 ≤ k → (20 ≤ nI (r_op (k + 1)) ↔ 20 ≤ k) := by decide +kernel
theorem r_op_20b : ∀ k, k < 43 → 1 ≤ k → ((nI (r_op (k + 1)) = 20 ↔ k = 25) ∧ (nI (r_op (k + 1)) = 21 ↔ k = 26)) := by decide +kernel
theorem r_op_20c : ∀ k, k < 43 → 20 ≤ k → (nI (r_op (k + 1)) < 23 ↔ (k = 23 ∨ k = 25 ∨ k = 26)) := by decide +kernel
theorem r_op_20d : ∀ k, k < 43 → 20 ≤ k → (25 < nI (r_op (k + 1)) ↔ (k < 23 ∨ 29 < k ∨ k = 24)) := by decide +kernel
/-- what the reference's act leaves -/
def XT (τ0 : n_S) (M : n_M) (q : Nat) (τ' : n_S) : Prop := ∃ Ma, RepQ Ma τ' ∧ RF Ma τ' ∧ τ' 0 0 2 = τ0 0 0 2 ∧ ((τ' 0 0 52 = 0 ∧ Ma.1 0 q = 1 ∧ m_act M q (m_cont Ma q) ∧ II Ma ∧ I7 Ma) ∨ ((τ' 0 0 52 = 1 ∨ Ma.1 0 q ≠ 1) ∧ m_act M q Ma))
theorem XA.xt {τ0 τ' : n_S} {M : n_M} {q i0 n0 k : Nat} (hI : II M) (h7 : I7 M) (hq : n_V q) (h1 : M.1 0 q = 1) (hclk : M.1 15 0 < 2147483647) (htg : (k = 20 ∨ k = 21 ∨ k = 22 ∨ k = 34) → m_tg (M.2 12 i0).length ((M.2 13 i0).getD n0 0)) (hi0 : i0 < 12) (h4 : M.1 4 q = nI (i0 + 1)) (hk : k < 43) (hn0 : n0 < (M.2 12 i0).length) (hn : M.1 5 q = nI n0) (hop : (M.2 12 i0).getD n0 0 = nI (k + 1)) (hne : m_ne k ≤ (M.2 0 q).length) (h : XA τ0 M q k n0 ((M.2 13 i0).getD n0 0) τ') : XT τ0 M q τ' := by
  obtain ⟨Ma, g1, g2, g3, h5⟩ := h
  refine ⟨Ma, g1, g2, g3, ?_⟩
  rcases h5 with ⟨a, b, c, hnw, M1, rfl, hd⟩ | ⟨a, c⟩
  · obtain ⟨j1, j2, j3⟩ := II_do (II_adv hI hq h1 hi0 h4 hn0) hq h1 hclk hi0 h4 htg hnw hd
    exact Or.inl ⟨a, b, ⟨i0, hi0, h4, Or.inr ⟨n0, k, hk, hn0, hn, hop, Or.inr ⟨hne, c⟩⟩⟩, II_dn j1 hq j2, h7.step (((S7_s M (by omega)).trans (S7_do hd)).trans (S7_s _ (by omega)))⟩
  · exact Or.inr ⟨a, i0, hi0, h4, Or.inr ⟨n0, k, hk, hn0, hn, hop, Or.inr ⟨hne, c⟩⟩⟩
section RAC
variable {l : Launch} {D : va_G} {ca : Nat → ClassId} {ad : Nat → Nat → Nat} {Ex : State → Heap → Prop}
theorem x_act (d q : Nat) (τ0 : n_S) (M : n_M) (τ : n_S) (hS0 : RS τ0 M τ) (hI : II M) (hJ : I7 M) (hq : n_V q) (h1 : M.1 0 q = 1) (hclk : M.1 15 0 < 2147483647) : n_Ct l (rw D ca ad Ex) (d + 7) yX12_act cX12_act 4 none [.ref (ad 0 0), .int (nI q)] τ (fun rv τ' => rv = none ∧ XT τ0 M q τ') := by
  obtain ⟨hq1, hq2⟩ := id hq
  have ha := m_al1 h1
  have h7 := hJ q h1
  obtain ⟨i0, n0, hi0, h4, hpr, hn0le, hn, hu⟩ := hI.prog hq ha
  have hp256 := hpr.2.1
  have hM0 := hS0.q
  have hS : RS (n_up τ 0 0 52 0) M (n_up τ 0 0 52 0) := ⟨RepQ_52 hS0.1, RF_52 hS0.2.1, rfl, rfl⟩
  have hmv : (n_up τ 0 0 52 0) 0 0 52 = 0 := n_up_e _ _ _ _
  have hcode : (n_up τ 0 0 52 0) 0 0 2 = τ0 0 0 2 := (n_up_o (by omega)).trans hS0.2.2.2
  have hM := hS.q
  obtain ⟨e1, hl40, -⟩ := hM.stk hq
  obtain ⟨pl, po⟩ := hM.1.2.2.1 i0 hi0 hu
  have p24 := hM.1.2.1 q i0 hq hi0 h4
  have conv : ∀ τ', XT (n_up τ 0 0 52 0) M q τ' → XT τ0 M q τ' := fun τ' ⟨Ma, a1, a2, a3, a4⟩ => ⟨Ma, a1, a2, a3.trans hcode, a4⟩
  refine n_ofW (by decide) (Nat.le_of_ble_eq_true rfl) ?_
  intro p e s m below meth c hC
  refine n_sipush (v := 256) hC dX12_act_0 (by decide) ?_
  refine n_aload_n hC dX12_act_3 rfl rfl ?_
  refine gm_program hC wfX12_149 dX12_act_4 ?_
  refine n_iload_n hC dX12_act_7 rfl rfl ?_
  first | refine r_ld hC rfl (fun _ => rfl) (by decide) (by first | omega | with_reducible assumption) dX12_act_8 ?_ | refine r_needs hC (by first | exact vp_in_nI (by omega) (by decide) | with_reducible assumption) dX12_act_8 ?_
  rw [hM0.1.2.1 q i0 hq hi0 h4]
  refine n_imul hC dX12_act_9 ?_
  rw [show (256 : Int32) * nI i0 = nI (256 * i0) from nI_mulL 256 i0]
  refine n_aload_n hC dX12_act_10 rfl rfl ?_
  refine gm_next hC wfX12_152 dX12_act_11 ?_
  refine n_iload_n hC dX12_act_14 rfl rfl ?_
  first | refine r_ld hC rfl (fun _ => rfl) (by decide) (by first | omega | with_reducible assumption) dX12_act_15 ?_ | refine r_needs hC (by first | exact vp_in_nI (by omega) (by decide) | with_reducible assumption) dX12_act_15 ?_
  rw [hM0.next hq, hn]
  refine n_iadd hC dX12_act_16 ?_
  rw [nI_add]
  refine n_istore_n hC dX12_act_17 rfl (Nat.le_of_ble_eq_true rfl) ?_
  refine n_aload_n hC dX12_act_18 rfl rfl ?_
  refine n_iconst (v := 0) hC dX12_act_19 (by decide) ?_
  refine pm_moved hC ⟨rfl, rfl⟩ wfX12_392 dX12_act_20 ?_
  refine n_aload_n hC dX12_act_23 rfl rfl ?_
  refine gm_next hC wfX12_152 dX12_act_24 ?_
  refine n_iload_n hC dX12_act_27 rfl rfl ?_
  first | refine r_ld hC rfl (fun _ => rfl) (by decide) (by first | omega | with_reducible assumption) dX12_act_28 ?_ | refine r_needs hC (by first | exact vp_in_nI (by omega) (by decide) | with_reducible assumption) dX12_act_28 ?_
  rw [hM.next hq, hn]
  refine n_aload_n hC dX12_act_29 rfl rfl ?_
  refine gm_lengths hC wfX12_115 dX12_act_30 ?_
  refine n_aload_n hC dX12_act_33 rfl rfl ?_
  refine gm_program hC wfX12_149 dX12_act_34 ?_
  refine n_iload_n hC dX12_act_37 rfl rfl ?_
  first | refine r_ld hC rfl (fun _ => rfl) (by decide) (by first | omega | with_reducible assumption) dX12_act_38 ?_ | refine r_needs hC (by first | exact vp_in_nI (by omega) (by decide) | with_reducible assumption) dX12_act_38 ?_
  rw [p24]
  first | refine r_ld hC rfl (fun _ => rfl) (by decide) (by first | omega | with_reducible assumption) dX12_act_39 ?_ | refine r_needs hC (by first | exact vp_in_nI (by omega) (by decide) | with_reducible assumption) dX12_act_39 ?_
  rw [pl]
  refine n_icmp_lt (tgt := 51) hC dX12_act_40 (by decide) (fun h => ?_) (fun h => ?_)
  · have hlt : n0 < (M.2 12 i0).length := (nI_ltI (by omega) (by omega)).mp h
    clear h
    obtain ⟨k, hk, hop, htg⟩ := hpr.2.2 n0 hlt
    obtain ⟨po1, po2⟩ := po n0 hlt
    rw [hop, nI_clamp (by omega)] at po1
    have hnd := r_op_ne k hk
    have hin : vp_in (nI (r_op (k + 1))) 43 := vp_in_nI (r_op_lt k hk) (by decide)
    have hnl := m_ne_le k hk
    refine n_aload_n hC dX12_act_51 rfl rfl ?_
    refine gm_ops hC wfX12_109 dX12_act_52 ?_
    refine n_iload_n hC dX12_act_55 rfl rfl ?_
    first | refine r_ld hC rfl (fun _ => rfl) (by decide) (by first | omega | with_reducible assumption) dX12_act_56 ?_ | refine r_needs hC (by first | exact vp_in_nI (by omega) (by decide) | with_reducible assumption) dX12_act_56 ?_
    rw [po1]
    refine n_istore_n hC dX12_act_57 rfl (Nat.le_of_ble_eq_true rfl) ?_
    refine n_aload_n hC dX12_act_58 rfl rfl ?_
    refine gm_deep hC wfX12_155 dX12_act_59 ?_
    refine n_iload_n hC dX12_act_62 rfl rfl ?_
    first | refine r_ld hC rfl (fun _ => rfl) (by decide) (by first | omega | with_reducible assumption) dX12_act_63 ?_ | refine r_needs hC (by first | exact vp_in_nI (by omega) (by decide) | with_reducible assumption) dX12_act_63 ?_
    rw [e1]
    refine n_aload_n hC dX12_act_64 rfl rfl ?_
    refine gm_needs hC wfX12_101 dX12_act_65 ?_
    refine n_iload_n hC dX12_act_68 rfl rfl ?_
    first | refine r_ld hC rfl (fun _ => rfl) (by decide) (by first | omega | with_reducible assumption) dX12_act_69 ?_ | refine r_needs hC (by first | exact vp_in_nI (by omega) (by decide) | with_reducible assumption) dX12_act_69 ?_
    rw [hnd]
    refine n_icmp_ge (tgt := 83) hC dX12_act_70 (by decide) (fun h => ?_) (fun h => ?_)
    · have hne : m_ne k ≤ (M.2 0 q).length := (nI_leI (by omega) (by omega)).mp h
      clear h
      have fin : ∀ τ', XA (n_up τ 0 0 52 0) M q k n0 ((M.2 13 i0).getD n0 0) τ' → XT τ0 M q τ' := fun τ' h => conv τ' (h.xt hI hJ hq h1 hclk htg hi0 h4 hk hlt hn hop hne)
      refine n_iload_n hC dX12_act_83 rfl rfl ?_
      refine n_if_ne (tgt := 111) hC dX12_act_84 (by decide) (fun h => ?_) (fun h => ?_)
      · have hk1 : 1 ≤ k := by
          rcases Nat.eq_zero_or_pos k with z | z
          · rw [z] at h
            exact absurd (by decide) h
          · exact z
        clear h
        have o20 := r_op_20a k hk hk1
        obtain ⟨oe20, oe21⟩ := r_op_20b k hk hk1
        have toMem : (25 ≤ k ∧ k ≤ 29) → n_W p l e s m [Value.ref (ad 0 0), Value.int (nI q)].toArray below meth c (rw D ca ad Ex) (d + 7) (fun rv τ' => rv = none ∧ XT τ0 M q τ') 150 [some (.ref (ad 0 0)), some (.int (nI q)), some (.int (nI (256 * i0 + n0))), some (.int (nI (r_op (k + 1))))] [] (n_up τ 0 0 52 0) := by
          intro hk2
          refine n_aload_n hC dX12_act_150 rfl rfl ?_
          refine n_iload_n hC dX12_act_151 rfl rfl ?_
          refine n_iload_n hC dX12_act_152 rfl rfl ?_
          refine n_callV hC (x_memory (d + 2) k q n0 ((M.2 13 i0).getD n0 0) _ rfl hk2 _ M _ hmv hS hI hq h1 hn hne) (Nat.le_refl _) (by decide) (by first | exact rfl | with_reducible assumption) rfl rfl rfl ⟨wmX12_416, wi_yX12_memory, wv_yX12_memory, wzX12, wc_yX12_memory⟩ hy_yX12_memory rfl (Nat.le_of_ble_eq_true rfl) dX12_act_153 (fun rv σ' hpo => ?_)
          obtain ⟨rfl, g⟩ := hpo
          refine n_goto (tgt := 171) hC dX12_act_156 (by decide) ?_
          refine n_vret hC dX12_act_171 ?_
          exact ⟨rfl, fin _ g⟩
        have toOth : ((20 ≤ k ∧ k ≤ 24) ∨ (30 ≤ k ∧ k ≤ 42)) → n_W p l e s m [Value.ref (ad 0 0), Value.int (nI q)].toArray below meth c (rw D ca ad Ex) (d + 7) (fun rv τ' => rv = none ∧ XT τ0 M q τ') 159 [some (.ref (ad 0 0)), some (.int (nI q)), some (.int (nI (256 * i0 + n0))), some (.int (nI (r_op (k + 1))))] [] (n_up τ 0 0 52 0) := by
          intro hk2
          refine n_aload_n hC dX12_act_159 rfl rfl ?_
          refine n_iload_n hC dX12_act_160 rfl rfl ?_
          refine n_iload_n hC dX12_act_161 rfl rfl ?_
          refine n_aload_n hC dX12_act_162 rfl rfl ?_
          refine gm_numbers hC wfX12_112 dX12_act_163 ?_
          refine n_iload_n hC dX12_act_166 rfl rfl ?_
          first | refine r_ld hC rfl (fun _ => rfl) (by decide) (by first | omega | with_reducible assumption) dX12_act_167 ?_ | refine r_needs hC (by first | exact vp_in_nI (by omega) (by decide) | with_reducible assumption) dX12_act_167 ?_
          rw [po2]
          refine n_callV hC (x_others d k q n0 i0 ((M.2 13 i0).getD n0 0) _ rfl hk2 _ M _ hmv hS hI hq h1 h7 hn hne hi0 h4 hlt hu) (Nat.le_refl _) (by decide) (by first | exact rfl | with_reducible assumption) rfl rfl rfl ⟨wmX12_419, wi_yX12_others, wv_yX12_others, wzX12, wc_yX12_others⟩ hy_yX12_others rfl (Nat.le_of_ble_eq_true rfl) dX12_act_168 (fun rv σ' hpo => ?_)
          obtain ⟨rfl, g⟩ := hpo
          refine n_vret hC dX12_act_171 ?_
          exact ⟨rfl, fin _ g⟩
        refine n_iload_n hC dX12_act_111 rfl rfl ?_
        refine n_bipush (v := 20) hC dX12_act_112 (by decide) ?_
        refine n_icmp_ge (tgt := 126) hC dX12_act_114 (by decide) (fun h => ?_) (fun h => ?_)
        · have hk20 := o20.mp h
          clear h
          have o23 := r_op_20c k hk hk20
          have o25 := r_op_20d k hk hk20
          refine n_iload_n hC dX12_act_126 rfl rfl ?_
          refine n_bipush (v := 20) hC dX12_act_127 (by decide) ?_
          refine n_icmp_eq (tgt := 150) hC dX12_act_129 (by decide) (fun h => ?_) (fun h => ?_)
          · exact toMem (by have := oe20.mp h; omega)
          · have n20 : k ≠ 25 := fun z => h (oe20.mpr z)
            clear h
            refine n_iload_n hC dX12_act_132 rfl rfl ?_
            refine n_bipush (v := 21) hC dX12_act_133 (by decide) ?_
            refine n_icmp_eq (tgt := 150) hC dX12_act_135 (by decide) (fun h => ?_) (fun h => ?_)
            · exact toMem (by have := oe21.mp h; omega)
            · have n21 : k ≠ 26 := fun z => h (oe21.mpr z)
              clear h
              refine n_iload_n hC dX12_act_138 rfl rfl ?_
              refine n_bipush (v := 23) hC dX12_act_139 (by decide) ?_
              refine n_icmp_lt (tgt := 159) hC dX12_act_141 (by decide) (fun h => ?_) (fun h => ?_)
              · exact toOth (by have := o23.mp h; omega)
              · have n23 : k ≠ 23 := fun z => h (o23.mpr (Or.inl z))
                clear h
                refine n_iload_n hC dX12_act_144 rfl rfl ?_
                refine n_bipush (v := 25) hC dX12_act_145 (by decide) ?_
                refine n_icmp_gt (tgt := 159) hC dX12_act_147 (by decide) (fun h => ?_) (fun h => ?_)
                · exact toOth (by have := o25.mp h; omega)
                · exact toMem (by
                    have : ¬ (k < 23 ∨ 29 < k ∨ k = 24) := fun z => h (o25.mpr z)
                    omega)
        · have hk19 : k ≤ 19 := by
            rcases Nat.lt_or_ge k 20 with z | z
            · omega
            · exact absurd (o20.mpr z) h
          clear h
          refine n_aload_n hC dX12_act_117 rfl rfl ?_
          refine n_iload_n hC dX12_act_118 rfl rfl ?_
          refine n_iload_n hC dX12_act_119 rfl rfl ?_
          refine n_callV hC (x_plain (d + 2) k q n0 ((M.2 13 i0).getD n0 0) _ rfl ⟨hk1, hk19⟩ _ M _ hmv hS hI hq h1 hn hne) (Nat.le_refl _) (by decide) (by first | exact rfl | with_reducible assumption) rfl rfl rfl ⟨wmX12_413, wi_yX12_plain, wv_yX12_plain, wzX12, wc_yX12_plain⟩ hy_yX12_plain rfl (Nat.le_of_ble_eq_true rfl) dX12_act_120 (fun rv σ' hpo => ?_)
          obtain ⟨rfl, g⟩ := hpo
          refine n_goto (tgt := 171) hC dX12_act_123 (by decide) ?_
          refine n_vret hC dX12_act_171 ?_
          exact ⟨rfl, fin _ g⟩
      · have hk0 : k = 0 := by
          rcases Nat.eq_zero_or_pos k with z | z
          · exact z
          · exact absurd h (r_op_0 k hk z)
        clear h
        subst hk0
        refine n_aload_n hC dX12_act_87 rfl rfl ?_
        refine n_iload_n hC dX12_act_88 rfl rfl ?_
        refine n_iconst (v := 1) hC dX12_act_89 (by decide) ?_
        refine n_callV hC (x_fits (d + 3) q 1 _ M _ hS hI hq ha (by omega)) (Nat.le_refl _) (by decide) (by first | exact rfl | with_reducible assumption) rfl rfl rfl ⟨wmX12_342, wi_yX12_fits, wv_yX12_fits, wzX12, wc_yX12_fits⟩ hy_yX12_fits rfl (Nat.le_of_ble_eq_true rfl) dX12_act_90 (fun rv σ' hpo => ?_)
        rcases hpo with ⟨hle, rfl, hσ⟩ | ⟨hgt, rfl, g⟩
        · rw [hσ]
          refine n_if_eq (tgt := 171) hC dX12_act_93 (by decide) (fun h => ?_) (fun h => ?_)
          · exact absurd h (by decide)
          · clear h
            refine n_aload_n hC dX12_act_96 rfl rfl ?_
            refine n_iload_n hC dX12_act_97 rfl rfl ?_
            refine n_iconst (v := 0) hC dX12_act_98 (by decide) ?_
            refine n_aload_n hC dX12_act_99 rfl rfl ?_
            refine gm_numbers hC wfX12_112 dX12_act_100 ?_
            refine n_iload_n hC dX12_act_103 rfl rfl ?_
            first | refine r_ld hC rfl (fun _ => rfl) (by decide) (by first | omega | with_reducible assumption) dX12_act_104 ?_ | refine r_needs hC (by first | exact vp_in_nI (by omega) (by decide) | with_reducible assumption) dX12_act_104 ?_
            rw [po2]
            refine n_callV hC (x_result (d + 5) q 0 n0 ((M.2 13 i0).getD n0 0) _ M _ (M.2 0 q) [] hM hq hn (List.append_nil _).symm rfl (by omega)) (Nat.le_refl _) (by decide) (by first | exact rfl | with_reducible assumption) rfl rfl rfl ⟨wmX12_345, wi_yX12_result, wv_yX12_result, wzX12, wc_yX12_result⟩ hy_yX12_result rfl (Nat.le_of_ble_eq_true rfl) dX12_act_105 (fun rv σ' hpo => ?_)
            obtain ⟨rfl, g⟩ := hpo
            refine n_goto (tgt := 171) hC dX12_act_108 (by decide) ?_
            refine n_vret hC dX12_act_171 ?_
            exact ⟨rfl, fin _ (XA.stk hmv hS h1 g (m_nw_t (by omega)) hle (Or.inl (⟨by omega, rfl, _, rfl, rfl⟩)))⟩
        · refine n_if_eq (tgt := 171) hC dX12_act_93 (by decide) (fun h => ?_) (fun h => ?_)
          · refine n_vret hC dX12_act_171 ?_
            exact ⟨rfl, fin _ (XA.full hI hq ha g (m_nw_t (by omega)) hgt)⟩
          · exact absurd rfl h
    · have hlt2 : (M.2 0 q).length < m_ne k := by
        rcases Nat.lt_or_ge (M.2 0 q).length (m_ne k) with z | z
        · exact z
        · exact absurd (nI_le z (by omega)) h
      clear h
      refine n_aload_n hC dX12_act_73 rfl rfl ?_
      refine n_iload_n hC dX12_act_74 rfl rfl ?_
      refine n_bipush (v := -2) hC dX12_act_75 (by decide) ?_
      refine n_callV hC (x_finish (d + 4) q (-2) _ M _ hS hI hq ha) (Nat.le_refl _) (by decide) (by first | exact rfl | with_reducible assumption) rfl rfl rfl ⟨wmX12_330, wi_yX12_finish, wv_yX12_finish, wzX12, wc_yX12_finish⟩ hy_yX12_finish rfl (Nat.le_of_ble_eq_true rfl) dX12_act_77 (fun rv σ' hpo => ?_)
      obtain ⟨rfl, g⟩ := hpo
      refine n_goto (tgt := 171) hC dX12_act_80 (by decide) ?_
      refine n_vret hC dX12_act_171 ?_
      exact ⟨rfl, conv _ ⟨_, g.1, g.2.1, g.2.2.2, Or.inr ⟨Or.inr (by rw [m_fin_st hI hq ha]; decide), i0, hi0, h4, Or.inr ⟨n0, k, hk, hlt, hn, hop, Or.inl ⟨hlt2, rfl⟩⟩⟩⟩⟩
  · have hge : n0 = (M.2 12 i0).length := by
      rcases Nat.lt_or_ge n0 (M.2 12 i0).length with z | z
      · exact absurd (nI_lt z (by omega)) h
      · omega
    clear h
    refine n_aload_n hC dX12_act_43 rfl rfl ?_
    refine n_iload_n hC dX12_act_44 rfl rfl ?_
    refine n_bipush (v := -7) hC dX12_act_45 (by decide) ?_
    refine n_callV hC (x_finish (d + 4) q (-7) _ M _ hS hI hq ha) (Nat.le_refl _) (by decide) (by first | exact rfl | with_reducible assumption) rfl rfl rfl ⟨wmX12_330, wi_yX12_finish, wv_yX12_finish, wzX12, wc_yX12_finish⟩ hy_yX12_finish rfl (Nat.le_of_ble_eq_true rfl) dX12_act_47 (fun rv σ' hpo => ?_)
    obtain ⟨rfl, g⟩ := hpo
    refine n_vret hC dX12_act_50 ?_
    exact ⟨rfl, conv _ ⟨_, g.1, g.2.1, g.2.2.2, Or.inr ⟨Or.inr (by rw [m_fin_st hI hq ha]; decide), i0, hi0, h4, Or.inl ⟨by rw [← hge]; exact hn, rfl⟩⟩⟩⟩
end RAC
