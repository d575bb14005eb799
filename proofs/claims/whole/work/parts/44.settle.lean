def m_cont (M : n_M) (q : Nat) : n_M := if M.1 16 0 ≤ M.1 8 q + 1 then m_plast (m_s M 8 q (M.1 8 q + 1)) q (M.1 2 q) else m_s M 8 q (M.1 8 q + 1)
def m_set (q : Nat) (v : Int32) (M M' : n_M) : Prop :=
  (v < 0 ∧ M' = m_fin M q v) ∨ (v = 3 ∧ ∃ t x, M.2 0 q = t ++ [x] ∧ M' = m_fin (m_l M 0 q t) q x) ∨ (v = 1 ∧ M' = m_s M 6 q (M.1 6 q + 1)) ∨ (v = 2 ∧ M' = M) ∨ (v = 0 ∧ M' = m_cont (m_s M 6 q (M.1 6 q + 1)) q)
theorem II_set {q : Nat} {v : Int32} {M M' : n_M} (h : II M) (hq : n_V q) (ha : m_al M q) (h1 : v ≠ 1 → M.1 0 q = 1) (hs : m_set q v M M') : II M' := by
  have did : ∀ {N : n_M}, II N → m_al N q → II (m_s N 6 q (N.1 6 q + 1)) := fun a b => II_own a hq b (fun c i e _ => ms_n (by omega)) (fun _ _ _ _ _ _ => rfl)
  have str : ∀ {N : n_M}, II N → m_al N q → II (m_s N 8 q (N.1 8 q + 1)) := fun a b => II_own a hq b (fun c i e _ => ms_n (by omega)) (fun _ _ _ _ _ _ => rfl)
  rcases hs with ⟨-, rfl⟩ | ⟨-, t, x, -, rfl⟩ | ⟨-, rfl⟩ | ⟨-, rfl⟩ | ⟨hv, rfl⟩
  · exact II_fin h hq ha v
  · exact II_fin (II_stk h hq ha t) hq ha x
  · exact did h ha
  · exact h
  · have h1' := h1 (by rw [hv]; decide)
    unfold m_cont
    have g1 := did h ha
    have ga : m_al (m_s M 6 q (M.1 6 q + 1)) q := ha
    have g0 : (m_s M 6 q (M.1 6 q + 1)).1 0 q = 1 := h1'
    generalize m_s M 6 q (M.1 6 q + 1) = N at g1 ga g0 ⊢
    have g2 := str g1 ga
    split
    · exact II_plast g2 hq g0 (g1.1.1 q hq)
    · exact g2
theorem cw_op_0 (ae : Nat → Nat) : va_rf (cw_op ae 0) = .null := by simp [cw_op, va_rf]
theorem cw_op_i (ae : Nat → Nat) {i : Nat} (hi : i < 43) : va_rf (cw_op ae (nI (i + 1))) = .ref (ae i) := by
  have h0 : ¬ nI (i + 1) = 0 := nI_ne0 (by omega) (by omega)
  have h1 : (nI (i + 1)).toNatClampNeg = i + 1 := nI_clamp (by omega)
  simp [cw_op, h0, h1, va_rf]
def m_act (M : n_M) (q : Nat) (M' : n_M) : Prop :=
  ∃ i, i < 12 ∧ M.1 4 q = nI (i + 1) ∧ ((M.1 5 q = nI (M.2 12 i).length ∧ M' = m_fin M q (-7)) ∨
    ∃ n0 k, k < 43 ∧ n0 < (M.2 12 i).length ∧ M.1 5 q = nI n0 ∧ (M.2 12 i).getD n0 0 = nI (k + 1) ∧
      (((M.2 0 q).length < m_ne k ∧ M' = m_fin M q (-2)) ∨ (m_ne k ≤ (M.2 0 q).length ∧ (m_mw M q k M' ∨ (m_nw M q k ∧
        ((40 < (M.2 0 q).length + m_gr k ∧ M' = m_fin M q (-3)) ∨ ((M.2 0 q).length + m_gr k ≤ 40 ∧ ∃ v M1, m_do q k ((M.2 13 i).getD n0 0) (m_s M 5 q (nI (n0 + 1))) v M1 ∧ m_set q v M1 M')))))))
def m_tick (M : n_M) (v : Int32) (M' : n_M) : Prop :=
  ((∀ r, r < 3 → (m_wake M).2 5 r = []) ∧ v = -1 ∧ M' = m_wake M) ∨
  ∃ r q t, r < 3 ∧ (∀ r', r' < r → (m_wake M).2 5 r' = []) ∧ n_V q ∧ (m_wake M).2 5 r = nI q :: t ∧ v = nI q ∧ m_act (m_wake M) q M'
/-- a living process's program and place -/
theorem II.prog {M : n_M} (h : II M) {q : Nat} (hq : n_V q) (ha : m_al M q) : ∃ i n0, i < 12 ∧ M.1 4 q = nI (i + 1) ∧ m_prg M i ∧ n0 ≤ (M.2 12 i).length ∧ M.1 5 q = nI n0 ∧ 0 < M.1 12 i := by
  obtain ⟨i, hi, h4, ⟨n0, hn0, h5⟩, -⟩ := (h.2.2.1 q hq).2.2.2.1 (m_al_st ha).1
  have hu : 0 < M.1 12 i := by
    rw [h.2.2.2.2.1 i hi]
    have hc := m_cnt_off (M := M) (M' := m_s M 4 q 0) i (fun r hr => ms_n (by omega)) (ms_e _ _ _ _) hq.1 12 (Nat.le_refl _) hi
    rw [if_pos ⟨hq.2, h4⟩] at hc
    have := m_cnt_le M i 12
    exact (nI_ltI (a := 0) (by omega) (by omega)).mpr (by omega)
  exact ⟨i, n0, hi, h4, h.2.2.2.2.2 i hi hu, hn0, h5, hu⟩
theorem II_mw {M M' : n_M} {q k : Nat} (h : II M) (hq : n_V q) (h1 : M.1 0 q = 1) (hw : m_mw M q k M') : II M' := by
  rcases hw with ⟨-, -, rfl⟩ | ⟨-, -, rfl⟩ | ⟨-, t, x, r, -, -, -, rfl⟩
  · exact II_susp (s := 2) h hq h1 (by omega) (fun z => by omega)
  · exact II_susp (s := 4) h hq h1 (by omega) (fun z => by omega)
  · exact II_susp (s := 3) h hq h1 (by omega) (fun z => by omega)
theorem II_act {M M' : n_M} {q : Nat} (h : II M) (hq : n_V q) (h1 : M.1 0 q = 1) (hclk : M.1 15 0 < 2147483647) (hA : m_act M q M') : II M' := by
  have ha := m_al1 h1
  obtain ⟨i, hi, h4, ⟨-, rfl⟩ | ⟨n0, k, hk, hn0, h5, hop, hA⟩⟩ := hA
  · exact II_fin h hq ha _
  obtain ⟨i', n', hi', h4', hpg, -, -, -⟩ := h.prog hq ha
  obtain rfl : i' = i := by
    have := (nI_eq (by omega) (by omega)).mp (h4'.symm.trans h4)
    omega
  rcases hA with ⟨-, rfl⟩ | ⟨hne, hw | ⟨hnw, ⟨-, rfl⟩ | ⟨hgr, v, M1, hd, hs⟩⟩⟩
  · exact II_fin h hq ha _
  · exact II_mw h hq h1 hw
  · exact II_fin h hq ha _
  · have hret : ∀ x ∈ M.2 1 q, m_tg (M.2 12 i').length x := by
      obtain ⟨i2, hi2, x1, x2, x3⟩ := (h.2.2.1 q hq).2.2.2.1 (m_al_st ha).1
      obtain rfl : i2 = i' := by
        have := (nI_eq (by omega) (by omega)).mp (x1.symm.trans h4)
        omega
      exact x3
    have hN : II (m_s M 5 q (nI (n0 + 1))) := by
      have := II_next h hq ha hi h4 (x := nI (n0 + 1)) ⟨n0 + 1, by omega, rfl⟩ hret
      rw [ml_id rfl] at this
      exact this
    obtain ⟨k', hk', hop', htg⟩ := hpg.2.2 n0 hn0
    obtain rfl : k' = k := by
      have := (nI_eq (by omega) (by omega)).mp (hop'.symm.trans hop)
      omega
    obtain ⟨g1, g2, g3⟩ := II_do hN hq h1 hclk hi h4 htg hnw hd
    exact II_set g1 hq g2 g3 hs
section ST1
variable {l : Launch} {D : va_G} {ca : Nat → ClassId} {ad : Nat → Nat → Nat} {ae : Nat → Nat} {ts : Nat} {Ex : State → Heap → Prop}
theorem c_settle (d q : Nat) (v : Int32) (M : n_M) (σ : n_S) (hq : n_V q) (hM : RepC M σ) (hI : II M) (hv : v < 0 ∨ v = 0 ∨ v = 1 ∨ v = 2 ∨ (v = 3 ∧ 1 ≤ (M.2 0 q).length)) : n_Ct l (cw D ca ad ae Ex) (d + 4) yX10_settle cX10_settle 3 none [.ref (ad 20 0), .ref (ad 21 q), .int v] σ (fun rv σ' => rv = none ∧ ∃ M', m_set q v M M' ∧ RepC M' σ') := by
  have hlv := hI.1.lv hq
  refine n_ofW (by decide) (Nat.le_of_ble_eq_true rfl) ?_
  intro p e s m below meth c hC
  have hd : cw_dom 21 q := hq
  have e6 : σ 21 q 13 = M.1 6 q := hM.1 6 q hq
  refine n_iload_n hC dX10_settle_0 rfl rfl ?_
  rcases hv with hv | hv | hv | hv | ⟨hv, hne⟩
  · refine n_if_ge (tgt := 16) hC dX10_settle_1 (by decide) (fun h => ?_) (fun h => ?_)
    · exact absurd hv (Int32.not_lt.mpr h)
    · refine n_aload_n hC dX10_settle_4 rfl rfl ?_
      refine g20_desk hC (by first | exact rfl | with_reducible assumption) wfX10_15 dX10_settle_5 ?_
      refine n_aload_n hC dX10_settle_8 rfl rfl ?_
      refine n_iload_n hC dX10_settle_9 rfl rfl ?_
      refine n_callV hC (c_finish d q v M σ hM hI.2.1 hI.1 hI.w.ip hq (hI.pr hq)) (Nat.le_refl _) (by decide) (by first | exact rfl | with_reducible assumption) rfl rfl rfl ⟨wmX10_54, wi_yX2_finish, wv_yX2_finish, wzX2, wc_yX2_finish⟩ hy_yX2_finish rfl (Nat.le_of_ble_eq_true rfl) dX10_settle_10 (fun rv σ' hpo => ?_)
      obtain ⟨rfl, h1⟩ := hpo
      refine n_goto (tgt := 101) hC dX10_settle_13 (by decide) ?_
      refine n_vret hC dX10_settle_101 ?_
      exact ⟨rfl, _, Or.inl ⟨hv, rfl⟩, h1⟩
  · subst hv
    refine n_if_ge (tgt := 16) hC dX10_settle_1 (by decide) (fun h => ?_) (fun h => ?_)
    · clear h
      refine n_iload_n hC dX10_settle_16 rfl rfl ?_
      refine n_iconst (v := 3) hC dX10_settle_17 (by decide) ?_
      refine n_icmp_ne (tgt := 36) hC dX10_settle_18 (by decide) (fun h => ?_) (fun h => ?_)
      · clear h
        refine n_iload_n hC dX10_settle_36 rfl rfl ?_
        refine n_iconst (v := 1) hC dX10_settle_37 (by decide) ?_
        refine n_icmp_ne (tgt := 54) hC dX10_settle_38 (by decide) (fun h => ?_) (fun h => ?_)
        · clear h
          refine n_iload_n hC dX10_settle_54 rfl rfl ?_
          refine n_if_ne (tgt := 101) hC dX10_settle_55 (by decide) (fun h => ?_) (fun h => ?_)
          · exact absurd rfl h
          · clear h
            refine n_aload_n hC dX10_settle_58 rfl rfl ?_
            refine n_dup hC dX10_settle_59 rfl ?_
            refine g21_done hC (by first | exact rfl | with_reducible assumption) wfX10_61 dX10_settle_60 ?_
            rw [e6]
            refine n_iconst (v := 1) hC dX10_settle_63 (by decide) ?_
            refine n_iadd hC dX10_settle_64 ?_
            refine p21_done hC (by first | exact rfl | with_reducible assumption) wfX10_61 dX10_settle_65 ?_
            have hM1 := cu_6 (v := M.1 6 q + 1) hM hq
            have hI1 : IR (m_s M 6 q (M.1 6 q + 1)) := IR_s hI.1 (by omega)
            have eset : ∀ M', M' = m_cont (m_s M 6 q (M.1 6 q + 1)) q → m_set q 0 M M' := fun M' z => Or.inr (Or.inr (Or.inr (Or.inr ⟨rfl, z⟩)))
            have lv1 : m_lv (m_s M 6 q (M.1 6 q + 1)) q < 3 := hlv.1
            generalize m_s M 6 q (M.1 6 q + 1) = N at hM1 hI1 eset lv1
            generalize n_up σ 21 q 13 (M.1 6 q + 1) = σ1 at hM1 ⊢
            have e8 : σ1 21 q 14 = N.1 8 q := hM1.1 8 q hq
            refine n_aload_n hC dX10_settle_68 rfl rfl ?_
            refine n_dup hC dX10_settle_69 rfl ?_
            refine g21_streak hC (by first | exact rfl | with_reducible assumption) wfX10_64 dX10_settle_70 ?_
            rw [e8]
            refine n_iconst (v := 1) hC dX10_settle_73 (by decide) ?_
            refine n_iadd hC dX10_settle_74 ?_
            refine p21_streak hC (by first | exact rfl | with_reducible assumption) wfX10_64 dX10_settle_75 ?_
            have hM2 := cu_8 (v := N.1 8 q + 1) hM1 hq
            have hI2 : IR (m_s N 8 q (N.1 8 q + 1)) := IR_s hI1 (by omega)
            have e16 : n_up σ1 21 q 14 (N.1 8 q + 1) 20 0 1 = N.1 16 0 := hM2.1 16 0 rfl
            have e9 : n_up σ1 21 q 14 (N.1 8 q + 1) 21 q 9 = N.1 2 q := hM2.1 2 q hq
            have e88 : n_up σ1 21 q 14 (N.1 8 q + 1) 21 q 14 = N.1 8 q + 1 := (hM2.1 8 q hq).trans (ms_e _ _ _ _)
            refine n_aload_n hC dX10_settle_78 rfl rfl ?_
            refine g21_streak hC (by first | exact rfl | with_reducible assumption) wfX10_64 dX10_settle_79 ?_
            refine n_aload_n hC dX10_settle_82 rfl rfl ?_
            refine g20_quantum hC (by first | exact rfl | with_reducible assumption) wfX10_9 dX10_settle_83 ?_
            rw [e88, e16]
            refine n_icmp_lt (tgt := 101) hC dX10_settle_86 (by decide) (fun h => ?_) (fun h => ?_)
            · refine n_vret hC dX10_settle_101 ?_
              refine ⟨rfl, _, eset _ rfl, ?_⟩
              unfold m_cont
              rw [if_neg (Int32.not_le.mpr h)]
              exact hM2
            · refine n_aload_n hC dX10_settle_89 rfl rfl ?_
              refine g20_desk hC (by first | exact rfl | with_reducible assumption) wfX10_15 dX10_settle_90 ?_
              refine n_aload_n hC dX10_settle_93 rfl rfl ?_
              refine n_aload_n hC dX10_settle_94 rfl rfl ?_
              refine g21_level hC (by first | exact rfl | with_reducible assumption) wfX10_67 dX10_settle_95 ?_
              rw [e9]
              refine n_callV hC (c_putLast (d + 1) q (N.1 2 q) (m_s N 8 q (N.1 8 q + 1)) _ hM2 hq (hI2.1 q hq) (hI1.1 q hq) (IR_out_len hI2 hq lv1)) (Nat.le_refl _) (by decide) (by first | exact rfl | with_reducible assumption) rfl rfl rfl ⟨wmX10_70, wi_yX2_putLast, wv_yX2_putLast, wzX2, wc_yX2_putLast⟩ hy_yX2_putLast rfl (Nat.le_of_ble_eq_true rfl) dX10_settle_98 (fun rv σ' hpo => ?_)
              obtain ⟨rfl, h1⟩ := hpo
              refine n_vret hC dX10_settle_101 ?_
              refine ⟨rfl, _, eset _ rfl, ?_⟩
              unfold m_cont
              rw [if_pos (Int32.not_lt.mp h)]
              exact h1
        · exact absurd h (by decide)
      · exact absurd h (by decide)
    · exact absurd h (by decide)
  · subst hv
    refine n_if_ge (tgt := 16) hC dX10_settle_1 (by decide) (fun h => ?_) (fun h => ?_)
    · clear h
      refine n_iload_n hC dX10_settle_16 rfl rfl ?_
      refine n_iconst (v := 3) hC dX10_settle_17 (by decide) ?_
      refine n_icmp_ne (tgt := 36) hC dX10_settle_18 (by decide) (fun h => ?_) (fun h => ?_)
      · clear h
        refine n_iload_n hC dX10_settle_36 rfl rfl ?_
        refine n_iconst (v := 1) hC dX10_settle_37 (by decide) ?_
        refine n_icmp_ne (tgt := 54) hC dX10_settle_38 (by decide) (fun h => ?_) (fun h => ?_)
        · exact absurd rfl h
        · refine n_aload_n hC dX10_settle_41 rfl rfl ?_
          refine n_dup hC dX10_settle_42 rfl ?_
          refine g21_done hC (by first | exact rfl | with_reducible assumption) wfX10_61 dX10_settle_43 ?_
          rw [e6]
          refine n_iconst (v := 1) hC dX10_settle_46 (by decide) ?_
          refine n_iadd hC dX10_settle_47 ?_
          refine p21_done hC (by first | exact rfl | with_reducible assumption) wfX10_61 dX10_settle_48 ?_
          refine n_goto (tgt := 101) hC dX10_settle_51 (by decide) ?_
          refine n_vret hC dX10_settle_101 ?_
          exact ⟨rfl, _, Or.inr (Or.inr (Or.inl ⟨rfl, rfl⟩)), cu_6 hM hq⟩
      · exact absurd h (by decide)
    · exact absurd h (by decide)
  · subst hv
    refine n_if_ge (tgt := 16) hC dX10_settle_1 (by decide) (fun h => ?_) (fun h => ?_)
    · clear h
      refine n_iload_n hC dX10_settle_16 rfl rfl ?_
      refine n_iconst (v := 3) hC dX10_settle_17 (by decide) ?_
      refine n_icmp_ne (tgt := 36) hC dX10_settle_18 (by decide) (fun h => ?_) (fun h => ?_)
      · clear h
        refine n_iload_n hC dX10_settle_36 rfl rfl ?_
        refine n_iconst (v := 1) hC dX10_settle_37 (by decide) ?_
        refine n_icmp_ne (tgt := 54) hC dX10_settle_38 (by decide) (fun h => ?_) (fun h => ?_)
        · clear h
          refine n_iload_n hC dX10_settle_54 rfl rfl ?_
          refine n_if_ne (tgt := 101) hC dX10_settle_55 (by decide) (fun h => ?_) (fun h => ?_)
          · refine n_vret hC dX10_settle_101 ?_
            exact ⟨rfl, _, Or.inr (Or.inr (Or.inr (Or.inl ⟨rfl, rfl⟩))), hM⟩
          · exact absurd h (by decide)
        · exact absurd h (by decide)
      · exact absurd h (by decide)
    · exact absurd h (by decide)
  · subst hv
    obtain ⟨t, x, ht⟩ := m_last1 hne
    refine n_if_ge (tgt := 16) hC dX10_settle_1 (by decide) (fun h => ?_) (fun h => ?_)
    · clear h
      refine n_iload_n hC dX10_settle_16 rfl rfl ?_
      refine n_iconst (v := 3) hC dX10_settle_17 (by decide) ?_
      refine n_icmp_ne (tgt := 36) hC dX10_settle_18 (by decide) (fun h => ?_) (fun h => ?_)
      · exact absurd rfl h
      · refine n_aload_n hC dX10_settle_21 rfl rfl ?_
        refine g20_desk hC (by first | exact rfl | with_reducible assumption) wfX10_15 dX10_settle_22 ?_
        refine n_aload_n hC dX10_settle_25 rfl rfl ?_
        refine n_aload_n hC dX10_settle_26 rfl rfl ?_
        refine n_callV hC (c_pop (d + 3) q x t M σ hM hq ht) (Nat.le_refl _) (by decide) (by first | exact rfl | with_reducible assumption) rfl rfl rfl ⟨wmX10_57, wi_yX9_pop, wv_yX9_pop, wzX9, wc_yX9_pop⟩ hy_yX9_pop rfl (Nat.le_of_ble_eq_true rfl) dX10_settle_27 (fun rv σ' hpo => ?_)
        obtain ⟨rfl, h1⟩ := hpo
        have hB : IB (m_l M 0 q t) := IB_l hI.2.1 (by omega)
        have hR : IR (m_l M 0 q t) := IR_l hI.1 (by omega)
        refine n_callV hC (c_finish d q x (m_l M 0 q t) _ h1 hB hR hI.w.ip hq (hI.pr hq)) (Nat.le_refl _) (by decide) (by first | exact rfl | with_reducible assumption) rfl rfl rfl ⟨wmX10_54, wi_yX2_finish, wv_yX2_finish, wzX2, wc_yX2_finish⟩ hy_yX2_finish rfl (Nat.le_of_ble_eq_true rfl) dX10_settle_30 (fun rv σ' hpo => ?_)
        obtain ⟨rfl, h2⟩ := hpo
        refine n_goto (tgt := 101) hC dX10_settle_33 (by decide) ?_
        refine n_vret hC dX10_settle_101 ?_
        exact ⟨rfl, _, Or.inr (Or.inl ⟨rfl, t, x, ht, rfl⟩), h2⟩
    · exact absurd h (by decide)
end ST1
