theorem m_van_g {M : n_M} {p c i : Nat} (h : 13 ≤ c) : (m_van M p).1 c i = M.1 c i := by
  unfold m_van
  rw [ms_n (by omega), ms_n (by omega), ms_n (by omega), ms_n (by omega), ms_n (by omega), ms_n (by omega), m_usr_s (by omega), m_emp_s (by omega)]
theorem m_kids_g {M : n_M} {q c i : Nat} (h : 13 ≤ c) : ∀ n, (m_kids q n M).1 c i = M.1 c i
  | 0 => rfl
  | n + 1 => by
    rw [← m_kids_g (M := M) (q := q) h n]
    show (m_kid1 (m_kids q n M) q (n + 1)).1 c i = _
    generalize m_kids q n M = K
    unfold m_kid1
    split
    · split
      · rw [m_van_g h, ms_n (by omega)]
      · rw [ms_n (by omega)]
    · rfl
theorem m_fin1_g {M : n_M} {q c i : Nat} {v : Int32} (h : 14 ≤ c) : (m_fin1 M q v).1 c i = M.1 c i := by
  unfold m_fin1
  rw [ms_n (by omega), ms_n (by omega), m_kids_g (by omega), m_emp_s (by omega), m_outs_s, m_free_s (by omega)]
theorem m_fin_g {M : n_M} {q c i : Nat} {v : Int32} (h : 14 ≤ c) : (m_fin M q v).1 c i = M.1 c i := by
  unfold m_fin
  split
  · rw [m_rdy_sn (by omega), m_fin1_g h]
  · exact m_fin1_g h
theorem m_do_15 {q k : Nat} {n v : Int32} {M M' : n_M} (h : m_do q k n M v M') : M'.1 15 0 = M.1 15 0 := by
  rcases h with ⟨-, -, s, -, rfl⟩ | ⟨-, t, a, b, -, ⟨-, -, rfl⟩ | ⟨-, -, rfl⟩⟩ | ⟨-, -, rfl⟩ | ⟨-, -, t, a, -, rfl⟩ | ⟨-, ⟨-, -, rfl⟩ | ⟨-, -, rfl⟩⟩ | ⟨-, ⟨-, -, rfl⟩ | ⟨t, a, -, -, rfl⟩⟩ | ⟨-, -, rfl⟩ | ⟨-, t, a, -, ⟨j, -, -, rfl⟩ | ⟨-, -, rfl⟩⟩ | ⟨-, t, x, a, -, ⟨j, -, -, rfl⟩ | ⟨-, -, rfl⟩⟩ | ⟨-, -, t, a, -, ⟨n', j, -, -, -, rfl⟩ | ⟨-, rfl⟩⟩ | ⟨-, -, t, a, -, ⟨-, rfl⟩ | ⟨-, rfl⟩⟩ | ⟨-, -, t, a, x, -, ⟨r, j, -, -, -, -, rfl⟩ | ⟨-, rfl⟩⟩ | ⟨-, -, t, x, y, -, ⟨-, rfl⟩ | ⟨r, -, -, -, ⟨-, rfl⟩ | ⟨-, rfl⟩⟩⟩ | ⟨-, -, x, y, bs, ws, -, -, rfl⟩ | ⟨-, -, t, x, -, rfl⟩ | ⟨-, -, x, bs, -, rfl⟩ | ⟨-, -, ⟨r, i', -, -, -, rfl⟩ | ⟨-, rfl⟩⟩ | ⟨-, -, t, x, -, ⟨r, -, rfl⟩ | ⟨-, rfl⟩⟩ | ⟨-, -, t, x, -, ⟨r, -, -, rfl⟩ | ⟨-, rfl⟩⟩ | ⟨-, -, rfl⟩ | ⟨-, t, a, -, ⟨-, -, rfl⟩ | ⟨-, -, rfl⟩⟩ | ⟨-, -, rfl⟩ | ⟨-, -, t, a, -, rfl⟩ | ⟨-, t, a, -, ⟨k', -, -, ⟨-, -, rfl⟩ | ⟨-, -, rfl⟩⟩ | ⟨-, -, rfl⟩⟩ | ⟨-, t, a, -, ⟨k', -, -, -, ⟨r, u, -, -, rfl⟩ | ⟨-, rfl⟩⟩ | ⟨-, -, rfl⟩⟩
  all_goals first
    | rfl
    | exact ms_n (by omega)
    | (split <;> first | exact ms_n (by omega) | rfl | exact m_plast_sn (by omega) | (unfold m_slp; rw [m_susp_sn (by omega), ms_n (by omega)]; rfl))
    | exact m_cut_s (by omega)
    | exact m_free_s (by omega)
    | exact m_mem_s (by omega)
    | (unfold m_show; split <;> first | rfl | exact ms_n (by omega))
    | (unfold m_del; rw [m_l_s]; split <;> first | rfl | exact m_rdy_sn (by omega))
    | (unfold m_spn; rw [m_l_s, ms_n (by omega), ms_n (by omega), m_adm_s (by omega) (by omega)])
    | exact m_van_g (by omega)
    | exact m_fin_g (by omega)
    | exact m_plast_sn (by omega)
    | (rw [m_jn_eq, m_l_s, m_susp_sn (by omega)]; rfl)
    | exact m_rdy_sn (by omega)
theorem m_set_15 {q : Nat} {v : Int32} {M M' : n_M} (h : m_set q v M M') : M'.1 15 0 = M.1 15 0 := by
  rcases h with ⟨-, rfl⟩ | ⟨-, t, x, -, rfl⟩ | ⟨-, rfl⟩ | ⟨-, rfl⟩ | ⟨-, rfl⟩
  · exact m_fin_g (by omega)
  · exact m_fin_g (by omega)
  · exact ms_n (by omega)
  · rfl
  · unfold m_cont
    split
    · rw [m_plast_sn (by omega), ms_n (by omega), ms_n (by omega)]
    · rw [ms_n (by omega), ms_n (by omega)]
theorem m_act_15 {q : Nat} {M M' : n_M} (h : m_act M q M') : M'.1 15 0 = M.1 15 0 := by
  obtain ⟨i, hi, h4, ⟨-, rfl⟩ | ⟨n0, k, hk, hn0, h5, hop, hA⟩⟩ := h
  · exact m_fin_g (by omega)
  rcases hA with ⟨-, rfl⟩ | ⟨-, (⟨-, -, rfl⟩ | ⟨-, -, rfl⟩ | ⟨-, t, x, r, -, -, -, rfl⟩) | ⟨-, ⟨-, rfl⟩ | ⟨hgr, v, M1, hd, hs⟩⟩⟩
  · exact m_fin_g (by omega)
  · exact m_susp_sn (by omega)
  · exact m_susp_sn (by omega)
  · exact m_susp_sn (by omega)
  · exact m_fin_g (by omega)
  · rw [m_set_15 hs, m_do_15 hd, ms_n (by omega)]
theorem m_ws_15 (M : n_M) : ∀ n, (m_ws n M).1 15 0 = M.1 15 0
  | 0 => rfl
  | n + 1 => by
    rw [← m_ws_15 M n]
    show (m_ws1 (m_ws n M) (n + 1)).1 15 0 = _
    generalize m_ws n M = K
    unfold m_ws1
    split
    · split
      · exact m_rdy_sn (by omega)
      · exact ms_n (by omega)
    · rfl
theorem m_wake_15 (M : n_M) : (m_wake M).1 15 0 = M.1 15 0 + 1 := by
  have e : (m_clk M).1 15 0 = M.1 15 0 + 1 := ms_e _ _ _ _
  unfold m_wake
  split
  · rw [m_ws_15, ms_n (by omega), e]
  · exact e
theorem m_tick_15 {M M' : n_M} {v : Int32} (h : m_tick M v M') : M'.1 15 0 = M.1 15 0 + 1 := by
  rcases h with ⟨-, -, rfl⟩ | ⟨r, q, t, -, -, -, -, -, hA⟩
  · exact m_wake_15 M
  · rw [m_act_15 hA, m_wake_15]
theorem II_tick {M M' : n_M} {v : Int32} (h : II M) (hc : M.1 15 0 + 1 < 2147483647) (ht : m_tick M v M') : II M' := by
  have hw := II_wake h
  rcases ht with ⟨-, -, rfl⟩ | ⟨r, q, t, hr, -, hq, hrow, -, hA⟩
  · exact hw
  · have h1 : (m_wake M).1 0 q = 1 := by
      obtain ⟨q', g1, g2, g3, -⟩ := (hw.1.2.1 r hr).2 (nI q) (by rw [hrow]; exact List.mem_cons_self)
      rw [nV_inj hq g1 g2]
      exact g3
    exact II_act hw hq h1 (by rw [m_wake_15]; exact hc) hA
theorem m_do_v {q k : Nat} {n v : Int32} {M M' : n_M} (h : m_do q k n M v M') (hne : m_ne k ≤ (M.2 0 q).length) : v < 0 ∨ v = 0 ∨ v = 1 ∨ v = 2 ∨ (v = 3 ∧ 1 ≤ (M'.2 0 q).length) := by
  have ng : ∀ x : Int32, x = -4 ∨ x = -6 ∨ x = -5 ∨ x = -9 ∨ x = -8 → x < 0 := by
    intro x hx
    rcases hx with rfl | rfl | rfl | rfl | rfl <;> decide
  rcases h with ⟨-, h, -⟩ | ⟨-, t, a, b, -, ⟨-, h, -⟩ | ⟨-, h, -⟩⟩ | ⟨-, h, -⟩ | ⟨-, h, -⟩ | ⟨-, ⟨-, h, -⟩ | ⟨-, h, -⟩⟩ | ⟨-, ⟨-, h, -⟩ | ⟨t, a, -, h, -⟩⟩ | ⟨hk, h, rfl⟩ | ⟨-, t, a, -, ⟨j, -, h, -⟩ | ⟨-, h, -⟩⟩ | ⟨-, t, x, a, -, ⟨j, -, h, -⟩ | ⟨-, h, -⟩⟩ | ⟨-, h, -⟩ | ⟨-, h, -⟩ | ⟨-, h, -⟩ | ⟨-, h, -⟩ | ⟨-, h, -⟩ | ⟨-, h, -⟩ | ⟨-, h, -⟩ | ⟨-, h, -⟩ | ⟨-, h, -⟩ | ⟨-, h, -⟩ | ⟨-, h, -⟩ | ⟨-, t, a, -, ⟨-, h, -⟩ | ⟨-, h, -⟩⟩ | ⟨-, h, -⟩ | ⟨-, h, -⟩ | ⟨-, t, a, -, ⟨k', -, -, ⟨-, h, -⟩ | ⟨-, h, -⟩⟩ | ⟨-, h, -⟩⟩ | ⟨-, t, a, -, ⟨k', -, -, h, -⟩ | ⟨-, h, -⟩⟩
  all_goals first
    | exact Or.inr (Or.inl h)
    | exact Or.inr (Or.inr (Or.inl h))
    | (refine Or.inl (ng _ ?_); subst h; decide)
    | (subst hk; exact Or.inr (Or.inr (Or.inr (Or.inr ⟨h, hne⟩))))
theorem m_nop_lt {M : n_M} {q i n0 : Nat} (hi : i < 12) (h4 : M.1 4 q = nI (i + 1)) (h5 : M.1 5 q = nI n0) (hl : (M.2 12 i).length ≤ 256) (hn : n0 < (M.2 12 i).length) : m_nop M q = (M.2 12 i).getD n0 0 := by
  unfold m_nop
  rw [m_pi_i hi h4, h4, h5, if_neg (nI_ne0 (by omega) (by omega)), if_neg (nI_pos (by omega)), if_neg (nI_ge hn (by omega)), nI_clamp (by omega)]
theorem m_nop_ge {M : n_M} {q i n0 : Nat} (hi : i < 12) (h4 : M.1 4 q = nI (i + 1)) (h5 : M.1 5 q = nI n0) (hl : n0 ≤ 256) (hn : (M.2 12 i).length ≤ n0) : m_nop M q = 0 := by
  unfold m_nop
  rw [m_pi_i hi h4, h4, h5, if_neg (nI_ne0 (by omega) (by omega)), if_neg (nI_pos (by omega)), if_pos (nI_le hn (by omega))]
section AD1
variable {l : Launch} {D : va_G} {ca : Nat → ClassId} {ad : Nat → Nat → Nat} {ae : Nat → Nat} {ts : Nat} {Ex : State → Heap → Prop}
set_option maxHeartbeats 1000000 in
theorem c_advance (hX : ∀ U H, Ex U H → cE ad ae ts U H) (d : Nat) (M : n_M) (σ : n_S) (hM : RepC M σ) (hI : II M) (hclk : M.1 15 0 + 1 < 2147483647) : n_Ct l (cw D ca ad ae Ex) (d + 6) yX10_advance cX10_advance 4 (some .int) [.ref (ad 20 0)] σ (fun rv σ' => ∃ v M', m_tick M v M' ∧ rv = some (.int v) ∧ RepC M' σ') := by
  refine n_ofW (by decide) (Nat.le_of_ble_eq_true rfl) ?_
  intro p e s m below meth c hC
  have hIw := II_wake hI
  have hcw : (m_wake M).1 15 0 < 2147483647 := by rw [m_wake_15]; exact hclk
  have e15 : σ 9 0 9 = M.1 15 0 := hM.1 15 0 rfl
  refine n_aload_n hC dX10_advance_0 rfl rfl ?_
  refine g20_desk hC (by first | exact rfl | with_reducible assumption) wfX10_15 dX10_advance_1 ?_
  refine n_dup hC dX10_advance_4 rfl ?_
  refine g9_clock hC (by first | exact rfl | with_reducible assumption) wfX10_19 dX10_advance_5 ?_
  rw [e15]
  refine n_iconst (v := 1) hC dX10_advance_8 (by decide) ?_
  refine n_iadd hC dX10_advance_9 ?_
  refine p9_clock hC (by first | exact rfl | with_reducible assumption) wfX10_19 dX10_advance_10 ?_
  have hM1 : RepC (m_clk M) (n_up σ 9 0 9 (M.1 15 0 + 1)) := cu_15 (v := M.1 15 0 + 1) hM rfl
  have hR1 : IR (m_clk M) := IR_s hI.1 (by omega)
  have f15 : n_up σ 9 0 9 (M.1 15 0 + 1) 9 0 9 = (m_clk M).1 15 0 := hM1.1 15 0 rfl
  have f19 : n_up σ 9 0 9 (M.1 15 0 + 1) 9 0 10 = (m_clk M).1 19 0 := hM1.1 19 0 rfl
  generalize n_up σ 9 0 9 (M.1 15 0 + 1) = σ1 at hM1 f15 f19 ⊢
  have key : ∀ σ2, RepC (m_wake M) σ2 → n_W p l e s m [Value.ref (ad 20 0)].toArray below meth c (cw D ca ad ae Ex) (d + 6) (fun rv σ' => ∃ v M', m_tick M v M' ∧ rv = some (.int v) ∧ RepC M' σ') 37 (n_l0 4 [Value.ref (ad 20 0)]) [] σ2 := by
    intro σ2 hW
    have hvw : ∀ r, r < 3 → ∀ x ∈ (m_wake M).2 5 r, ∃ q, (1 ≤ q ∧ q ≤ 12) ∧ x = nI q := by
      intro r hr x hx
      obtain ⟨q, g1, g2, -⟩ := (hIw.1.2.1 r hr).2 x hx
      exact ⟨q, g1, g2⟩
    refine n_aload_n hC dX10_advance_37 rfl rfl ?_
    refine g20_desk hC (by first | exact rfl | with_reducible assumption) wfX10_15 dX10_advance_38 ?_
    refine n_callV hC (c_firstReady (d + 4) (m_wake M) σ2 hW hvw) (Nat.le_refl _) (by decide) (by first | exact rfl | with_reducible assumption) rfl rfl rfl ⟨wmX10_30, wi_yX2_firstReady, wv_yX2_firstReady, wzX2, wc_yX2_firstReady⟩ hy_yX2_firstReady rfl (Nat.le_of_ble_eq_true rfl) dX10_advance_41 (fun rv σ' hpo => ?_)
    obtain ⟨hpo, rfl⟩ := hpo
    rcases hpo with ⟨r, q, t, hr, hemp, hq, hrow, rfl⟩ | ⟨hemp, rfl⟩
    · have hq : n_V q := hq
      have hd : cw_dom 21 q := hq
      have h1 : (m_wake M).1 0 q = 1 := by
        obtain ⟨q', g1, g2, g3, -⟩ := (hIw.1.2.1 r hr).2 (nI q) (by rw [hrow]; exact List.mem_cons_self)
        rw [nV_inj hq g1 g2]
        exact g3
      have ha := m_al1 h1
      obtain ⟨i, n0, hi, h4, hpg, hn0, h5, -⟩ := hIw.prog hq ha
      have tick : ∀ M', m_act (m_wake M) q M' → m_tick M (nI q) M' := fun M' z => Or.inr ⟨r, q, t, hr, hemp, hq, hrow, rfl, z⟩
      clear hM hI hM1 hR1 hrow hvw hemp
      generalize m_wake M = W at hW hIw h1 ha h4 hpg hn0 h5 tick hcw
      have acy : ∀ r, n_V r → W.1 3 r = nI q → W.1 3 q ≠ nI r := by
        intro r hr hrq
        rcases hIw.2.2.2.1 r hr with g | ⟨q', g1, g2, g3, g4, g5⟩
        · exact absurd (g.symm.trans hrq) (fun z => nI_ne0 (by have := hq.1; omega) (by have := hq.2; omega) z.symm)
        · have := nV_inj g1 hq (g3.symm.trans hrq)
          rw [this] at g5
          exact g5
      first | refine n_astore_n hC dX10_advance_44 rfl (Nat.le_of_ble_eq_true rfl) ?_ | refine n_astore_nN hC dX10_advance_44 rfl (Nat.le_of_ble_eq_true rfl) ?_
      refine n_aload_n hC dX10_advance_45 rfl rfl ?_
      first | refine n_ifnonnull (tgt := 51) hC dX10_advance_46 (by decide) ?_ | refine n_ifnonnullN hC dX10_advance_46 ?_
      refine n_aload_n hC dX10_advance_51 rfl rfl ?_
      refine n_callV hC (c_nextOp (d + 5) q W _ hW hq (hIw.w.ip q hq)) (Nat.le_refl _) (by decide) (by first | exact rfl | with_reducible assumption) rfl rfl rfl ⟨wmX10_34, wi_yX9_nextOp, wv_yX9_nextOp, wzX9, wc_yX9_nextOp⟩ hy_yX9_nextOp rfl (Nat.le_of_ble_eq_true rfl) dX10_advance_52 (fun rv σ' hpo => ?_)
      obtain ⟨rfl, rfl⟩ := hpo
      by_cases hlt : n0 < (W.2 12 i).length
      · obtain ⟨k, hk, hop, -⟩ := hpg.2.2 n0 hlt
        rw [m_nop_lt hi h4 h5 hpg.2.1 hlt, hop, cw_op_i ae hk]
        have act : ∀ M', (((W.2 0 q).length < m_ne k ∧ M' = m_fin W q (-2)) ∨ (m_ne k ≤ (W.2 0 q).length ∧ (m_mw W q k M' ∨ (m_nw W q k ∧ ((40 < (W.2 0 q).length + m_gr k ∧ M' = m_fin W q (-3)) ∨ ((W.2 0 q).length + m_gr k ≤ 40 ∧ ∃ v M1, m_do q k ((W.2 13 i).getD n0 0) (m_s W 5 q (nI (n0 + 1))) v M1 ∧ m_set q v M1 M')))))) → m_tick M (nI q) M' := fun M' z => tick M' ⟨i, hi, h4, Or.inr ⟨n0, k, hk, hlt, h5, hop, z⟩⟩
        first | refine n_astore_n hC dX10_advance_55 rfl (Nat.le_of_ble_eq_true rfl) ?_ | refine n_astore_nN hC dX10_advance_55 rfl (Nat.le_of_ble_eq_true rfl) ?_
        refine n_aload_n hC dX10_advance_56 rfl rfl ?_
        first | refine n_ifnonnull (tgt := 65) hC dX10_advance_57 (by decide) ?_ | refine n_ifnonnullN hC dX10_advance_57 ?_
        refine n_aload_n hC dX10_advance_65 rfl rfl ?_
        refine n_aload_n hC dX10_advance_66 rfl rfl ?_
        refine n_aload_n hC dX10_advance_67 rfl rfl ?_
        refine n_callV hC (c_obstacle hX (d + 1) q k hk W _ hq hW hIw.1) (Nat.le_refl _) (by decide) (by first | exact rfl | with_reducible assumption) rfl rfl rfl ⟨wmX10_40, wi_yX10_obstacleTo, wv_yX10_obstacleTo, wzX10, wc_yX10_obstacleTo⟩ hy_yX10_obstacleTo rfl (Nat.le_of_ble_eq_true rfl) dX10_advance_68 (fun rv σ' hpo => ?_)
        rename_i σ3
        rcases hpo with ⟨hne, rfl, h2⟩ | ⟨hne, ⟨M', hw, rfl, h2⟩ | ⟨hnw, ⟨hgr, rfl, h2⟩ | ⟨hgr, rfl, h2⟩⟩⟩
        · refine n_istore_n hC dX10_advance_71 rfl (Nat.le_of_ble_eq_true rfl) ?_
          refine n_aload_n hC dX10_advance_72 rfl rfl ?_
          first | refine n_ifnull hC dX10_advance_73 ?_ | refine n_ifnullN (tgt := 87) hC dX10_advance_73 (by decide) ?_
          refine n_iload_n hC dX10_advance_76 rfl rfl ?_
          refine n_if_ne (tgt := 87) hC dX10_advance_77 (by decide) (fun h => ?_) (fun h => ?_)
          · refine n_aload_n hC dX10_advance_87 rfl rfl ?_
            refine n_aload_n hC dX10_advance_88 rfl rfl ?_
            refine n_iload_n hC dX10_advance_89 rfl rfl ?_
            refine n_callV hC (c_settle (d + 1) q (-2) W _ hq h2 hIw (Or.inl (by decide))) (Nat.le_refl _) (by decide) (by first | exact rfl | with_reducible assumption) rfl rfl rfl ⟨wmX10_47, wi_yX10_settle, wv_yX10_settle, wzX10, wc_yX10_settle⟩ hy_yX10_settle rfl (Nat.le_of_ble_eq_true rfl) dX10_advance_90 (fun rv σ' hpo => ?_)
            obtain ⟨rfl, M', hs, h3⟩ := hpo
            refine n_aload_n hC dX10_advance_93 rfl rfl ?_
            refine g21_number hC (by first | exact rfl | with_reducible assumption) wfX10_51 dX10_advance_94 ?_
            refine n_iret hC dX10_advance_97 ?_
            refine ⟨_, M', act M' (Or.inl ⟨hne, ?_⟩), rfl, h3⟩
            rcases hs with ⟨-, z⟩ | ⟨z, -⟩ | ⟨z, -⟩ | ⟨z, -⟩ | ⟨z, -⟩
            · exact z
            · exact absurd z (by decide)
            · exact absurd z (by decide)
            · exact absurd z (by decide)
            · exact absurd z (by decide)
          · exact absurd h (by decide)
        · refine n_istore_n hC dX10_advance_71 rfl (Nat.le_of_ble_eq_true rfl) ?_
          refine n_aload_n hC dX10_advance_72 rfl rfl ?_
          first | refine n_ifnull hC dX10_advance_73 ?_ | refine n_ifnullN (tgt := 87) hC dX10_advance_73 (by decide) ?_
          refine n_iload_n hC dX10_advance_76 rfl rfl ?_
          refine n_if_ne (tgt := 87) hC dX10_advance_77 (by decide) (fun h => ?_) (fun h => ?_)
          · refine n_aload_n hC dX10_advance_87 rfl rfl ?_
            refine n_aload_n hC dX10_advance_88 rfl rfl ?_
            refine n_iload_n hC dX10_advance_89 rfl rfl ?_
            refine n_callV hC (c_settle (d + 1) q 2 M' _ hq h2 (II_mw hIw hq h1 hw) (Or.inr (Or.inr (Or.inr (Or.inl rfl))))) (Nat.le_refl _) (by decide) (by first | exact rfl | with_reducible assumption) rfl rfl rfl ⟨wmX10_47, wi_yX10_settle, wv_yX10_settle, wzX10, wc_yX10_settle⟩ hy_yX10_settle rfl (Nat.le_of_ble_eq_true rfl) dX10_advance_90 (fun rv σ' hpo => ?_)
            obtain ⟨rfl, M2, hs, h3⟩ := hpo
            refine n_aload_n hC dX10_advance_93 rfl rfl ?_
            refine g21_number hC (by first | exact rfl | with_reducible assumption) wfX10_51 dX10_advance_94 ?_
            refine n_iret hC dX10_advance_97 ?_
            refine ⟨_, M2, act M2 (Or.inr ⟨hne, Or.inl ?_⟩), rfl, h3⟩
            rcases hs with ⟨z, -⟩ | ⟨z, -⟩ | ⟨z, -⟩ | ⟨-, z⟩ | ⟨z, -⟩
            · exact absurd z (by decide)
            · exact absurd z (by decide)
            · exact absurd z (by decide)
            · rw [z]; exact hw
            · exact absurd z (by decide)
          · exact absurd h (by decide)
        · refine n_istore_n hC dX10_advance_71 rfl (Nat.le_of_ble_eq_true rfl) ?_
          refine n_aload_n hC dX10_advance_72 rfl rfl ?_
          first | refine n_ifnull hC dX10_advance_73 ?_ | refine n_ifnullN (tgt := 87) hC dX10_advance_73 (by decide) ?_
          refine n_iload_n hC dX10_advance_76 rfl rfl ?_
          refine n_if_ne (tgt := 87) hC dX10_advance_77 (by decide) (fun h => ?_) (fun h => ?_)
          · refine n_aload_n hC dX10_advance_87 rfl rfl ?_
            refine n_aload_n hC dX10_advance_88 rfl rfl ?_
            refine n_iload_n hC dX10_advance_89 rfl rfl ?_
            refine n_callV hC (c_settle (d + 1) q (-3) W _ hq h2 hIw (Or.inl (by decide))) (Nat.le_refl _) (by decide) (by first | exact rfl | with_reducible assumption) rfl rfl rfl ⟨wmX10_47, wi_yX10_settle, wv_yX10_settle, wzX10, wc_yX10_settle⟩ hy_yX10_settle rfl (Nat.le_of_ble_eq_true rfl) dX10_advance_90 (fun rv σ' hpo => ?_)
            obtain ⟨rfl, M', hs, h3⟩ := hpo
            refine n_aload_n hC dX10_advance_93 rfl rfl ?_
            refine g21_number hC (by first | exact rfl | with_reducible assumption) wfX10_51 dX10_advance_94 ?_
            refine n_iret hC dX10_advance_97 ?_
            refine ⟨_, M', act M' (Or.inr ⟨hne, Or.inr ⟨hnw, Or.inl ⟨hgr, ?_⟩⟩⟩), rfl, h3⟩
            rcases hs with ⟨-, z⟩ | ⟨z, -⟩ | ⟨z, -⟩ | ⟨z, -⟩ | ⟨z, -⟩
            · exact z
            · exact absurd z (by decide)
            · exact absurd z (by decide)
            · exact absurd z (by decide)
            · exact absurd z (by decide)
          · exact absurd h (by decide)
        · refine n_istore_n hC dX10_advance_71 rfl (Nat.le_of_ble_eq_true rfl) ?_
          refine n_aload_n hC dX10_advance_72 rfl rfl ?_
          first | refine n_ifnull hC dX10_advance_73 ?_ | refine n_ifnullN (tgt := 87) hC dX10_advance_73 (by decide) ?_
          refine n_iload_n hC dX10_advance_76 rfl rfl ?_
          refine n_if_ne (tgt := 87) hC dX10_advance_77 (by decide) (fun h => ?_) (fun h => ?_)
          · exact absurd rfl h
          · clear h
            refine n_aload_n hC dX10_advance_80 rfl rfl ?_
            refine n_aload_n hC dX10_advance_81 rfl rfl ?_
            refine n_aload_n hC dX10_advance_82 rfl rfl ?_
            refine n_callV hC (c_perform hX d q k i n0 hk W _ hq h2 hIw.1 hIw.2.1 hIw.w.ip (fun r hr => hIw.pr hr) acy h1 hi h4 h5 (by rw [hpg.1]; exact hlt) hne hnw hgr) (Nat.le_refl _) (by decide) (by first | exact rfl | with_reducible assumption) rfl rfl rfl ⟨wmX10_44, wi_yX10_perform, wv_yX10_perform, wzX10, wc_yX10_perform⟩ hy_yX10_perform rfl (Nat.le_of_ble_eq_true rfl) dX10_advance_83 (fun rv σ' hpo => ?_)
            obtain ⟨v, M1, hdo, rfl, h3⟩ := hpo
            have hN : II (m_s W 5 q (nI (n0 + 1))) := by
              have hret : ∀ x ∈ W.2 1 q, m_tg (W.2 12 i).length x := by
                obtain ⟨i2, hi2, x1, x2, x3⟩ := (hIw.2.2.1 q hq).2.2.2.1 (m_al_st ha).1
                obtain rfl : i2 = i := by
                  have := (nI_eq (by omega) (by omega)).mp (x1.symm.trans h4)
                  omega
                exact x3
              have := II_next hIw hq ha hi h4 (x := nI (n0 + 1)) ⟨n0 + 1, by omega, rfl⟩ hret
              rw [ml_id rfl] at this
              exact this
            obtain ⟨k', hk', hop', htg⟩ := hpg.2.2 n0 hlt
            obtain rfl : k' = k := by
              have := (nI_eq (by omega) (by omega)).mp (hop'.symm.trans hop)
              omega
            obtain ⟨g1, g2, g3⟩ := II_do hN hq h1 hcw hi h4 htg hnw hdo
            refine n_istore_n hC dX10_advance_86 rfl (Nat.le_of_ble_eq_true rfl) ?_
            refine n_aload_n hC dX10_advance_87 rfl rfl ?_
            refine n_aload_n hC dX10_advance_88 rfl rfl ?_
            refine n_iload_n hC dX10_advance_89 rfl rfl ?_
            refine n_callV hC (c_settle (d + 1) q v M1 _ hq h3 g1 (m_do_v hdo hne)) (Nat.le_refl _) (by decide) (by first | exact rfl | with_reducible assumption) rfl rfl rfl ⟨wmX10_47, wi_yX10_settle, wv_yX10_settle, wzX10, wc_yX10_settle⟩ hy_yX10_settle rfl (Nat.le_of_ble_eq_true rfl) dX10_advance_90 (fun rv σ' hpo => ?_)
            obtain ⟨rfl, M2, hs, h5⟩ := hpo
            refine n_aload_n hC dX10_advance_93 rfl rfl ?_
            refine g21_number hC (by first | exact rfl | with_reducible assumption) wfX10_51 dX10_advance_94 ?_
            refine n_iret hC dX10_advance_97 ?_
            exact ⟨_, M2, act M2 (Or.inr ⟨hne, Or.inr ⟨hnw, Or.inr ⟨hgr, v, M1, hdo, hs⟩⟩⟩), rfl, h5⟩
      · have e0 : n0 = (W.2 12 i).length := by omega
        rw [m_nop_ge hi h4 h5 (by have := hpg.2.1; omega) (by omega), cw_op_0]
        first | refine n_astore_n hC dX10_advance_55 rfl (Nat.le_of_ble_eq_true rfl) ?_ | refine n_astore_nN hC dX10_advance_55 rfl (Nat.le_of_ble_eq_true rfl) ?_
        refine n_aload_nN hC dX10_advance_56 rfl rfl ?_
        first | refine n_ifnonnull (tgt := 65) hC dX10_advance_57 (by decide) ?_ | refine n_ifnonnullN hC dX10_advance_57 ?_
        refine n_bipush (v := -7) hC dX10_advance_60 (by decide) ?_
        refine n_goto (tgt := 71) hC dX10_advance_62 (by decide) ?_
        refine n_istore_n hC dX10_advance_71 rfl (Nat.le_of_ble_eq_true rfl) ?_
        refine n_aload_nN hC dX10_advance_72 rfl rfl ?_
        first | refine n_ifnull hC dX10_advance_73 ?_ | refine n_ifnullN (tgt := 87) hC dX10_advance_73 (by decide) ?_
        refine n_aload_n hC dX10_advance_87 rfl rfl ?_
        refine n_aload_n hC dX10_advance_88 rfl rfl ?_
        refine n_iload_n hC dX10_advance_89 rfl rfl ?_
        refine n_callV hC (c_settle (d + 1) q (-7) W _ hq hW hIw (Or.inl (by decide))) (Nat.le_refl _) (by decide) (by first | exact rfl | with_reducible assumption) rfl rfl rfl ⟨wmX10_47, wi_yX10_settle, wv_yX10_settle, wzX10, wc_yX10_settle⟩ hy_yX10_settle rfl (Nat.le_of_ble_eq_true rfl) dX10_advance_90 (fun rv σ' hpo => ?_)
        obtain ⟨rfl, M', hs, h3⟩ := hpo
        refine n_aload_n hC dX10_advance_93 rfl rfl ?_
        refine g21_number hC (by first | exact rfl | with_reducible assumption) wfX10_51 dX10_advance_94 ?_
        refine n_iret hC dX10_advance_97 ?_
        refine ⟨_, M', tick M' ⟨i, hi, h4, Or.inl ⟨by rw [h5, e0], ?_⟩⟩, rfl, h3⟩
        rcases hs with ⟨-, z⟩ | ⟨z, -⟩ | ⟨z, -⟩ | ⟨z, -⟩ | ⟨z, -⟩
        · exact z
        · exact absurd z (by decide)
        · exact absurd z (by decide)
        · exact absurd z (by decide)
        · exact absurd z (by decide)
    · first | refine n_astore_n hC dX10_advance_44 rfl (Nat.le_of_ble_eq_true rfl) ?_ | refine n_astore_nN hC dX10_advance_44 rfl (Nat.le_of_ble_eq_true rfl) ?_
      refine n_aload_nN hC dX10_advance_45 rfl rfl ?_
      first | refine n_ifnonnull (tgt := 51) hC dX10_advance_46 (by decide) ?_ | refine n_ifnonnullN hC dX10_advance_46 ?_
      refine n_iconst (v := -1) hC dX10_advance_49 (by decide) ?_
      refine n_iret hC dX10_advance_50 ?_
      exact ⟨_, _, Or.inl ⟨hemp, rfl, rfl⟩, rfl, hW⟩
  refine n_aload_n hC dX10_advance_13 rfl rfl ?_
  refine g20_desk hC (by first | exact rfl | with_reducible assumption) wfX10_15 dX10_advance_14 ?_
  refine g9_clock hC (by first | exact rfl | with_reducible assumption) wfX10_19 dX10_advance_17 ?_
  refine n_aload_n hC dX10_advance_20 rfl rfl ?_
  refine g20_desk hC (by first | exact rfl | with_reducible assumption) wfX10_15 dX10_advance_21 ?_
  refine g9_soonest hC (by first | exact rfl | with_reducible assumption) wfX10_24 dX10_advance_24 ?_
  rw [f15, f19]
  refine n_icmp_lt (tgt := 37) hC dX10_advance_27 (by decide) (fun h => ?_) (fun h => ?_)
  · refine key σ1 ?_
    unfold m_wake
    rw [if_neg (Int32.not_le.mpr h)]
    exact hM1
  · refine n_aload_n hC dX10_advance_30 rfl rfl ?_
    refine g20_desk hC (by first | exact rfl | with_reducible assumption) wfX10_15 dX10_advance_31 ?_
    refine n_callV hC (c_wakeSleepers (d + 3) (m_clk M) σ1 hM1 hR1) (Nat.le_refl _) (by decide) (by first | exact rfl | with_reducible assumption) rfl rfl rfl ⟨wmX10_27, wi_yX2_wakeSleepers, wv_yX2_wakeSleepers, wzX2, wc_yX2_wakeSleepers⟩ hy_yX2_wakeSleepers rfl (Nat.le_of_ble_eq_true rfl) dX10_advance_34 (fun rv σ' hpo => ?_)
    obtain ⟨rfl, h1⟩ := hpo
    refine key _ ?_
    unfold m_wake
    rw [if_pos (Int32.not_lt.mp h)]
    exact h1
end AD1
