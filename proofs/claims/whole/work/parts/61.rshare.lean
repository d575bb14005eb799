theorem wkX12_402 : Cond.constant "ShareMonitorModel" 402 2147483647 ∈ n_tb := n_in (by decide +kernel) rfl
theorem wkX12_412 : Cond.constant "ShareMonitorModel" 412 1000000 ∈ n_tb := n_in (by decide +kernel) rfl
theorem m_wk_e {k a : Int32} (ha : ¬ a < 1) : (k ≤ 2147483647 - a → m_wk k a = k + a) ∧ (¬ k ≤ 2147483647 - a → m_wk k a = 2147483647) := by
  have b1 := k.toInt_lt
  have b2 := k.le_toInt
  have b3 := a.toInt_lt
  have b4 := a.le_toInt
  have ha' : ¬ a.toInt < 1 := fun z => ha (Int32.lt_iff_toInt_lt.mpr z)
  have e1 : (k.toInt64 + a.toInt64).toInt = k.toInt + a.toInt := by
    rw [Int64.toInt_add, Int32.toInt_toInt64, Int32.toInt_toInt64]
    exact Int.bmod_eq_of_le (by omega) (by omega)
  have e2 : (2147483647 - a : Int32).toInt = 2147483647 - a.toInt := by
    rw [Int32.toInt_sub]
    exact Int.bmod_eq_of_le (by show -2147483648 ≤ (2147483647 : Int) - a.toInt; omega) (by show (2147483647 : Int) - a.toInt < 2147483648; omega)
  constructor
  · intro h
    have h' := Int32.le_iff_toInt_le.mp h
    rw [e2] at h'
    have hz : ¬ (2147483647 : Int64) < k.toInt64 + a.toInt64 := fun z => by
      have := Int64.lt_iff_toInt_lt.mp z
      rw [e1] at this
      have : (2147483647 : Int) < k.toInt + a.toInt := this
      omega
    unfold m_wk
    rw [if_neg hz]
    refine Int32.toInt_inj.mp ?_
    rw [Int64.toInt_toInt32, e1, Int32.toInt_add]
  · intro h
    have h' : ¬ k.toInt ≤ (2147483647 - a : Int32).toInt := fun z => h (Int32.le_iff_toInt_le.mpr z)
    rw [e2] at h'
    have hz : (2147483647 : Int64) < k.toInt64 + a.toInt64 := Int64.lt_iff_toInt_lt.mpr (by
      rw [e1]
      show (2147483647 : Int) < k.toInt + a.toInt
      omega)
    unfold m_wk
    rw [if_pos hz]
    rfl
theorem m_susp_sc {M : n_M} {c i q : Nat} {v st aw : Int32} (hc : c ≠ 0 ∧ c ≠ 2 ∧ c ≠ 7 ∧ c ≠ 8) : m_susp (m_s M c i v) q st aw = m_s (m_susp M q st aw) c i v := by
  have e : m_lv (m_s M c i v) q = m_lv M q := by
    unfold m_lv
    rw [ms_n (by omega)]
  unfold m_susp
  rw [e, show m_out (m_s M c i v) (m_lv M q) q = m_s (m_out M (m_lv M q) q) c i v from rfl, ms_c (c := c) (i := i) (c' := 0) _ _ _ (by omega), ms_c (c := c) (i := i) (c' := 7) _ _ _ (by omega), ms_c (c := c) (i := i) (c' := 8) _ _ _ (by omega)]
theorem m_plast_sc {M : n_M} {c i q : Nat} {v a : Int32} (hc : c ≠ 0 ∧ c ≠ 2 ∧ c ≠ 7 ∧ c ≠ 8) : m_plast (m_s M c i v) q a = m_s (m_plast M q a) c i v := by
  have e : m_lv (m_s M c i v) q = m_lv M q := by
    unfold m_lv
    rw [ms_n (by omega)]
  unfold m_plast
  rw [e, show m_out (m_s M c i v) (m_lv M q) q = m_s (m_out M (m_lv M q) q) c i v from rfl, ms_c (c := c) (i := i) (c' := 2) _ _ _ (by omega), m_rdy_s hc]
theorem m_plast_ref {M : n_M} {q : Nat} {a : Int32} (h1 : M.1 0 q = 1) (h7 : M.1 7 q = 0) : m_plast M q a = m_s (m_l (m_s (m_out M (m_lv M q) q) 2 q a) 5 (m_lv (m_s (m_out M (m_lv M q) q) 2 q a) q) ((m_s (m_out M (m_lv M q) q) 2 q a).2 5 (m_lv (m_s (m_out M (m_lv M q) q) 2 q a) q) ++ [nI q])) 8 q 0 := by
  unfold m_plast
  rw [m_rdy_eq, ms_id (show (m_s (m_out M (m_lv M q) q) 2 q a).1 0 q = 1 from h1), ms_id (show (m_s (m_out M (m_lv M q) q) 2 q a).1 7 q = 0 from h7)]
theorem RepC_52 {M : n_M} {τ : n_S} {v : Int32} (h : RepC M (r_v M τ)) : RepC M (r_v M (n_up τ 0 0 52 v)) := by
  have e : r_v M (n_up τ 0 0 52 v) = r_v M τ := by
    have g : ∀ κ x, ¬ (κ = 0 ∧ x = 52) → n_up τ 0 0 52 v κ 0 x = τ κ 0 x := fun κ x hk => n_up_o hk
    funext κ i k
    unfold r_v
    split
    all_goals first
      | rfl
      | exact g _ _ (by omega)
      | (unfold r_v1; split <;> first | rfl | exact g _ _ (by omega))
      | (split <;> first | rfl | exact g _ _ (by omega) | (unfold r_v9; split <;> first | rfl | exact g _ _ (by omega)) | (split <;> first | rfl | exact g _ _ (by omega)))
  rw [e]
  exact h
theorem RepQ_52 {M : n_M} {τ : n_S} {v : Int32} (h : RepQ M τ) : RepQ M (n_up τ 0 0 52 v) :=
  ⟨RepC_52 h.1, RY_cong h.2 (fun _ _ => rfl) (fun _ _ => rfl) (fun _ _ => rfl) (fun _ _ => rfl) rfl rfl (fun κ x hk => n_up_o (by unfold r_pk at hk; omega))⟩
theorem RF_52 {M : n_M} {τ : n_S} {v : Int32} (h : RF M τ) : RF M (n_up τ 0 0 52 v) := RF_cong h (fun _ _ => rfl) (fun x => n_up_o (by omega))
/-- an end with moved set -/
theorem XA.moved {τ0 τ1 : n_S} {M M1 : n_M} {q k n0 : Nat} {n : Int32} (hS : RS τ0 (m_dn M1 q) τ1) (hnw : m_nw M q k) (hg : (M.2 0 q).length + m_gr k ≤ 40) (hd : m_do q k n (m_s M 5 q (nI (n0 + 1))) 1 M1) : XA τ0 M q k n0 n (n_up τ1 0 0 52 1) :=
  XA.placed (RepQ_52 hS.1) (RF_52 hS.2.1) ((n_up_o (by omega)).trans hS.2.2.2) (Or.inl (n_up_e _ _ _ _)) hnw hg hd
theorem m_out_hd {M : n_M} (h : IR M) {κ r : Nat} {u : List Int32} (hκ : κ < 8) (hu : M.2 5 (κ + 3) = nI r :: u) (X : n_M) (hX : X.2 5 (κ + 3) = nI r :: u) : m_out X (κ + 3) r = m_l X 5 (κ + 3) u := by
  have hnd := (h.2.2.2.1 κ hκ).1
  rw [hu] at hnd
  have := m_fq_id (List.nodup_cons.mp hnd).1
  unfold m_out
  rw [hX, List.filter_cons, if_neg (by simp)]
  unfold m_fq at this
  rw [this]
section RSH
variable {l : Launch} {D : va_G} {ca : Nat → ClassId} {ad : Nat → Nat → Nat} {Ex : State → Heap → Prop}
theorem x_semaphore (d k q n0 i0 : Nat) (n o a : Int32) (t : List Int32) (hk : (k = 41 ∧ o = 34) ∨ (k = 42 ∧ o = 35)) (τ0 : n_S) (M : n_M) (τ : n_S) (hmv : τ0 0 0 52 = 0) (hS : RS τ0 M τ) (hI : II M) (hq : n_V q) (h1 : M.1 0 q = 1) (hn : M.1 5 q = nI n0) (hst : M.2 0 q = t ++ [a]) (hi0 : i0 < 12) (h4 : M.1 4 q = nI (i0 + 1)) (hn0 : n0 < (M.2 12 i0).length) : n_Ct l (rw D ca ad Ex) (d + 4) yX12_semaphore cX12_semaphore 6 none [.ref (ad 0 0), .int (nI q), .int o, .int a] τ (fun rv τ' => rv = none ∧ XA τ0 M q k n0 n τ') := by
  obtain ⟨hq1, hq2⟩ := id hq
  have ha := m_al1 h1
  have hM := hS.q
  obtain ⟨e1, hl40, -⟩ := hM.stk hq
  have hlen : (M.2 0 q).length = t.length + 1 := by rw [hst, len1]
  have iN : II (m_dn (m_l (m_s M 5 q (nI (n0 + 1))) 0 q t) q) := II_dn (II_stk (II_adv hI hq h1 hi0 h4 hn0) hq ha _) hq ha
  have hg0 : (M.2 0 q).length + m_gr k ≤ 40 := by rcases hk with ⟨rfl, -⟩ | ⟨rfl, -⟩ <;> exact hl40
  have hnw : m_nw M q k := m_nw_t (by omega)
  refine n_ofW (by decide) (Nat.le_of_ble_eq_true rfl) ?_
  intro p e s m below meth c hC
  have trap : (¬ ∃ κ, κ < 8 ∧ a = nI κ) → n_W p l e s m [Value.ref (ad 0 0), Value.int (nI q), Value.int o, Value.int a].toArray below meth c (rw D ca ad Ex) (d + 4) (fun rv τ' => rv = none ∧ XA τ0 M q k n0 n τ') 10 [some (.ref (ad 0 0)), some (.int (nI q)), some (.int o), some (.int a), none, none] [] τ := by
    intro hno
    refine n_aload_n hC dX12_semaphore_10 rfl rfl ?_
    refine n_iload_n hC dX12_semaphore_11 rfl rfl ?_
    refine n_bipush (v := -8) hC dX12_semaphore_12 (by decide) ?_
    refine n_callV hC (x_finish (d + 1) q (-8) τ0 M _ hS hI hq ha) (Nat.le_refl _) (by decide) (by first | exact rfl | with_reducible assumption) rfl rfl rfl ⟨wmX12_330, wi_yX12_finish, wv_yX12_finish, wzX12, wc_yX12_finish⟩ hy_yX12_finish rfl (Nat.le_of_ble_eq_true rfl) dX12_semaphore_14 (fun rv σ' hpo => ?_)
    obtain ⟨rfl, g⟩ := hpo
    refine n_vret hC dX12_semaphore_17 ?_
    refine ⟨rfl, XA.trap (M1 := m_l (m_s M 5 q (nI (n0 + 1))) 0 q t) hI hq ha g hnw hg0 (by decide) ?_ m_fin_ab'⟩
    rcases hk with ⟨rfl, -⟩ | ⟨rfl, -⟩
    · exact (Or.inr (Or.inr (Or.inr (Or.inr (Or.inr (Or.inr (Or.inr (Or.inr (Or.inr (Or.inr (Or.inr (Or.inr (Or.inr (Or.inr (Or.inr (Or.inr (Or.inr (Or.inr (Or.inr (Or.inr (Or.inr (Or.inr (Or.inr (Or.inl (⟨rfl, t, a, hst, Or.inr ⟨hno, rfl, rfl⟩⟩)))))))))))))))))))))))))
    · exact (Or.inr (Or.inr (Or.inr (Or.inr (Or.inr (Or.inr (Or.inr (Or.inr (Or.inr (Or.inr (Or.inr (Or.inr (Or.inr (Or.inr (Or.inr (Or.inr (Or.inr (Or.inr (Or.inr (Or.inr (Or.inr (Or.inr (Or.inr (Or.inr (⟨rfl, t, a, hst, Or.inr ⟨hno, rfl, rfl⟩⟩)))))))))))))))))))))))))
  refine n_iload_n hC dX12_semaphore_0 rfl rfl ?_
  refine n_if_lt (tgt := 10) hC dX12_semaphore_1 (by decide) (fun h => ?_) (fun h => ?_)
  · refine trap (fun ⟨κ, hκ, z⟩ => ?_)
    rw [z] at h
    exact absurd h (Int32.not_lt.mpr (nI_pos' (by omega)))
  · have h0 := h
    clear h
    refine n_iload_n hC dX12_semaphore_4 rfl rfl ?_
    refine n_bipush (v := 8) hC dX12_semaphore_5 (by decide) ?_
    refine n_icmp_lt (tgt := 18) hC dX12_semaphore_7 (by decide) (fun h => ?_) (fun h => ?_)
    · obtain ⟨κ, hκ31, rfl⟩ := nI_of h0
      have hκ : κ < 8 := (nI_ltI (b := 8) hκ31 (by omega)).mp h
      clear h h0 trap
      refine n_aload_n hC dX12_semaphore_18 rfl rfl ?_
      refine gm_deep hC wfX12_155 dX12_semaphore_19 ?_
      refine n_iload_n hC dX12_semaphore_22 rfl rfl ?_
      refine n_dup2_11 hC dX12_semaphore_23 rfl rfl ?_
      first | refine r_ld hC rfl (fun _ => rfl) (by decide) (by first | omega | with_reducible assumption) dX12_semaphore_24 ?_ | refine r_needs hC (by first | exact vp_in_nI (by omega) (by decide) | with_reducible assumption) dX12_semaphore_24 ?_
      rw [e1, hlen]
      refine n_iconst (v := 1) hC dX12_semaphore_25 (by decide) ?_
      refine n_isub hC dX12_semaphore_26 ?_
      rw [show nI (t.length + 1) - 1 = nI t.length from nI_m1 (by omega)]
      refine r_st hC rfl (fun _ h => h) (fun _ => rfl) (by decide) (by first | omega | with_reducible assumption) dX12_semaphore_27 ?_
      refine n_aload_n hC dX12_semaphore_28 rfl rfl ?_
      refine n_iload_n hC dX12_semaphore_29 rfl rfl ?_
      refine n_callV hC (x_done (d + 3) q n0 _ _ _ (rq_pop hM hq hst) hq hn) (Nat.le_refl _) (by decide) (by first | exact rfl | with_reducible assumption) rfl rfl rfl ⟨wmX12_336, wi_yX12_done, wv_yX12_done, wzX12, wc_yX12_done⟩ hy_yX12_done rfl (Nat.le_of_ble_eq_true rfl) dX12_semaphore_30 (fun rv τ1 hpo => ?_)
      obtain ⟨rfl, g⟩ := hpo
      have g : RQ τ (m_dn (m_l (m_s M 5 q (nI (n0 + 1))) 0 q t) q) τ1 := g
      have hv : τ1 42 0 κ = M.1 9 κ := g.values hκ
      obtain ⟨eq1, eq2, eq3⟩ := g.que hκ
      have eq1 : τ1 44 0 κ = nI (M.2 5 (κ + 3)).length := eq1
      have eq2 : (M.2 5 (κ + 3)).length ≤ 12 := eq2
      have eq3 : ∀ j, j < (M.2 5 (κ + 3)).length → τ1 43 0 (13 * κ + j) = (M.2 5 (κ + 3)).getD j 0 := eq3
      rcases hk with ⟨rfl, rfl⟩ | ⟨rfl, rfl⟩
      · refine n_iload_n hC dX12_semaphore_33 rfl rfl ?_
        refine n_bipush (v := 34) hC dX12_semaphore_34 (by decide) ?_
        refine n_icmp_ne (tgt := 99) hC dX12_semaphore_36 (by decide) (fun h => ?_) (fun h => ?_)
        · exact absurd rfl h
        · clear h
          refine n_aload_n hC dX12_semaphore_39 rfl rfl ?_
          refine gm_values hC wfX12_200 dX12_semaphore_40 ?_
          refine n_iload_n hC dX12_semaphore_43 rfl rfl ?_
          first | refine r_ld hC rfl (fun _ => rfl) (by decide) (by first | omega | with_reducible assumption) dX12_semaphore_44 ?_ | refine r_needs hC (by first | exact vp_in_nI (by omega) (by decide) | with_reducible assumption) dX12_semaphore_44 ?_
          rw [hv]
          refine n_if_le (tgt := 61) hC dX12_semaphore_45 (by decide) (fun h => ?_) (fun h => ?_)
          · have h9 : ¬ 0 < M.1 9 κ := Int32.not_lt.mpr h
            clear h
            refine n_aload_n hC dX12_semaphore_61 rfl rfl ?_
            refine n_iload_n hC dX12_semaphore_62 rfl rfl ?_
            refine n_bipush (v := 6) hC dX12_semaphore_63 (by decide) ?_
            refine n_iload_n hC dX12_semaphore_65 rfl rfl ?_
            refine n_callV hC (x_waitFor (d + 2) q 6 (nI κ) _ _ _ g hq (iN.1.1 q hq)) (Nat.le_refl _) (by decide) (by first | exact rfl | with_reducible assumption) rfl rfl rfl ⟨wmX12_367, wi_yX12_waitFor, wv_yX12_waitFor, wzX12, wc_yX12_waitFor⟩ hy_yX12_waitFor rfl (Nat.le_of_ble_eq_true rfl) dX12_semaphore_66 (fun rv τ2 hpo => ?_)
            obtain ⟨rfl, g2⟩ := hpo
            have hlv := iN.1.lv hq
            obtain ⟨es1, es2, es3⟩ := g2.que hκ
            rw [m_susp_5 (by omega)] at es1 es2 es3
            have es1 : τ2 44 0 κ = nI (M.2 5 (κ + 3)).length := es1
            have es3 : ∀ j, j < (M.2 5 (κ + 3)).length → τ2 43 0 (13 * κ + j) = (M.2 5 (κ + 3)).getD j 0 := es3
            have hlt : (M.2 5 (κ + 3)).length < 12 := hI.1.que hq hκ (hI.1.notque hq hκ (by rw [h1]; decide))
            refine n_aload_n hC dX12_semaphore_69 rfl rfl ?_
            refine gm_waiting hC wfX12_203 dX12_semaphore_70 ?_
            refine n_bipush (v := 13) hC dX12_semaphore_73 (by decide) ?_
            refine n_iload_n hC dX12_semaphore_75 rfl rfl ?_
            refine n_imul hC dX12_semaphore_76 ?_
            refine n_aload_n hC dX12_semaphore_77 rfl rfl ?_
            refine gm_waitCount hC wfX12_206 dX12_semaphore_78 ?_
            refine n_iload_n hC dX12_semaphore_81 rfl rfl ?_
            first | refine r_ld hC rfl (fun _ => rfl) (by decide) (by first | omega | with_reducible assumption) dX12_semaphore_82 ?_ | refine r_needs hC (by first | exact vp_in_nI (by omega) (by decide) | with_reducible assumption) dX12_semaphore_82 ?_
            rw [es1]
            refine n_iadd hC dX12_semaphore_83 ?_
            rw [show (13 : Int32) * nI κ + nI (M.2 5 (κ + 3)).length = nI (13 * κ + (M.2 5 (κ + 3)).length) from by rw [← nI_add, ← nI_mulL]; rfl]
            refine n_iload_n hC dX12_semaphore_84 rfl rfl ?_
            refine r_st hC rfl (fun _ h => h) (fun _ => rfl) (by decide) (by first | omega | with_reducible assumption) dX12_semaphore_85 ?_
            refine n_aload_n hC dX12_semaphore_86 rfl rfl ?_
            refine gm_waitCount hC wfX12_206 dX12_semaphore_87 ?_
            refine n_iload_n hC dX12_semaphore_90 rfl rfl ?_
            refine n_dup2_11 hC dX12_semaphore_91 rfl rfl ?_
            first | refine r_ld hC rfl (fun _ => rfl) (by decide) (by first | omega | with_reducible assumption) dX12_semaphore_92 ?_ | refine r_needs hC (by first | exact vp_in_nI (by omega) (by decide) | with_reducible assumption) dX12_semaphore_92 ?_
            rw [n_up_o (by omega), es1]
            refine n_iconst (v := 1) hC dX12_semaphore_93 (by decide) ?_
            refine n_iadd hC dX12_semaphore_94 ?_
            rw [nI_1]
            refine r_st hC rfl (fun _ h => h) (fun _ => rfl) (by decide) (by first | omega | with_reducible assumption) dX12_semaphore_95 ?_
            refine n_goto (tgt := 210) hC dX12_semaphore_96 (by decide) ?_
            refine n_vret hC dX12_semaphore_210 ?_
            have g3 := rql_q (τ' := n_up (n_up τ2 43 0 (13 * κ + (M.2 5 (κ + 3)).length) (nI q)) 44 0 κ (nI ((M.2 5 (κ + 3)).length + 1))) (l0 := M.2 5 (κ + 3) ++ [nI q]) g2 hκ (fun κ' x a b => by rw [n_up_o (by omega), n_up_o (by omega)]) (by rw [n_up_e, len1]) (by rw [len1]; omega) (fun j hj => by
              rw [len1] at hj
              rw [n_up_o (by omega)]
              by_cases z : j = (M.2 5 (κ + 3)).length
              · rw [z, n_up_e, getD_snoc_e]
              · rw [n_up_o (by omega), es3 j (by omega), getD_snoc_l _ _ _ (by omega)])
            have e : m_l (m_susp (m_dn (m_l (m_s M 5 q (nI (n0 + 1))) 0 q t) q) q 6 (nI κ)) 5 (κ + 3) (M.2 5 (κ + 3) ++ [nI q]) = m_dn (m_jn (m_l (m_s M 5 q (nI (n0 + 1))) 0 q t) q κ) q := by
              have e6 : (m_susp (m_l (m_s M 5 q (nI (n0 + 1))) 0 q t) q 6 (nI κ)).1 6 q = ((m_l (m_s M 5 q (nI (n0 + 1))) 0 q t)).1 6 q := m_susp_sn (by omega)
              show m_l (m_susp (m_s (m_l (m_s M 5 q (nI (n0 + 1))) 0 q t) 6 q (((m_l (m_s M 5 q (nI (n0 + 1))) 0 q t)).1 6 q + 1)) q 6 (nI κ)) 5 (κ + 3) (M.2 5 (κ + 3) ++ [nI q]) = m_s (m_l (m_susp (m_l (m_s M 5 q (nI (n0 + 1))) 0 q t) q 6 (nI κ)) 5 (κ + 3) (M.2 5 (κ + 3) ++ [nI q])) 6 q ((m_susp (m_l (m_s M 5 q (nI (n0 + 1))) 0 q t) q 6 (nI κ)).1 6 q + 1)
              rw [m_susp_sc (by omega), e6]
              rfl
            rw [e] at g3
            have s12 : ∀ c i, c ≠ 0 → c ≠ 7 → c ≠ 8 → c ≠ 6 → c ≠ 5 → (m_dn (m_jn (m_l (m_s M 5 q (nI (n0 + 1))) 0 q t) q κ) q).1 c i = M.1 c i := by
              intro c i c0 c7 c8 c6 c5
              unfold m_dn m_jn
              rw [ms_n (by omega), m_l_s, m_susp_sn (by omega), m_l_s, ms_n (by omega)]
            have gS := hS.of g3 (fun i _ => s12 12 i (by omega) (by omega) (by omega) (by omega) (by omega))
            refine ⟨rfl, XA.placed gS.1 gS.2.1 gS.2.2.2 (Or.inr ?_) hnw hg0 (Or.inr (Or.inr (Or.inr (Or.inr (Or.inr (Or.inr (Or.inr (Or.inr (Or.inr (Or.inr (Or.inr (Or.inr (Or.inr (Or.inr (Or.inr (Or.inr (Or.inr (Or.inr (Or.inr (Or.inr (Or.inr (Or.inr (Or.inr (Or.inl (⟨rfl, t, nI κ, hst, Or.inl ⟨κ, hκ, rfl, Or.inr ⟨h9, rfl, rfl⟩⟩⟩)))))))))))))))))))))))))⟩
            unfold m_jn
            rw [m_l_s, m_susp_0]
            decide
          · have h9 : 0 < M.1 9 κ := Int32.not_le.mp h
            clear h
            refine n_aload_n hC dX12_semaphore_48 rfl rfl ?_
            refine gm_values hC wfX12_200 dX12_semaphore_49 ?_
            refine n_iload_n hC dX12_semaphore_52 rfl rfl ?_
            refine n_dup2_11 hC dX12_semaphore_53 rfl rfl ?_
            first | refine r_ld hC rfl (fun _ => rfl) (by decide) (by first | omega | with_reducible assumption) dX12_semaphore_54 ?_ | refine r_needs hC (by first | exact vp_in_nI (by omega) (by decide) | with_reducible assumption) dX12_semaphore_54 ?_
            rw [hv]
            refine n_iconst (v := 1) hC dX12_semaphore_55 (by decide) ?_
            refine n_isub hC dX12_semaphore_56 ?_
            refine r_st hC rfl (fun _ h => h) (fun _ => rfl) (by decide) (by first | omega | with_reducible assumption) dX12_semaphore_57 ?_
            refine n_goto (tgt := 210) hC dX12_semaphore_58 (by decide) ?_
            refine n_vret hC dX12_semaphore_210 ?_
            have g3 := rq_9 (v := M.1 9 κ - 1) g hκ
            have e : m_s (m_dn (m_l (m_s M 5 q (nI (n0 + 1))) 0 q t) q) 9 κ (M.1 9 κ - 1) = m_dn (m_s (m_l (m_s M 5 q (nI (n0 + 1))) 0 q t) 9 κ (M.1 9 κ - 1)) q := by
              unfold m_dn
              rw [ms_c _ _ _ (by omega), ms_n (c := 9) (by omega)]
            rw [e] at g3
            exact ⟨rfl, XA.done hmv (hS.of g3 (fun i _ => rfl)) h1 hnw hg0 (Or.inr (Or.inr (Or.inr (Or.inr (Or.inr (Or.inr (Or.inr (Or.inr (Or.inr (Or.inr (Or.inr (Or.inr (Or.inr (Or.inr (Or.inr (Or.inr (Or.inr (Or.inr (Or.inr (Or.inr (Or.inr (Or.inr (Or.inr (Or.inl (⟨rfl, t, nI κ, hst, Or.inl ⟨κ, hκ, rfl, Or.inl ⟨h9, rfl, rfl⟩⟩⟩)))))))))))))))))))))))))⟩
      · refine n_iload_n hC dX12_semaphore_33 rfl rfl ?_
        refine n_bipush (v := 34) hC dX12_semaphore_34 (by decide) ?_
        refine n_icmp_ne (tgt := 99) hC dX12_semaphore_36 (by decide) (fun h => ?_) (fun h => ?_)
        · clear h
          refine n_aload_n hC dX12_semaphore_99 rfl rfl ?_
          refine gm_waitCount hC wfX12_206 dX12_semaphore_100 ?_
          refine n_iload_n hC dX12_semaphore_103 rfl rfl ?_
          first | refine r_ld hC rfl (fun _ => rfl) (by decide) (by first | omega | with_reducible assumption) dX12_semaphore_104 ?_ | refine r_needs hC (by first | exact vp_in_nI (by omega) (by decide) | with_reducible assumption) dX12_semaphore_104 ?_
          rw [eq1]
          refine n_if_le (tgt := 184) hC dX12_semaphore_105 (by decide) (fun h => ?_) (fun h => ?_)
          · have hnil : M.2 5 (κ + 3) = [] := by
              have := (nI_leI (b := 0) (by omega) (by omega)).mp h
              exact List.eq_nil_of_length_eq_zero (by omega)
            clear h
            refine n_aload_n hC dX12_semaphore_184 rfl rfl ?_
            refine gm_values hC wfX12_200 dX12_semaphore_185 ?_
            refine n_iload_n hC dX12_semaphore_188 rfl rfl ?_
            refine n_dup2_11 hC dX12_semaphore_189 rfl rfl ?_
            first | refine r_ld hC rfl (fun _ => rfl) (by decide) (by first | omega | with_reducible assumption) dX12_semaphore_190 ?_ | refine r_needs hC (by first | exact vp_in_nI (by omega) (by decide) | with_reducible assumption) dX12_semaphore_190 ?_
            rw [hv]
            refine n_aload_n hC dX12_semaphore_191 rfl rfl ?_
            refine gm_values hC wfX12_200 dX12_semaphore_192 ?_
            refine n_iload_n hC dX12_semaphore_195 rfl rfl ?_
            first | refine r_ld hC rfl (fun _ => rfl) (by decide) (by first | omega | with_reducible assumption) dX12_semaphore_196 ?_ | refine r_needs hC (by first | exact vp_in_nI (by omega) (by decide) | with_reducible assumption) dX12_semaphore_196 ?_
            rw [hv]
            refine n_ldcw hC wkX12_412 dX12_semaphore_197 ?_
            refine n_icmp_ge (tgt := 207) hC dX12_semaphore_200 (by decide) (fun h => ?_) (fun h => ?_)
            · have h9 : ¬ M.1 9 κ < 1000000 := Int32.not_lt.mpr h
              clear h
              refine n_iconst (v := 0) hC dX12_semaphore_207 (by decide) ?_
              refine n_iadd hC dX12_semaphore_208 ?_
              refine r_st hC rfl (fun _ h => h) (fun _ => rfl) (by decide) (by first | omega | with_reducible assumption) dX12_semaphore_209 ?_
              refine n_vret hC dX12_semaphore_210 ?_
              rw [show M.1 9 κ + 0 = M.1 9 κ by simp]
              have g3 := rq_9 (v := M.1 9 κ) g hκ
              rw [ms_id (show (m_dn (m_l (m_s M 5 q (nI (n0 + 1))) 0 q t) q).1 9 κ = M.1 9 κ from rfl)] at g3
              exact ⟨rfl, XA.done hmv (hS.of g3 (fun i _ => rfl)) h1 hnw hg0 (Or.inr (Or.inr (Or.inr (Or.inr (Or.inr (Or.inr (Or.inr (Or.inr (Or.inr (Or.inr (Or.inr (Or.inr (Or.inr (Or.inr (Or.inr (Or.inr (Or.inr (Or.inr (Or.inr (Or.inr (Or.inr (Or.inr (Or.inr (Or.inr (⟨rfl, t, nI κ, hst, Or.inl ⟨κ, hκ, rfl, rfl, Or.inr ⟨hnil, (if_neg h9).symm⟩⟩⟩)))))))))))))))))))))))))⟩
            · have h9 : M.1 9 κ < 1000000 := Int32.not_le.mp h
              clear h
              refine n_iconst (v := 1) hC dX12_semaphore_203 (by decide) ?_
              refine n_goto (tgt := 208) hC dX12_semaphore_204 (by decide) ?_
              refine n_iadd hC dX12_semaphore_208 ?_
              refine r_st hC rfl (fun _ h => h) (fun _ => rfl) (by decide) (by first | omega | with_reducible assumption) dX12_semaphore_209 ?_
              refine n_vret hC dX12_semaphore_210 ?_
              have g3 := rq_9 (v := M.1 9 κ + 1) g hκ
              have e : m_s (m_dn (m_l (m_s M 5 q (nI (n0 + 1))) 0 q t) q) 9 κ (M.1 9 κ + 1) = m_dn (m_s (m_l (m_s M 5 q (nI (n0 + 1))) 0 q t) 9 κ (M.1 9 κ + 1)) q := by
                unfold m_dn
                rw [ms_c _ _ _ (by omega), ms_n (c := 9) (by omega)]
              rw [e] at g3
              exact ⟨rfl, XA.done hmv (hS.of g3 (fun i _ => rfl)) h1 hnw hg0 (Or.inr (Or.inr (Or.inr (Or.inr (Or.inr (Or.inr (Or.inr (Or.inr (Or.inr (Or.inr (Or.inr (Or.inr (Or.inr (Or.inr (Or.inr (Or.inr (Or.inr (Or.inr (Or.inr (Or.inr (Or.inr (Or.inr (Or.inr (Or.inr (⟨rfl, t, nI κ, hst, Or.inl ⟨κ, hκ, rfl, rfl, Or.inr ⟨hnil, (if_pos h9).symm⟩⟩⟩)))))))))))))))))))))))))⟩
          · have hpos : 0 < (M.2 5 (κ + 3)).length := by
              rcases Nat.eq_zero_or_pos (M.2 5 (κ + 3)).length with z | z
              · rw [z] at h
                exact absurd (by decide) h
              · exact z
            clear h
            cases hu : M.2 5 (κ + 3) with
            | nil => rw [hu] at hpos; simp at hpos
            | cons f u =>
            obtain ⟨r, hr, rfl, h6, h7⟩ := (hI.1.2.2.2.1 κ hκ).2 f (by rw [hu]; simp)
            obtain ⟨hr1, hr2⟩ := id hr
            have hqr : q ≠ r := fun z => by
              rw [← z, h1] at h6
              exact absurd h6 (by decide)
            rw [hu] at eq1 eq2 eq3
            have eq1 : τ1 44 0 κ = nI (u.length + 1) := eq1
            have eq2 : u.length + 1 ≤ 12 := eq2
            have eq3 : ∀ j, j < u.length + 1 → τ1 43 0 (13 * κ + j) = (nI r :: u).getD j 0 := eq3
            have loop : ∀ (t' i : Nat) (τ4 : n_S), t' + i = u.length → (∀ κ' z, ¬ (κ' = 44 ∧ z = κ) → ¬ (κ' = 43 ∧ 13 * κ ≤ z ∧ z < 13 * κ + 13) → τ4 κ' 0 z = τ1 κ' 0 z) → τ4 44 0 κ = nI u.length → (∀ j, j ≤ u.length → τ4 43 0 (13 * κ + j) = if j < i then u.getD j 0 else (nI r :: u).getD j 0) →
                n_W p l e s m [Value.ref (ad 0 0), Value.int (nI q), Value.int 35, Value.int (nI κ)].toArray below meth c (rw D ca ad Ex) (d + 4) (fun rv τ' => rv = none ∧ XA τ0 M q 42 n0 n τ') 132 [some (.ref (ad 0 0)), some (.int (nI q)), some (.int 35), some (.int (nI κ)), some (.int (nI r)), some (.int (nI i))] [] τ4 := by
              intro t'
              induction t' with
              | zero =>
                intro i τ4 ht hf h44 h43
                have hi : i = u.length := by omega
                subst hi
                refine n_iload hC dX12_semaphore_132 rfl ?_
                refine n_aload_n hC dX12_semaphore_134 rfl rfl ?_
                refine gm_waitCount hC wfX12_206 dX12_semaphore_135 ?_
                refine n_iload_n hC dX12_semaphore_138 rfl rfl ?_
                first | refine r_ld hC rfl (fun _ => rfl) (by decide) (by first | omega | with_reducible assumption) dX12_semaphore_139 ?_ | refine r_needs hC (by first | exact vp_in_nI (by omega) (by decide) | with_reducible assumption) dX12_semaphore_139 ?_
                rw [h44]
                refine n_icmp_ge (tgt := 175) hC dX12_semaphore_140 (by decide) (fun h => ?_) (fun h => ?_)
                · clear h
                  have g3 : RQ τ (m_l (m_dn (m_l (m_s M 5 q (nI (n0 + 1))) 0 q t) q) 5 (κ + 3) u) τ4 := by
                    refine rql_q g hκ hf h44 (by omega) (fun j hj => ?_)
                    rw [h43 j (by omega), if_pos hj]
                  have hlr := hI.1.lv hr
                  have hll : ((m_l (m_dn (m_l (m_s M 5 q (nI (n0 + 1))) 0 q t) q) 5 (κ + 3) u).2 5 (m_lv M r)).length < 12 := by
                    rw [ml_n (by omega)]
                    exact hI.1.row hr hlr.1 (hI.1.notrow hr hlr.1 (by rw [h6]; decide))
                  refine n_aload_n hC dX12_semaphore_175 rfl rfl ?_
                  refine n_iload hC dX12_semaphore_176 rfl ?_
                  refine n_callV hC (x_wake (d + 2) r _ _ _ g3 hr ⟨_, hlr.1, hlr.2⟩ hll) (Nat.le_refl _) (by decide) (by first | exact rfl | with_reducible assumption) rfl rfl rfl ⟨wmX12_324, wi_yX12_wake, wv_yX12_wake, wzX12, wc_yX12_wake⟩ hy_yX12_wake rfl (Nat.le_of_ble_eq_true rfl) dX12_semaphore_178 (fun rv σ' hpo => ?_)
                  obtain ⟨rfl, g4⟩ := hpo
                  refine n_goto (tgt := 210) hC dX12_semaphore_181 (by decide) ?_
                  refine n_vret hC dX12_semaphore_210 ?_
                  have e : m_rdy (m_l (m_dn (m_l (m_s M 5 q (nI (n0 + 1))) 0 q t) q) 5 (κ + 3) u) r = m_dn (m_rdy (m_out (m_l (m_s M 5 q (nI (n0 + 1))) 0 q t) (κ + 3) r) r) q := by
                    rw [m_out_hd hI.1 hκ hu (m_l (m_s M 5 q (nI (n0 + 1))) 0 q t) hu]
                    unfold m_dn
                    rw [msl_c, m_rdy_s (by omega), m_rdy_sn (by omega)]
                    rfl
                  rw [e] at g4
                  have s0 : ∀ c i, c ≠ 0 → c ≠ 7 → c ≠ 8 → c ≠ 5 → (m_rdy (m_out (m_l (m_s M 5 q (nI (n0 + 1))) 0 q t) (κ + 3) r) r).1 c i = M.1 c i := by
                    intro c i c0 c7 c8 c5
                    rw [m_rdy_sn (by omega)]
                    exact ms_n (by omega)
                  refine ⟨rfl, XA.done hmv (hS.of g4 (fun i _ => (ms_n (by omega)).trans (s0 12 i (by omega) (by omega) (by omega) (by omega)))) ?_ hnw hg0 (Or.inr (Or.inr (Or.inr (Or.inr (Or.inr (Or.inr (Or.inr (Or.inr (Or.inr (Or.inr (Or.inr (Or.inr (Or.inr (Or.inr (Or.inr (Or.inr (Or.inr (Or.inr (Or.inr (Or.inr (Or.inr (Or.inr (Or.inr (Or.inr (⟨rfl, t, nI κ, hst, Or.inl ⟨κ, hκ, rfl, rfl, Or.inl ⟨r, u, hr, hu, rfl⟩⟩⟩)))))))))))))))))))))))))⟩
                  rw [m_rdy_sn (by omega)]
                  exact h1
                · exact absurd (Int32.le_refl _) h
              | succ t' ih =>
                intro i τ4 ht hf h44 h43
                refine n_iload hC dX12_semaphore_132 rfl ?_
                refine n_aload_n hC dX12_semaphore_134 rfl rfl ?_
                refine gm_waitCount hC wfX12_206 dX12_semaphore_135 ?_
                refine n_iload_n hC dX12_semaphore_138 rfl rfl ?_
                first | refine r_ld hC rfl (fun _ => rfl) (by decide) (by first | omega | with_reducible assumption) dX12_semaphore_139 ?_ | refine r_needs hC (by first | exact vp_in_nI (by omega) (by decide) | with_reducible assumption) dX12_semaphore_139 ?_
                rw [h44]
                refine n_icmp_ge (tgt := 175) hC dX12_semaphore_140 (by decide) (fun h => ?_) (fun h => ?_)
                · exact absurd h (nI_ge (by omega) (by omega))
                · clear h
                  refine n_aload_n hC dX12_semaphore_143 rfl rfl ?_
                  refine gm_waiting hC wfX12_203 dX12_semaphore_144 ?_
                  refine n_bipush (v := 13) hC dX12_semaphore_147 (by decide) ?_
                  refine n_iload_n hC dX12_semaphore_149 rfl rfl ?_
                  refine n_imul hC dX12_semaphore_150 ?_
                  refine n_iload hC dX12_semaphore_151 rfl ?_
                  refine n_iadd hC dX12_semaphore_153 ?_
                  rw [show (13 : Int32) * nI κ + nI i = nI (13 * κ + i) from by rw [← nI_add, ← nI_mulL]; rfl]
                  refine n_aload_n hC dX12_semaphore_154 rfl rfl ?_
                  refine gm_waiting hC wfX12_203 dX12_semaphore_155 ?_
                  refine n_bipush (v := 13) hC dX12_semaphore_158 (by decide) ?_
                  refine n_iload_n hC dX12_semaphore_160 rfl rfl ?_
                  refine n_imul hC dX12_semaphore_161 ?_
                  refine n_iload hC dX12_semaphore_162 rfl ?_
                  refine n_iadd hC dX12_semaphore_164 ?_
                  refine n_iconst (v := 1) hC dX12_semaphore_165 (by decide) ?_
                  refine n_iadd hC dX12_semaphore_166 ?_
                  rw [show (13 : Int32) * nI κ + nI i + 1 = nI (13 * κ + (i + 1)) from by rw [← nI_add, ← nI_add, ← nI_mulL, Int32.add_assoc]; rfl]
                  first | refine r_ld hC rfl (fun _ => rfl) (by decide) (by first | omega | with_reducible assumption) dX12_semaphore_167 ?_ | refine r_needs hC (by first | exact vp_in_nI (by omega) (by decide) | with_reducible assumption) dX12_semaphore_167 ?_
                  refine r_st hC rfl (fun _ h => h) (fun _ => rfl) (by decide) (by first | omega | with_reducible assumption) dX12_semaphore_168 ?_
                  refine n_iinc hC dX12_semaphore_169 rfl (show _ + Int32.ofInt 1 = _ + 1 from rfl) ?_
                  refine n_goto (tgt := 132) hC dX12_semaphore_172 (by decide) ?_
                  rw [nI_1, h43 (i + 1) (by omega), if_neg (by omega), List.getD_cons_succ]
                  refine ih (i + 1) _ (by omega) (fun κ' z a b => ?_) ?_ (fun j hj => ?_)
                  · rw [n_up_o (by omega)]
                    exact hf κ' z a b
                  · rw [n_up_o (by omega)]
                    exact h44
                  · by_cases z : j = i
                    · rw [z, n_up_e, if_pos (by omega)]
                    · rw [n_up_o (by omega), h43 j hj]
                      by_cases z2 : j < i
                      · rw [if_pos z2, if_pos (by omega)]
                      · rw [if_neg z2, if_neg (by omega)]
            refine n_aload_n hC dX12_semaphore_108 rfl rfl ?_
            refine gm_waiting hC wfX12_203 dX12_semaphore_109 ?_
            refine n_bipush (v := 13) hC dX12_semaphore_112 (by decide) ?_
            refine n_iload_n hC dX12_semaphore_114 rfl rfl ?_
            refine n_imul hC dX12_semaphore_115 ?_
            rw [show (13 : Int32) * nI κ = nI (13 * κ) from nI_mulL 13 κ]
            first | refine r_ld hC rfl (fun _ => rfl) (by decide) (by first | omega | with_reducible assumption) dX12_semaphore_116 ?_ | refine r_needs hC (by first | exact vp_in_nI (by omega) (by decide) | with_reducible assumption) dX12_semaphore_116 ?_
            rw [show τ1 43 0 (13 * κ) = nI r from eq3 0 (by omega)]
            refine n_istore hC dX12_semaphore_117 (Nat.le_of_ble_eq_true rfl) ?_
            refine n_aload_n hC dX12_semaphore_119 rfl rfl ?_
            refine gm_waitCount hC wfX12_206 dX12_semaphore_120 ?_
            refine n_iload_n hC dX12_semaphore_123 rfl rfl ?_
            refine n_dup2_11 hC dX12_semaphore_124 rfl rfl ?_
            first | refine r_ld hC rfl (fun _ => rfl) (by decide) (by first | omega | with_reducible assumption) dX12_semaphore_125 ?_ | refine r_needs hC (by first | exact vp_in_nI (by omega) (by decide) | with_reducible assumption) dX12_semaphore_125 ?_
            rw [eq1]
            refine n_iconst (v := 1) hC dX12_semaphore_126 (by decide) ?_
            refine n_isub hC dX12_semaphore_127 ?_
            rw [show nI (u.length + 1) - 1 = nI u.length from nI_m1 (by omega)]
            refine r_st hC rfl (fun _ h => h) (fun _ => rfl) (by decide) (by first | omega | with_reducible assumption) dX12_semaphore_128 ?_
            refine n_iconst (v := 0) hC dX12_semaphore_129 (by decide) ?_
            refine n_istore hC dX12_semaphore_130 (Nat.le_of_ble_eq_true rfl) ?_
            refine loop u.length 0 _ (by omega) (fun κ' z a b => n_up_o a) (n_up_e _ _ _ _) (fun j hj => ?_)
            rw [n_up_o (by omega), if_neg (by omega), eq3 j (by omega)]
        · exact absurd h (by decide)
    · refine trap (fun ⟨κ, hκ, z⟩ => ?_)
      rw [z] at h
      exact h (nI_lt (b := 8) hκ (by omega))
end RSH
