theorem wkX10_329 : Cond.constant "ShareMonitor$Worker" 329 1000000 ∈ n_tb := n_in (by decide +kernel) rfl
def m_jn (M : n_M) (q k : Nat) : n_M := m_l (m_susp M q 6 (nI k)) 5 (k + 3) (M.2 5 (k + 3) ++ [nI q])
theorem IR_out_len {M : n_M} (h : IR M) {q r : Nat} (hq : n_V q) (hr : r < 3) : ((m_out M (m_lv M q) q).2 5 r).length < 12 := by
  unfold m_out
  by_cases e : r = m_lv M q
  · subst e
    rw [ml_e]
    obtain ⟨h1, h2⟩ := h.2.1 _ hr
    refine nd_12 (List.Pairwise.filter _ h1) (fun x hx => ?_) hq (fun z => ?_)
    · obtain ⟨q', a, b, -⟩ := h2 x ((List.mem_filter.mp hx).1)
      exact ⟨q', a, b⟩
    · simp at z
  · rw [ml_n (by omega)]
    exact h.row hq hr (h.notrow2 hq hr (fun z => e (m_lv_i hr z).symm))
section WK60
variable {St : Type} {p : Program} {l : Launch} {e : Env} {s : State} {m : MethodId} {args : Array Value} {below : List Frame} {meth : Method} {c : Code} {w : n_Wd St} {d : Nat} {Po : Option Value → St → Prop} {cc : ByteArray} {nL : Nat} {own : String} {ret : Option FieldType} {pc : Nat} {ls : List (Option Value)} {rest : List Value} {σ : St}
theorem n_ldcw (hC : n_C p s m args meth c w cc nL own ret) {index : Nat} {v : Int32} (hconst : Cond.constant own index v ∈ n_tb) (hdg : decode cc pc = .ok (.ldc_w index, 3)) (k : n_W p l e s m args below meth c w d Po (pc + 3) ls (.int v :: rest) σ) : n_W p l e s m args below meth c w d Po pc ls rest σ := fun H locs la z1 z2 z3 => lv_ldcw hC.1 hC.2.1 hC.2.2.2.1 (hC.2.2.2.2.1 _ hconst) hdg (k H locs la z1 z2 z3)
end WK60
section WK6
variable {l : Launch} {D : va_G} {ca : Nat → ClassId} {ad : Nat → Nat → Nat} {ae : Nat → Nat} {ts : Nat} {Ex : State → Heap → Prop}
theorem c_semup (hX : ∀ U H, Ex U H → cE ad ae ts U H) (d q k : Nat) (M : n_M) (σ : n_S) (hq : n_V q) (hk : k < 8) (hM : RepC M σ) (hI : IR M) : n_Ct l (cw D ca ad ae Ex) (d + 2) yX10_useSemaphore cX10_useSemaphore 6 (some .int) [.ref (ad 20 0), .ref (ad 21 q), .ref (ae 42), .int (nI k)] σ (fun rv σ' => rv = some (.int 0) ∧ ((∃ r t, n_V r ∧ M.2 5 (k + 3) = nI r :: t ∧ RepC (m_rdy (m_out M (k + 3) r) r) σ') ∨ (M.2 5 (k + 3) = [] ∧ RepC (if M.1 9 k < 1000000 then m_s M 9 k (M.1 9 k + 1) else M) σ'))) := by
  have hk11 : k + 3 < 11 := by omega
  have e9 : σ 14 0 k = M.1 9 k := hM.1 9 k hk
  have ek : (nI k).toNatClampNeg = k := nI_clamp (by omega)
  refine n_ofW (by decide) (Nat.le_of_ble_eq_true rfl) ?_
  intro p e s m below meth c hC
  have hd : cw_dom 21 q := hq
  have hd3 : cw_dom 31 (k + 3) := hk11
  refine n_aload_n hC dX10_useSemaphore_0 rfl rfl ?_
  refine g20_desk hC (by first | exact rfl | with_reducible assumption) wfX10_15 dX10_useSemaphore_1 ?_
  refine g9_queues hC (by first | exact rfl | with_reducible assumption) wfX10_310 dX10_useSemaphore_4 ?_
  refine n_iload_n hC dX10_useSemaphore_7 rfl rfl ?_
  first | refine a_rows hC (by omega) dX10_useSemaphore_8 ?_ | refine a_queues hC (by omega) dX10_useSemaphore_8 ?_ | refine a_procs hC (by omega) dX10_useSemaphore_8 ?_ | refine a_progs hC (by omega) dX10_useSemaphore_8 ?_
  first | refine n_astore hC dX10_useSemaphore_9 (Nat.le_of_ble_eq_true rfl) ?_ | refine n_astoreN hC dX10_useSemaphore_9 (Nat.le_of_ble_eq_true rfl) ?_
  refine n_aload_n hC dX10_useSemaphore_11 rfl rfl ?_
  refine e_gs hC hX (k := 42) (by decide) wfX10_298 dX10_useSemaphore_12 ?_
  first | refine e_acne_f (tgt := 89) hC dX10_useSemaphore_15 (by decide) ?_ | refine e_acne_t (tgt := 89) hC hX (by omega) (by omega) (by omega) dX10_useSemaphore_15 (by decide) ?_
  refine n_aload_n hC dX10_useSemaphore_18 rfl rfl ?_
  refine g20_desk hC (by first | exact rfl | with_reducible assumption) wfX10_15 dX10_useSemaphore_19 ?_
  refine n_aload hC dX10_useSemaphore_22 rfl ?_
  refine n_callV hC (c_first (d + 1) (k + 3) M σ hM hk11) (Nat.le_refl _) (by decide) (by first | exact rfl | with_reducible assumption) rfl rfl rfl ⟨wmX10_314, wi_yX7_first, wv_yX7_first, wzX7, wc_yX7_first⟩ hy_yX7_first rfl (Nat.le_of_ble_eq_true rfl) dX10_useSemaphore_24 (fun rv σ' hpo => ?_)
  obtain ⟨rfl, rfl⟩ := hpo
  cases hL : M.2 5 (k + 3) with
  | nil =>
    refine n_callV hC (c_find (d + 1) (-1) σ') (Nat.le_refl _) (by decide) (by first | exact rfl | with_reducible assumption) rfl rfl rfl ⟨wmX10_228, wi_yX2_find, wv_yX2_find, wzX2, wc_yX2_find⟩ hy_yX2_find rfl (Nat.le_of_ble_eq_true rfl) dX10_useSemaphore_27 (fun rv σ' hpo => ?_)
    obtain ⟨hpo, rfl⟩ := hpo
    rcases hpo with ⟨r, hr, ex, rfl⟩ | ⟨hx, rfl⟩
    · exact absurd ex (by
        intro z
        have : (0 : Int32) ≤ nI r := nI_pos' (by omega)
        rw [← z] at this
        exact absurd this (by decide))
    · first | refine n_astore hC dX10_useSemaphore_30 (Nat.le_of_ble_eq_true rfl) ?_ | refine n_astoreN hC dX10_useSemaphore_30 (Nat.le_of_ble_eq_true rfl) ?_
      refine n_aloadN hC dX10_useSemaphore_32 rfl ?_
      first | refine n_ifnull hC dX10_useSemaphore_34 ?_ | refine n_ifnullN (tgt := 59) hC dX10_useSemaphore_34 (by decide) ?_
      refine n_aload_n hC dX10_useSemaphore_59 rfl rfl ?_
      refine g20_desk hC (by first | exact rfl | with_reducible assumption) wfX10_15 dX10_useSemaphore_60 ?_
      refine g9_values hC (by first | exact rfl | with_reducible assumption) wfX10_326 dX10_useSemaphore_63 ?_
      refine n_iload_n hC dX10_useSemaphore_66 rfl rfl ?_
      refine c_iald hC (by first | exact rfl | with_reducible assumption) (fun _ => rfl) (by first | exact vp_in_nI (by omega) (by decide) | with_reducible assumption) dX10_useSemaphore_67 ?_
      rw [ek, e9]
      refine n_ldcw hC wkX10_329 dX10_useSemaphore_68 ?_
      refine n_icmp_ge (tgt := 87) hC dX10_useSemaphore_71 (by decide) (fun h => ?_) (fun h => ?_)
      · refine n_iconst (v := 0) hC dX10_useSemaphore_87 (by decide) ?_
        refine n_iret hC dX10_useSemaphore_88 ?_
        refine ⟨rfl, Or.inr ⟨rfl, ?_⟩⟩
        rw [if_neg (Int32.not_lt.mpr h)]
        exact hM
      · refine n_aload_n hC dX10_useSemaphore_74 rfl rfl ?_
        refine g20_desk hC (by first | exact rfl | with_reducible assumption) wfX10_15 dX10_useSemaphore_75 ?_
        refine g9_values hC (by first | exact rfl | with_reducible assumption) wfX10_326 dX10_useSemaphore_78 ?_
        refine n_iload_n hC dX10_useSemaphore_81 rfl rfl ?_
        refine n_dup2_11 hC dX10_useSemaphore_82 rfl rfl ?_
        refine c_iald hC (by first | exact rfl | with_reducible assumption) (fun _ => rfl) (by first | exact vp_in_nI (by omega) (by decide) | with_reducible assumption) dX10_useSemaphore_83 ?_
        rw [ek, e9]
        refine n_iconst (v := 1) hC dX10_useSemaphore_84 (by decide) ?_
        refine n_iadd hC dX10_useSemaphore_85 ?_
        refine c_iast hC (by first | exact rfl | with_reducible assumption) (fun _ => rfl) (by first | exact vp_in_nI (by omega) (by decide) | with_reducible assumption) dX10_useSemaphore_86 ?_
        refine n_iconst (v := 0) hC dX10_useSemaphore_87 (by decide) ?_
        refine n_iret hC dX10_useSemaphore_88 ?_
        refine ⟨rfl, Or.inr ⟨rfl, ?_⟩⟩
        rw [if_pos (Int32.not_le.mp h), ek]
        exact cu_9 hM hk
  | cons a t =>
    obtain ⟨r, hr, rfl, h6, h7⟩ := (hI.2.2.2.1 k hk).2 a (by rw [hL]; exact List.mem_cons_self)
    obtain ⟨hr1, hr12⟩ := id hr
    have hd2 : cw_dom 21 r := hr
    refine n_callV hC (c_find (d + 1) (nI r) σ') (Nat.le_refl _) (by decide) (by first | exact rfl | with_reducible assumption) rfl rfl rfl ⟨wmX10_228, wi_yX2_find, wv_yX2_find, wzX2, wc_yX2_find⟩ hy_yX2_find rfl (Nat.le_of_ble_eq_true rfl) dX10_useSemaphore_27 (fun rv σ' hpo => ?_)
    obtain ⟨hpo, rfl⟩ := hpo
    rcases hpo with ⟨r2, hr2, ex, rfl⟩ | ⟨hx, rfl⟩
    · have := nV_inj hr hr2 ex
      subst this
      first | refine n_astore hC dX10_useSemaphore_30 (Nat.le_of_ble_eq_true rfl) ?_ | refine n_astoreN hC dX10_useSemaphore_30 (Nat.le_of_ble_eq_true rfl) ?_
      refine n_aload hC dX10_useSemaphore_32 rfl ?_
      first | refine n_ifnull hC dX10_useSemaphore_34 ?_ | refine n_ifnullN (tgt := 59) hC dX10_useSemaphore_34 (by decide) ?_
      refine n_aload hC dX10_useSemaphore_37 rfl ?_
      refine n_aload hC dX10_useSemaphore_39 rfl ?_
      refine g21_number hC (by first | exact rfl | with_reducible assumption) wfX10_51 dX10_useSemaphore_41 ?_
      refine n_callV hC (c_leave (d + 1) (k + 3) (nI r) M _ hM hk11) (Nat.le_refl _) (by decide) (by first | exact rfl | with_reducible assumption) rfl rfl rfl ⟨wmX10_319, wi_yX7_leave, wv_yX7_leave, wzX7, wc_yX7_leave⟩ hy_yX7_leave rfl (Nat.le_of_ble_eq_true rfl) dX10_useSemaphore_44 (fun rv σ' hpo => ?_)
      obtain ⟨rfl, h1⟩ := hpo
      refine n_aload_n hC dX10_useSemaphore_47 rfl rfl ?_
      refine g20_desk hC (by first | exact rfl | with_reducible assumption) wfX10_15 dX10_useSemaphore_48 ?_
      refine n_aload hC dX10_useSemaphore_51 rfl ?_
      have hlv := hI.lv hr
      have hlen : ((m_out M (k + 3) r).2 5 (m_lv (m_out M (k + 3) r) r)).length < 12 := by
        show ((m_out M (k + 3) r).2 5 (m_lv M r)).length < 12
        unfold m_out
        rw [ml_n (by omega)]
        exact hI.row hr hlv.1 (hI.notrow hr hlv.1 (by rw [h6]; decide))
      refine n_callV hC (c_makeReady d r (m_out M (k + 3) r) _ h1 hr (hI.1 r hr) hlen) (Nat.le_refl _) (by decide) (by first | exact rfl | with_reducible assumption) rfl rfl rfl ⟨wmX10_322, wi_yX2_makeReady, wv_yX2_makeReady, wzX2, wc_yX2_makeReady⟩ hy_yX2_makeReady rfl (Nat.le_of_ble_eq_true rfl) dX10_useSemaphore_53 (fun rv σ' hpo => ?_)
      obtain ⟨rfl, h2⟩ := hpo
      refine n_goto (tgt := 87) hC dX10_useSemaphore_56 (by decide) ?_
      refine n_iconst (v := 0) hC dX10_useSemaphore_87 (by decide) ?_
      refine n_iret hC dX10_useSemaphore_88 ?_
      exact ⟨rfl, Or.inl ⟨r, t, hr, rfl, h2⟩⟩
    · exact absurd ⟨nI_le (a := 1) (by omega) (by omega), nI_le (b := 12) (by omega) (by omega)⟩ hx
theorem c_semdown (hX : ∀ U H, Ex U H → cE ad ae ts U H) (d q k : Nat) (M : n_M) (σ : n_S) (hq : n_V q) (hk : k < 8) (hM : RepC M σ) (hI : IR M) (hs : M.1 0 q = 1) : n_Ct l (cw D ca ad ae Ex) (d + 2) yX10_useSemaphore cX10_useSemaphore 6 (some .int) [.ref (ad 20 0), .ref (ad 21 q), .ref (ae 41), .int (nI k)] σ (fun rv σ' => (0 < M.1 9 k ∧ rv = some (.int 0) ∧ RepC (m_s M 9 k (M.1 9 k - 1)) σ') ∨ (¬ 0 < M.1 9 k ∧ rv = some (.int 1) ∧ RepC (m_jn M q k) σ')) := by
  have hk11 : k + 3 < 11 := by omega
  have e9 : σ 14 0 k = M.1 9 k := hM.1 9 k hk
  have ek : (nI k).toNatClampNeg = k := nI_clamp (by omega)
  refine n_ofW (by decide) (Nat.le_of_ble_eq_true rfl) ?_
  intro p e s m below meth c hC
  have hd : cw_dom 21 q := hq
  have hd3 : cw_dom 31 (k + 3) := hk11
  refine n_aload_n hC dX10_useSemaphore_0 rfl rfl ?_
  refine g20_desk hC (by first | exact rfl | with_reducible assumption) wfX10_15 dX10_useSemaphore_1 ?_
  refine g9_queues hC (by first | exact rfl | with_reducible assumption) wfX10_310 dX10_useSemaphore_4 ?_
  refine n_iload_n hC dX10_useSemaphore_7 rfl rfl ?_
  first | refine a_rows hC (by omega) dX10_useSemaphore_8 ?_ | refine a_queues hC (by omega) dX10_useSemaphore_8 ?_ | refine a_procs hC (by omega) dX10_useSemaphore_8 ?_ | refine a_progs hC (by omega) dX10_useSemaphore_8 ?_
  first | refine n_astore hC dX10_useSemaphore_9 (Nat.le_of_ble_eq_true rfl) ?_ | refine n_astoreN hC dX10_useSemaphore_9 (Nat.le_of_ble_eq_true rfl) ?_
  refine n_aload_n hC dX10_useSemaphore_11 rfl rfl ?_
  refine e_gs hC hX (k := 42) (by decide) wfX10_298 dX10_useSemaphore_12 ?_
  first | refine e_acne_f (tgt := 89) hC dX10_useSemaphore_15 (by decide) ?_ | refine e_acne_t (tgt := 89) hC hX (by omega) (by omega) (by omega) dX10_useSemaphore_15 (by decide) ?_
  refine n_aload_n hC dX10_useSemaphore_89 rfl rfl ?_
  refine g20_desk hC (by first | exact rfl | with_reducible assumption) wfX10_15 dX10_useSemaphore_90 ?_
  refine g9_values hC (by first | exact rfl | with_reducible assumption) wfX10_326 dX10_useSemaphore_93 ?_
  refine n_iload_n hC dX10_useSemaphore_96 rfl rfl ?_
  refine c_iald hC (by first | exact rfl | with_reducible assumption) (fun _ => rfl) (by first | exact vp_in_nI (by omega) (by decide) | with_reducible assumption) dX10_useSemaphore_97 ?_
  rw [ek, e9]
  refine n_if_le (tgt := 116) hC dX10_useSemaphore_98 (by decide) (fun h => ?_) (fun h => ?_)
  · refine n_aload_n hC dX10_useSemaphore_116 rfl rfl ?_
    refine g20_desk hC (by first | exact rfl | with_reducible assumption) wfX10_15 dX10_useSemaphore_117 ?_
    refine n_aload_n hC dX10_useSemaphore_120 rfl rfl ?_
    refine n_bipush (v := 6) hC dX10_useSemaphore_121 (by decide) ?_
    refine n_iload_n hC dX10_useSemaphore_123 rfl rfl ?_
    refine n_callV hC (c_suspend d q 6 (nI k) M σ hM hq (hI.1 q hq)) (Nat.le_refl _) (by decide) (by first | exact rfl | with_reducible assumption) rfl rfl rfl ⟨wmX10_101, wi_yX2_suspend, wv_yX2_suspend, wzX2, wc_yX2_suspend⟩ hy_yX2_suspend rfl (Nat.le_of_ble_eq_true rfl) dX10_useSemaphore_124 (fun rv σ' hpo => ?_)
    obtain ⟨rfl, h1⟩ := hpo
    have e1 : (m_susp M q 6 (nI k)).2 5 (k + 3) = M.2 5 (k + 3) := by
      unfold m_susp m_out
      rw [m_s_l, m_s_l, m_s_l, ml_n (by have := (hI.lv hq).1; omega)]
    refine n_aload hC dX10_useSemaphore_127 rfl ?_
    refine n_aload_n hC dX10_useSemaphore_129 rfl rfl ?_
    refine g21_number hC (by first | exact rfl | with_reducible assumption) wfX10_51 dX10_useSemaphore_130 ?_
    refine n_callV hC (c_join (d + 1) (k + 3) (nI q) _ _ h1 hk11 (by rw [e1]; exact hI.que hq hk (hI.notque hq hk (by rw [hs]; decide)))) (Nat.le_refl _) (by decide) (by first | exact rfl | with_reducible assumption) rfl rfl rfl ⟨wmX10_330, wi_yX7_join, wv_yX7_join, wzX7, wc_yX7_join⟩ hy_yX7_join rfl (Nat.le_of_ble_eq_true rfl) dX10_useSemaphore_133 (fun rv σ' hpo => ?_)
    obtain ⟨rfl, h2⟩ := hpo
    rw [e1] at h2
    refine n_iconst (v := 1) hC dX10_useSemaphore_136 (by decide) ?_
    refine n_iret hC dX10_useSemaphore_137 ?_
    exact Or.inr ⟨Int32.not_lt.mpr h, rfl, h2⟩
  · refine n_aload_n hC dX10_useSemaphore_101 rfl rfl ?_
    refine g20_desk hC (by first | exact rfl | with_reducible assumption) wfX10_15 dX10_useSemaphore_102 ?_
    refine g9_values hC (by first | exact rfl | with_reducible assumption) wfX10_326 dX10_useSemaphore_105 ?_
    refine n_iload_n hC dX10_useSemaphore_108 rfl rfl ?_
    refine n_dup2_11 hC dX10_useSemaphore_109 rfl rfl ?_
    refine c_iald hC (by first | exact rfl | with_reducible assumption) (fun _ => rfl) (by first | exact vp_in_nI (by omega) (by decide) | with_reducible assumption) dX10_useSemaphore_110 ?_
    rw [ek, e9]
    refine n_iconst (v := 1) hC dX10_useSemaphore_111 (by decide) ?_
    refine n_isub hC dX10_useSemaphore_112 ?_
    refine c_iast hC (by first | exact rfl | with_reducible assumption) (fun _ => rfl) (by first | exact vp_in_nI (by omega) (by decide) | with_reducible assumption) dX10_useSemaphore_113 ?_
    refine n_iconst (v := 0) hC dX10_useSemaphore_114 (by decide) ?_
    refine n_iret hC dX10_useSemaphore_115 ?_
    refine Or.inl ⟨Int32.not_le.mp h, rfl, ?_⟩
    rw [ek]
    exact cu_9 hM hk
theorem c_tyield (hX : ∀ U H, Ex U H → cE ad ae ts U H) (d q : Nat) (M : n_M) (σ : n_S) (hq : n_V q) (hM : RepC M σ) (hI : IR M) : n_Ct l (cw D ca ad ae Ex) (d + 3) yX10_takeTurn cX10_takeTurn 4 (some .int) [.ref (ad 20 0), .ref (ad 21 q), .ref (ae 39)] σ (fun rv σ' => rv = some (.int 1) ∧ RepC (m_plast M q (M.1 2 q)) σ') := by
  have hlv := hI.lv hq
  refine n_ofW (by decide) (Nat.le_of_ble_eq_true rfl) ?_
  intro p e s m below meth c hC
  have hd : cw_dom 21 q := hq
  refine n_aload_n hC dX10_takeTurn_0 rfl rfl ?_
  refine e_gs hC hX (k := 39) (by decide) wfX10_292 dX10_takeTurn_1 ?_
  first | refine e_acne_f (tgt := 21) hC dX10_takeTurn_4 (by decide) ?_ | refine e_acne_t (tgt := 21) hC hX (by omega) (by omega) (by omega) dX10_takeTurn_4 (by decide) ?_
  refine n_aload_n hC dX10_takeTurn_7 rfl rfl ?_
  refine g20_desk hC (by first | exact rfl | with_reducible assumption) wfX10_15 dX10_takeTurn_8 ?_
  refine n_aload_n hC dX10_takeTurn_11 rfl rfl ?_
  refine n_aload_n hC dX10_takeTurn_12 rfl rfl ?_
  refine g21_level hC (by first | exact rfl | with_reducible assumption) wfX10_67 dX10_takeTurn_13 ?_
  rw [show σ 21 q 9 = M.1 2 q from hM.1 2 q hq]
  refine n_callV hC (c_putLast d q (M.1 2 q) M σ hM hq (hI.1 q hq) (hI.1 q hq) (IR_out_len hI hq hlv.1)) (Nat.le_refl _) (by decide) (by first | exact rfl | with_reducible assumption) rfl rfl rfl ⟨wmX10_70, wi_yX2_putLast, wv_yX2_putLast, wzX2, wc_yX2_putLast⟩ hy_yX2_putLast rfl (Nat.le_of_ble_eq_true rfl) dX10_takeTurn_16 (fun rv σ' hpo => ?_)
  obtain ⟨rfl, h1⟩ := hpo
  refine n_iconst (v := 1) hC dX10_takeTurn_19 (by decide) ?_
  refine n_iret hC dX10_takeTurn_20 ?_
  exact ⟨rfl, h1⟩
theorem c_tlevel (hX : ∀ U H, Ex U H → cE ad ae ts U H) (d q : Nat) (a : Int32) (t : List Int32) (M : n_M) (σ : n_S) (hq : n_V q) (hM : RepC M σ) (hI : IR M) (hl : M.2 0 q = t ++ [a]) : n_Ct l (cw D ca ad ae Ex) (d + 3) yX10_takeTurn cX10_takeTurn 4 (some .int) [.ref (ad 20 0), .ref (ad 21 q), .ref (ae 38)] σ (fun rv σ' => ((∃ r, r < 3 ∧ a = nI r) ∧ rv = some (.int 1) ∧ RepC (m_plast (m_l M 0 q t) q a) σ') ∨ ((¬ ∃ r, r < 3 ∧ a = nI r) ∧ rv = some (.int (-9)) ∧ RepC (m_l M 0 q t) σ')) := by
  have hI1 : IR (m_l M 0 q t) := IR_l hI (by omega)
  refine n_ofW (by decide) (Nat.le_of_ble_eq_true rfl) ?_
  intro p e s m below meth c hC
  have hd : cw_dom 21 q := hq
  refine n_aload_n hC dX10_takeTurn_0 rfl rfl ?_
  refine e_gs hC hX (k := 39) (by decide) wfX10_292 dX10_takeTurn_1 ?_
  first | refine e_acne_f (tgt := 21) hC dX10_takeTurn_4 (by decide) ?_ | refine e_acne_t (tgt := 21) hC hX (by omega) (by omega) (by omega) dX10_takeTurn_4 (by decide) ?_
  refine n_aload_n hC dX10_takeTurn_21 rfl rfl ?_
  refine n_callV hC (c_pop (d + 2) q a t M σ hM hq hl) (Nat.le_refl _) (by decide) (by first | exact rfl | with_reducible assumption) rfl rfl rfl ⟨wmX10_57, wi_yX9_pop, wv_yX9_pop, wzX9, wc_yX9_pop⟩ hy_yX9_pop rfl (Nat.le_of_ble_eq_true rfl) dX10_takeTurn_22 (fun rv σ' hpo => ?_)
  obtain ⟨rfl, h1⟩ := hpo
  refine n_istore_n hC dX10_takeTurn_25 rfl (Nat.le_of_ble_eq_true rfl) ?_
  refine n_aload_n hC dX10_takeTurn_26 rfl rfl ?_
  refine e_gs hC hX (k := 41) (by decide) wfX10_295 dX10_takeTurn_27 ?_
  first | refine e_aceq_t (tgt := 40) hC dX10_takeTurn_30 (by decide) ?_ | refine e_aceq_f (tgt := 40) hC hX (by omega) (by omega) (by omega) dX10_takeTurn_30 (by decide) ?_
  refine n_aload_n hC dX10_takeTurn_33 rfl rfl ?_
  refine e_gs hC hX (k := 42) (by decide) wfX10_298 dX10_takeTurn_34 ?_
  first | refine e_acne_f (tgt := 63) hC dX10_takeTurn_37 (by decide) ?_ | refine e_acne_t (tgt := 63) hC hX (by omega) (by omega) (by omega) dX10_takeTurn_37 (by decide) ?_
  refine n_aload_n hC dX10_takeTurn_63 rfl rfl ?_
  refine e_gs hC hX (k := 38) (by decide) wfX10_304 dX10_takeTurn_64 ?_
  first | refine e_acne_f (tgt := 82) hC dX10_takeTurn_67 (by decide) ?_ | refine e_acne_t (tgt := 82) hC hX (by omega) (by omega) (by omega) dX10_takeTurn_67 (by decide) ?_
  refine n_iload_n hC dX10_takeTurn_70 rfl rfl ?_
  refine n_if_lt (tgt := 79) hC dX10_takeTurn_71 (by decide) (fun h => ?_) (fun h => ?_)
  · refine n_bipush (v := -9) hC dX10_takeTurn_79 (by decide) ?_
    refine n_iret hC dX10_takeTurn_81 ?_
    refine Or.inr ⟨fun z => ?_, rfl, h1⟩
    obtain ⟨r, hr, rfl⟩ := z
    exact nI_pos (by omega) h
  · obtain ⟨r, hr31, rfl⟩ := nI_of h
    clear h
    refine n_iload_n hC dX10_takeTurn_74 rfl rfl ?_
    refine n_iconst (v := 3) hC dX10_takeTurn_75 (by decide) ?_
    refine n_icmp_lt (tgt := 82) hC dX10_takeTurn_76 (by decide) (fun h => ?_) (fun h => ?_)
    · have hr : r < 3 := (nI_ltI (b := 3) hr31 (by decide)).mp h
      refine n_aload_n hC dX10_takeTurn_82 rfl rfl ?_
      refine e_gs hC hX (k := 38) (by decide) wfX10_304 dX10_takeTurn_83 ?_
      first | refine e_acne_f (tgt := 101) hC dX10_takeTurn_86 (by decide) ?_ | refine e_acne_t (tgt := 101) hC hX (by omega) (by omega) (by omega) dX10_takeTurn_86 (by decide) ?_
      refine n_aload_n hC dX10_takeTurn_89 rfl rfl ?_
      refine g20_desk hC (by first | exact rfl | with_reducible assumption) wfX10_15 dX10_takeTurn_90 ?_
      refine n_aload_n hC dX10_takeTurn_93 rfl rfl ?_
      refine n_iload_n hC dX10_takeTurn_94 rfl rfl ?_
      refine n_callV hC (c_putLast d q (nI r) _ _ h1 hq (hI1.1 q hq) ⟨r, hr, rfl⟩ (by rw [nI_clamp hr31]; exact IR_out_len hI1 hq hr)) (Nat.le_refl _) (by decide) (by first | exact rfl | with_reducible assumption) rfl rfl rfl ⟨wmX10_70, wi_yX2_putLast, wv_yX2_putLast, wzX2, wc_yX2_putLast⟩ hy_yX2_putLast rfl (Nat.le_of_ble_eq_true rfl) dX10_takeTurn_95 (fun rv σ' hpo => ?_)
      obtain ⟨rfl, h2⟩ := hpo
      refine n_goto (tgt := 130) hC dX10_takeTurn_98 (by decide) ?_
      refine n_iconst (v := 1) hC dX10_takeTurn_130 (by decide) ?_
      refine n_iret hC dX10_takeTurn_131 ?_
      exact Or.inl ⟨⟨r, hr, rfl⟩, rfl, h2⟩
    · refine n_bipush (v := -9) hC dX10_takeTurn_79 (by decide) ?_
      refine n_iret hC dX10_takeTurn_81 ?_
      refine Or.inr ⟨fun z => ?_, rfl, h1⟩
      obtain ⟨r2, hr2, e⟩ := z
      rw [e] at h
      exact h (nI_lt (b := 3) hr2 (by decide))
theorem c_tsleep (hX : ∀ U H, Ex U H → cE ad ae ts U H) (d q : Nat) (a : Int32) (t : List Int32) (M : n_M) (σ : n_S) (hq : n_V q) (hM : RepC M σ) (hI : IR M) (hl : M.2 0 q = t ++ [a]) : n_Ct l (cw D ca ad ae Ex) (d + 3) yX10_takeTurn cX10_takeTurn 4 (some .int) [.ref (ad 20 0), .ref (ad 21 q), .ref (ae 40)] σ (fun rv σ' => rv = some (.int 1) ∧ RepC (if a < 1 then m_plast (m_l M 0 q t) q (M.1 2 q) else m_slp (m_l M 0 q t) q a) σ') := by
  have hI1 : IR (m_l M 0 q t) := IR_l hI (by omega)
  have hlv := hI1.lv hq
  refine n_ofW (by decide) (Nat.le_of_ble_eq_true rfl) ?_
  intro p e s m below meth c hC
  have hd : cw_dom 21 q := hq
  refine n_aload_n hC dX10_takeTurn_0 rfl rfl ?_
  refine e_gs hC hX (k := 39) (by decide) wfX10_292 dX10_takeTurn_1 ?_
  first | refine e_acne_f (tgt := 21) hC dX10_takeTurn_4 (by decide) ?_ | refine e_acne_t (tgt := 21) hC hX (by omega) (by omega) (by omega) dX10_takeTurn_4 (by decide) ?_
  refine n_aload_n hC dX10_takeTurn_21 rfl rfl ?_
  refine n_callV hC (c_pop (d + 2) q a t M σ hM hq hl) (Nat.le_refl _) (by decide) (by first | exact rfl | with_reducible assumption) rfl rfl rfl ⟨wmX10_57, wi_yX9_pop, wv_yX9_pop, wzX9, wc_yX9_pop⟩ hy_yX9_pop rfl (Nat.le_of_ble_eq_true rfl) dX10_takeTurn_22 (fun rv σ' hpo => ?_)
  obtain ⟨rfl, h1⟩ := hpo
  refine n_istore_n hC dX10_takeTurn_25 rfl (Nat.le_of_ble_eq_true rfl) ?_
  refine n_aload_n hC dX10_takeTurn_26 rfl rfl ?_
  refine e_gs hC hX (k := 41) (by decide) wfX10_295 dX10_takeTurn_27 ?_
  first | refine e_aceq_t (tgt := 40) hC dX10_takeTurn_30 (by decide) ?_ | refine e_aceq_f (tgt := 40) hC hX (by omega) (by omega) (by omega) dX10_takeTurn_30 (by decide) ?_
  refine n_aload_n hC dX10_takeTurn_33 rfl rfl ?_
  refine e_gs hC hX (k := 42) (by decide) wfX10_298 dX10_takeTurn_34 ?_
  first | refine e_acne_f (tgt := 63) hC dX10_takeTurn_37 (by decide) ?_ | refine e_acne_t (tgt := 63) hC hX (by omega) (by omega) (by omega) dX10_takeTurn_37 (by decide) ?_
  refine n_aload_n hC dX10_takeTurn_63 rfl rfl ?_
  refine e_gs hC hX (k := 38) (by decide) wfX10_304 dX10_takeTurn_64 ?_
  first | refine e_acne_f (tgt := 82) hC dX10_takeTurn_67 (by decide) ?_ | refine e_acne_t (tgt := 82) hC hX (by omega) (by omega) (by omega) dX10_takeTurn_67 (by decide) ?_
  refine n_aload_n hC dX10_takeTurn_82 rfl rfl ?_
  refine e_gs hC hX (k := 38) (by decide) wfX10_304 dX10_takeTurn_83 ?_
  first | refine e_acne_f (tgt := 101) hC dX10_takeTurn_86 (by decide) ?_ | refine e_acne_t (tgt := 101) hC hX (by omega) (by omega) (by omega) dX10_takeTurn_86 (by decide) ?_
  refine n_iload_n hC dX10_takeTurn_101 rfl rfl ?_
  refine n_iconst (v := 1) hC dX10_takeTurn_102 (by decide) ?_
  refine n_icmp_ge (tgt := 121) hC dX10_takeTurn_103 (by decide) (fun h => ?_) (fun h => ?_)
  · refine n_aload_n hC dX10_takeTurn_121 rfl rfl ?_
    refine g20_desk hC (by first | exact rfl | with_reducible assumption) wfX10_15 dX10_takeTurn_122 ?_
    refine n_aload_n hC dX10_takeTurn_125 rfl rfl ?_
    refine n_iload_n hC dX10_takeTurn_126 rfl rfl ?_
    refine n_callV hC (c_putToSleep d q a _ _ h1 hq (hI1.1 q hq)) (Nat.le_refl _) (by decide) (by first | exact rfl | with_reducible assumption) rfl rfl rfl ⟨wmX10_307, wi_yX2_putToSleep, wv_yX2_putToSleep, wzX2, wc_yX2_putToSleep⟩ hy_yX2_putToSleep rfl (Nat.le_of_ble_eq_true rfl) dX10_takeTurn_127 (fun rv σ' hpo => ?_)
    obtain ⟨rfl, h2⟩ := hpo
    refine n_iconst (v := 1) hC dX10_takeTurn_130 (by decide) ?_
    refine n_iret hC dX10_takeTurn_131 ?_
    rw [if_neg (Int32.not_lt.mpr h)]
    exact ⟨rfl, h2⟩
  · refine n_aload_n hC dX10_takeTurn_106 rfl rfl ?_
    refine g20_desk hC (by first | exact rfl | with_reducible assumption) wfX10_15 dX10_takeTurn_107 ?_
    refine n_aload_n hC dX10_takeTurn_110 rfl rfl ?_
    refine n_aload_n hC dX10_takeTurn_111 rfl rfl ?_
    refine g21_level hC (by first | exact rfl | with_reducible assumption) wfX10_67 dX10_takeTurn_112 ?_
    rw [show σ' 21 q 9 = M.1 2 q from h1.1 2 q hq]
    refine n_callV hC (c_putLast d q (M.1 2 q) _ _ h1 hq (hI1.1 q hq) (hI1.1 q hq) (IR_out_len hI1 hq hlv.1)) (Nat.le_refl _) (by decide) (by first | exact rfl | with_reducible assumption) rfl rfl rfl ⟨wmX10_70, wi_yX2_putLast, wv_yX2_putLast, wzX2, wc_yX2_putLast⟩ hy_yX2_putLast rfl (Nat.le_of_ble_eq_true rfl) dX10_takeTurn_115 (fun rv σ' hpo => ?_)
    obtain ⟨rfl, h2⟩ := hpo
    refine n_goto (tgt := 130) hC dX10_takeTurn_118 (by decide) ?_
    refine n_iconst (v := 1) hC dX10_takeTurn_130 (by decide) ?_
    refine n_iret hC dX10_takeTurn_131 ?_
    rw [if_pos (Int32.not_le.mp h)]
    exact ⟨rfl, h2⟩
theorem c_tdown (hX : ∀ U H, Ex U H → cE ad ae ts U H) (d q : Nat) (a : Int32) (t : List Int32) (M : n_M) (σ : n_S) (hq : n_V q) (hM : RepC M σ) (hI : IR M) (hs : M.1 0 q = 1) (hl : M.2 0 q = t ++ [a]) : n_Ct l (cw D ca ad ae Ex) (d + 3) yX10_takeTurn cX10_takeTurn 4 (some .int) [.ref (ad 20 0), .ref (ad 21 q), .ref (ae 41)] σ (fun rv σ' => (∃ k, k < 8 ∧ a = nI k ∧ ((0 < M.1 9 k ∧ rv = some (.int 0) ∧ RepC (m_s (m_l M 0 q t) 9 k (M.1 9 k - 1)) σ') ∨ (¬ 0 < M.1 9 k ∧ rv = some (.int 1) ∧ RepC (m_jn (m_l M 0 q t) q k) σ'))) ∨ ((¬ ∃ k, k < 8 ∧ a = nI k) ∧ rv = some (.int (-8)) ∧ RepC (m_l M 0 q t) σ')) := by
  have hI1 : IR (m_l M 0 q t) := IR_l hI (by omega)
  refine n_ofW (by decide) (Nat.le_of_ble_eq_true rfl) ?_
  intro p e s m below meth c hC
  have hd : cw_dom 21 q := hq
  refine n_aload_n hC dX10_takeTurn_0 rfl rfl ?_
  refine e_gs hC hX (k := 39) (by decide) wfX10_292 dX10_takeTurn_1 ?_
  first | refine e_acne_f (tgt := 21) hC dX10_takeTurn_4 (by decide) ?_ | refine e_acne_t (tgt := 21) hC hX (by omega) (by omega) (by omega) dX10_takeTurn_4 (by decide) ?_
  refine n_aload_n hC dX10_takeTurn_21 rfl rfl ?_
  refine n_callV hC (c_pop (d + 2) q a t M σ hM hq hl) (Nat.le_refl _) (by decide) (by first | exact rfl | with_reducible assumption) rfl rfl rfl ⟨wmX10_57, wi_yX9_pop, wv_yX9_pop, wzX9, wc_yX9_pop⟩ hy_yX9_pop rfl (Nat.le_of_ble_eq_true rfl) dX10_takeTurn_22 (fun rv σ' hpo => ?_)
  obtain ⟨rfl, h1⟩ := hpo
  refine n_istore_n hC dX10_takeTurn_25 rfl (Nat.le_of_ble_eq_true rfl) ?_
  refine n_aload_n hC dX10_takeTurn_26 rfl rfl ?_
  refine e_gs hC hX (k := 41) (by decide) wfX10_295 dX10_takeTurn_27 ?_
  first | refine e_aceq_t (tgt := 40) hC dX10_takeTurn_30 (by decide) ?_ | refine e_aceq_f (tgt := 40) hC hX (by omega) (by omega) (by omega) dX10_takeTurn_30 (by decide) ?_
  refine n_iload_n hC dX10_takeTurn_40 rfl rfl ?_
  refine n_if_lt (tgt := 50) hC dX10_takeTurn_41 (by decide) (fun h => ?_) (fun h => ?_)
  · refine n_bipush (v := -8) hC dX10_takeTurn_50 (by decide) ?_
    refine n_goto (tgt := 62) hC dX10_takeTurn_52 (by decide) ?_
    refine n_iret hC dX10_takeTurn_62 ?_
    refine Or.inr ⟨fun z => ?_, rfl, h1⟩
    obtain ⟨r, hr, rfl⟩ := z
    exact nI_pos (by omega) h
  · obtain ⟨k, hk31, rfl⟩ := nI_of h
    clear h
    refine n_iload_n hC dX10_takeTurn_44 rfl rfl ?_
    refine n_bipush (v := 8) hC dX10_takeTurn_45 (by decide) ?_
    refine n_icmp_lt (tgt := 55) hC dX10_takeTurn_47 (by decide) (fun h => ?_) (fun h => ?_)
    · have hk : k < 8 := (nI_ltI (b := 8) hk31 (by decide)).mp h
      refine n_aload_n hC dX10_takeTurn_55 rfl rfl ?_
      refine n_aload_n hC dX10_takeTurn_56 rfl rfl ?_
      refine n_aload_n hC dX10_takeTurn_57 rfl rfl ?_
      refine n_iload_n hC dX10_takeTurn_58 rfl rfl ?_
      refine n_callV hC (c_semdown hX d q k _ _ hq hk h1 hI1 hs) (Nat.le_refl _) (by decide) (by first | exact rfl | with_reducible assumption) rfl rfl rfl ⟨wmX10_301, wi_yX10_useSemaphore, wv_yX10_useSemaphore, wzX10, wc_yX10_useSemaphore⟩ hy_yX10_useSemaphore rfl (Nat.le_of_ble_eq_true rfl) dX10_takeTurn_59 (fun rv σ' hpo => ?_)
      rcases hpo with ⟨g1, rfl, h2⟩ | ⟨g1, rfl, h2⟩
      · refine n_iret hC dX10_takeTurn_62 ?_
        exact Or.inl ⟨k, hk, rfl, Or.inl ⟨g1, rfl, h2⟩⟩
      · refine n_iret hC dX10_takeTurn_62 ?_
        exact Or.inl ⟨k, hk, rfl, Or.inr ⟨g1, rfl, h2⟩⟩
    · refine n_bipush (v := -8) hC dX10_takeTurn_50 (by decide) ?_
      refine n_goto (tgt := 62) hC dX10_takeTurn_52 (by decide) ?_
      refine n_iret hC dX10_takeTurn_62 ?_
      refine Or.inr ⟨fun z => ?_, rfl, h1⟩
      obtain ⟨r2, hr2, e⟩ := z
      rw [e] at h
      exact h (nI_lt (b := 8) hr2 (by decide))
theorem c_tup (hX : ∀ U H, Ex U H → cE ad ae ts U H) (d q : Nat) (a : Int32) (t : List Int32) (M : n_M) (σ : n_S) (hq : n_V q) (hM : RepC M σ) (hI : IR M) (hl : M.2 0 q = t ++ [a]) : n_Ct l (cw D ca ad ae Ex) (d + 3) yX10_takeTurn cX10_takeTurn 4 (some .int) [.ref (ad 20 0), .ref (ad 21 q), .ref (ae 42)] σ (fun rv σ' => (∃ k, k < 8 ∧ a = nI k ∧ rv = some (.int 0) ∧ ((∃ r u, n_V r ∧ M.2 5 (k + 3) = nI r :: u ∧ RepC (m_rdy (m_out (m_l M 0 q t) (k + 3) r) r) σ') ∨ (M.2 5 (k + 3) = [] ∧ RepC (if M.1 9 k < 1000000 then m_s (m_l M 0 q t) 9 k (M.1 9 k + 1) else m_l M 0 q t) σ'))) ∨ ((¬ ∃ k, k < 8 ∧ a = nI k) ∧ rv = some (.int (-8)) ∧ RepC (m_l M 0 q t) σ')) := by
  have hI1 : IR (m_l M 0 q t) := IR_l hI (by omega)
  refine n_ofW (by decide) (Nat.le_of_ble_eq_true rfl) ?_
  intro p e s m below meth c hC
  have hd : cw_dom 21 q := hq
  refine n_aload_n hC dX10_takeTurn_0 rfl rfl ?_
  refine e_gs hC hX (k := 39) (by decide) wfX10_292 dX10_takeTurn_1 ?_
  first | refine e_acne_f (tgt := 21) hC dX10_takeTurn_4 (by decide) ?_ | refine e_acne_t (tgt := 21) hC hX (by omega) (by omega) (by omega) dX10_takeTurn_4 (by decide) ?_
  refine n_aload_n hC dX10_takeTurn_21 rfl rfl ?_
  refine n_callV hC (c_pop (d + 2) q a t M σ hM hq hl) (Nat.le_refl _) (by decide) (by first | exact rfl | with_reducible assumption) rfl rfl rfl ⟨wmX10_57, wi_yX9_pop, wv_yX9_pop, wzX9, wc_yX9_pop⟩ hy_yX9_pop rfl (Nat.le_of_ble_eq_true rfl) dX10_takeTurn_22 (fun rv σ' hpo => ?_)
  obtain ⟨rfl, h1⟩ := hpo
  refine n_istore_n hC dX10_takeTurn_25 rfl (Nat.le_of_ble_eq_true rfl) ?_
  refine n_aload_n hC dX10_takeTurn_26 rfl rfl ?_
  refine e_gs hC hX (k := 41) (by decide) wfX10_295 dX10_takeTurn_27 ?_
  first | refine e_aceq_t (tgt := 40) hC dX10_takeTurn_30 (by decide) ?_ | refine e_aceq_f (tgt := 40) hC hX (by omega) (by omega) (by omega) dX10_takeTurn_30 (by decide) ?_
  refine n_aload_n hC dX10_takeTurn_33 rfl rfl ?_
  refine e_gs hC hX (k := 42) (by decide) wfX10_298 dX10_takeTurn_34 ?_
  first | refine e_acne_f (tgt := 63) hC dX10_takeTurn_37 (by decide) ?_ | refine e_acne_t (tgt := 63) hC hX (by omega) (by omega) (by omega) dX10_takeTurn_37 (by decide) ?_
  refine n_iload_n hC dX10_takeTurn_40 rfl rfl ?_
  refine n_if_lt (tgt := 50) hC dX10_takeTurn_41 (by decide) (fun h => ?_) (fun h => ?_)
  · refine n_bipush (v := -8) hC dX10_takeTurn_50 (by decide) ?_
    refine n_goto (tgt := 62) hC dX10_takeTurn_52 (by decide) ?_
    refine n_iret hC dX10_takeTurn_62 ?_
    refine Or.inr ⟨fun z => ?_, rfl, h1⟩
    obtain ⟨r, hr, rfl⟩ := z
    exact nI_pos (by omega) h
  · obtain ⟨k, hk31, rfl⟩ := nI_of h
    clear h
    refine n_iload_n hC dX10_takeTurn_44 rfl rfl ?_
    refine n_bipush (v := 8) hC dX10_takeTurn_45 (by decide) ?_
    refine n_icmp_lt (tgt := 55) hC dX10_takeTurn_47 (by decide) (fun h => ?_) (fun h => ?_)
    · have hk : k < 8 := (nI_ltI (b := 8) hk31 (by decide)).mp h
      refine n_aload_n hC dX10_takeTurn_55 rfl rfl ?_
      refine n_aload_n hC dX10_takeTurn_56 rfl rfl ?_
      refine n_aload_n hC dX10_takeTurn_57 rfl rfl ?_
      refine n_iload_n hC dX10_takeTurn_58 rfl rfl ?_
      refine n_callV hC (c_semup hX d q k _ _ hq hk h1 hI1) (Nat.le_refl _) (by decide) (by first | exact rfl | with_reducible assumption) rfl rfl rfl ⟨wmX10_301, wi_yX10_useSemaphore, wv_yX10_useSemaphore, wzX10, wc_yX10_useSemaphore⟩ hy_yX10_useSemaphore rfl (Nat.le_of_ble_eq_true rfl) dX10_takeTurn_59 (fun rv σ' hpo => ?_)
      obtain ⟨rfl, hpo⟩ := hpo
      rw [ml_n (by omega)] at hpo
      refine n_iret hC dX10_takeTurn_62 ?_
      exact Or.inl ⟨k, hk, rfl, rfl, hpo⟩
    · refine n_bipush (v := -8) hC dX10_takeTurn_50 (by decide) ?_
      refine n_goto (tgt := 62) hC dX10_takeTurn_52 (by decide) ?_
      refine n_iret hC dX10_takeTurn_62 ?_
      refine Or.inr ⟨fun z => ?_, rfl, h1⟩
      obtain ⟨r2, hr2, e⟩ := z
      rw [e] at h
      exact h (nI_lt (b := 8) hr2 (by decide))
end WK6
