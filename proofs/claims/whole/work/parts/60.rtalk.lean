theorem II_adv {M : n_M} {q i n0 : Nat} (h : II M) (hq : n_V q) (h1 : M.1 0 q = 1) (hi : i < 12) (h4 : M.1 4 q = nI (i + 1)) (hn0 : n0 < (M.2 12 i).length) : II (m_s M 5 q (nI (n0 + 1))) := by
  obtain ⟨i', hi', h4', -, hr⟩ := (h.2.2.1 q hq).2.2.2.1 (by rw [h1]; decide)
  have e : i' = i := by
    have := (nI_eq (by omega) (by omega)).mp (h4'.symm.trans h4)
    omega
  rw [e] at hr
  have := II_next h hq (m_al1 h1) hi h4 (x := nI (n0 + 1)) ⟨n0 + 1, by omega, rfl⟩ (l := M.2 1 q) hr
  rw [ml_id rfl] at this
  exact this
theorem II_dn {M : n_M} {q : Nat} (h : II M) (hq : n_V q) (ha : m_al M q) : II (m_dn M q) :=
  II_own h hq ha (fun c i z _ => ms_n (by omega)) (fun c i _ _ _ _ => rfl)
theorem m_kid_n0 {M : n_M} (h : II M) {q r : Nat} {x : Int32} (hq : n_V q) (hk : m_kid M q x r) : M.1 0 r ≠ 0 := by
  obtain ⟨hr, -, h3⟩ := hk
  intro z
  have := ((h.2.2.1 r hr).2.1 z).2.2.2.1
  rw [this] at h3
  exact nI_ne0 (by have := hq.1; omega) (by have := hq.2; omega) h3.symm
section RTK
variable {l : Launch} {D : va_G} {ca : Nat → ClassId} {ad : Nat → Nat → Nat} {Ex : State → Heap → Prop}
theorem x_receive (d q n0 : Nat) (n : Int32) (τ0 : n_S) (M : n_M) (τ : n_S) (hmv : τ0 0 0 52 = 0) (hS : RS τ0 M τ) (hI : II M) (hq : n_V q) (h1 : M.1 0 q = 1) (hn : M.1 5 q = nI n0) : n_Ct l (rw D ca ad Ex) (d + 4) yX12_receive cX12_receive 3 none [.ref (ad 0 0), .int (nI q)] τ (fun rv τ' => rv = none ∧ XA τ0 M q 31 n0 n τ') := by
  obtain ⟨hq1, hq2⟩ := id hq
  have ha := m_al1 h1
  have hM := hS.q
  obtain ⟨e1, hl1, hb⟩ := hM.box hq
  obtain ⟨e2, hl2, hw⟩ := hM.who hq
  have el : (M.2 3 (2 * q)).length = (M.2 2 (2 * q)).length := (nI_eq (by omega) (by omega)).mp (e2.symm.trans e1)
  obtain ⟨es, hl40, -⟩ := hM.stk hq
  refine n_ofW (by decide) (Nat.le_of_ble_eq_true rfl) ?_
  intro p e s m below meth c hC
  refine n_aload_n hC dX12_receive_0 rfl rfl ?_
  refine gm_boxed hC wfX12_167 dX12_receive_1 ?_
  refine n_iload_n hC dX12_receive_4 rfl rfl ?_
  first | refine r_ld hC rfl (fun _ => rfl) (by decide) (by first | omega | with_reducible assumption) dX12_receive_5 ?_ | refine r_needs hC (by first | exact vp_in_nI (by omega) (by decide) | with_reducible assumption) dX12_receive_5 ?_
  rw [e1]
  refine n_if_ne (tgt := 17) hC dX12_receive_6 (by decide) (fun h => ?_) (fun h => ?_)
  · have hne : M.2 2 (2 * q) ≠ [] := fun z => h (by rw [z]; rfl)
    clear h
    cases hx : M.2 2 (2 * q) with
    | nil => exact absurd hx hne
    | cons x bs =>
    cases hy : M.2 3 (2 * q) with
    | nil => rw [hx, hy] at el; simp at el
    | cons y ws =>
    rw [hx] at el hb hl1 e1
    rw [hy] at el hw
    have ebw : ws.length = bs.length := by simpa using el
    have e1 : τ 30 0 q = nI (bs.length + 1) := e1
    have hl1 : bs.length + 1 ≤ 8 := hl1
    have hnw : m_nw M q 31 := ⟨fun _ => hne, fun z => absurd z (by omega), fun z => absurd z (by omega)⟩
    refine n_aload_n hC dX12_receive_17 rfl rfl ?_
    refine n_iload_n hC dX12_receive_18 rfl rfl ?_
    refine n_iconst (v := 2) hC dX12_receive_19 (by decide) ?_
    refine n_callV hC (x_fits d q 2 τ0 M _ hS hI hq ha (by omega)) (Nat.le_refl _) (by decide) (by first | exact rfl | with_reducible assumption) rfl rfl rfl ⟨wmX12_342, wi_yX12_fits, wv_yX12_fits, wzX12, wc_yX12_fits⟩ hy_yX12_fits rfl (Nat.le_of_ble_eq_true rfl) dX12_receive_20 (fun rv σ' hpo => ?_)
    rcases hpo with ⟨hle, rfl, hσ⟩ | ⟨hgt, rfl, g⟩
    · rw [hσ]
      refine n_if_ne (tgt := 27) hC dX12_receive_23 (by decide) (fun h => ?_) (fun h => ?_)
      · clear h
        refine n_aload_n hC dX12_receive_27 rfl rfl ?_
        refine n_iload_n hC dX12_receive_28 rfl rfl ?_
        refine n_aload_n hC dX12_receive_29 rfl rfl ?_
        refine gm_boxNumber hC wfX12_170 dX12_receive_30 ?_
        refine n_bipush (v := 8) hC dX12_receive_33 (by decide) ?_
        refine n_iload_n hC dX12_receive_35 rfl rfl ?_
        refine n_imul hC dX12_receive_36 ?_
        rw [show (8 : Int32) * nI q = nI (8 * q) from nI_mulL 8 q]
        first | refine r_ld hC rfl (fun _ => rfl) (by decide) (by first | omega | with_reducible assumption) dX12_receive_37 ?_ | refine r_needs hC (by first | exact vp_in_nI (by omega) (by decide) | with_reducible assumption) dX12_receive_37 ?_
        rw [show τ 31 0 (8 * q) = x from hb 0 (by simp)]
        refine n_callV hC (x_push (d + 3) q x _ M _ hM hq (by omega)) (Nat.le_refl _) (by decide) (by first | exact rfl | with_reducible assumption) rfl rfl rfl ⟨wmX12_333, wi_yX12_push, wv_yX12_push, wzX12, wc_yX12_push⟩ hy_yX12_push rfl (Nat.le_of_ble_eq_true rfl) dX12_receive_38 (fun rv σ' hpo => ?_)
        obtain ⟨rfl, g1⟩ := hpo
        have hw2 : σ' 32 0 (8 * q) = y := by
          have := (g1.who hq).2.2 0 (show 0 < (M.2 3 (2 * q)).length by rw [hy]; simp)
          rw [show (m_l M 0 q (M.2 0 q ++ [x])).2 3 (2 * q) = y :: ws from hy] at this
          exact this
        refine n_aload_n hC dX12_receive_41 rfl rfl ?_
        refine n_iload_n hC dX12_receive_42 rfl rfl ?_
        refine n_aload_n hC dX12_receive_43 rfl rfl ?_
        refine gm_boxWho hC wfX12_173 dX12_receive_44 ?_
        refine n_bipush (v := 8) hC dX12_receive_47 (by decide) ?_
        refine n_iload_n hC dX12_receive_49 rfl rfl ?_
        refine n_imul hC dX12_receive_50 ?_
        rw [show (8 : Int32) * nI q = nI (8 * q) from nI_mulL 8 q]
        first | refine r_ld hC rfl (fun _ => rfl) (by decide) (by first | omega | with_reducible assumption) dX12_receive_51 ?_ | refine r_needs hC (by first | exact vp_in_nI (by omega) (by decide) | with_reducible assumption) dX12_receive_51 ?_
        rw [hw2]
        refine n_callV hC (x_push (d + 3) q y _ _ _ g1 hq (by rw [ml_e, len1]; omega)) (Nat.le_refl _) (by decide) (by first | exact rfl | with_reducible assumption) rfl rfl rfl ⟨wmX12_333, wi_yX12_push, wv_yX12_push, wzX12, wc_yX12_push⟩ hy_yX12_push rfl (Nat.le_of_ble_eq_true rfl) dX12_receive_52 (fun rv τ2 hpo => ?_)
        obtain ⟨rfl, g2⟩ := hpo
        rw [ml_e, ml_ml] at g2
        have b2 : ∀ j, j ≤ bs.length → τ2 31 0 (8 * q + j) = (x :: bs).getD j 0 := by
          intro j hj
          have := (g2.box hq).2.2 j (show j < (M.2 2 (2 * q)).length by rw [hx]; simp; omega)
          rw [show (m_l M 0 q (M.2 0 q ++ [x] ++ [y])).2 2 (2 * q) = x :: bs from hx] at this
          exact this
        have w2 : ∀ j, j ≤ bs.length → τ2 32 0 (8 * q + j) = (y :: ws).getD j 0 := by
          intro j hj
          have := (g2.who hq).2.2 j (show j < (M.2 3 (2 * q)).length by rw [hy]; simp; omega)
          rw [show (m_l M 0 q (M.2 0 q ++ [x] ++ [y])).2 3 (2 * q) = y :: ws from hy] at this
          exact this
        have n2 : τ2 30 0 q = nI (bs.length + 1) := by
          have := (g2.box hq).1
          rw [show (m_l M 0 q (M.2 0 q ++ [x] ++ [y])).2 2 (2 * q) = x :: bs from hx] at this
          exact this
        have loop : ∀ (t i : Nat) (τ4 : n_S), t + i = bs.length → (∀ κ z, ¬ (κ = 30 ∧ z = q) → ¬ (κ = 31 ∧ 8 * q ≤ z ∧ z < 8 * q + 8) → ¬ (κ = 32 ∧ 8 * q ≤ z ∧ z < 8 * q + 8) → τ4 κ 0 z = τ2 κ 0 z) → τ4 30 0 q = nI bs.length → (∀ j, j ≤ bs.length → τ4 31 0 (8 * q + j) = if j < i then bs.getD j 0 else (x :: bs).getD j 0) → (∀ j, j ≤ bs.length → τ4 32 0 (8 * q + j) = if j < i then ws.getD j 0 else (y :: ws).getD j 0) →
            n_W p l e s m [Value.ref (ad 0 0), Value.int (nI q)].toArray below meth c (rw D ca ad Ex) (d + 4) (fun rv τ' => rv = none ∧ XA τ0 M q 31 n0 n τ') 67 [some (.ref (ad 0 0)), some (.int (nI q)), some (.int (nI i))] [] τ4 := by
          intro t
          induction t with
          | zero =>
            intro i τ4 ht hf h30 h31 h32
            have hi : i = bs.length := by omega
            subst hi
            refine n_iload_n hC dX12_receive_67 rfl rfl ?_
            refine n_aload_n hC dX12_receive_68 rfl rfl ?_
            refine gm_boxed hC wfX12_167 dX12_receive_69 ?_
            refine n_iload_n hC dX12_receive_72 rfl rfl ?_
            first | refine r_ld hC rfl (fun _ => rfl) (by decide) (by first | omega | with_reducible assumption) dX12_receive_73 ?_ | refine r_needs hC (by first | exact vp_in_nI (by omega) (by decide) | with_reducible assumption) dX12_receive_73 ?_
            rw [h30]
            refine n_icmp_ge (tgt := 131) hC dX12_receive_74 (by decide) (fun h => ?_) (fun h => ?_)
            · clear h
              have g3 : RQ τ (m_l (m_l (m_l M 0 q (M.2 0 q ++ [x] ++ [y])) 2 (2 * q) bs) 3 (2 * q) ws) τ4 := by
                refine rql_2 g2 hq hf h30 (by omega) ebw (fun j hj => ?_) (fun j hj => ?_)
                · rw [h31 j (by omega), if_pos hj]
                · rw [h32 j (by omega), if_pos (by omega)]
              refine n_aload_n hC dX12_receive_131 rfl rfl ?_
              refine n_iload_n hC dX12_receive_132 rfl rfl ?_
              refine n_callV hC (x_done (d + 3) q n0 _ _ _ g3 hq hn) (Nat.le_refl _) (by decide) (by first | exact rfl | with_reducible assumption) rfl rfl rfl ⟨wmX12_336, wi_yX12_done, wv_yX12_done, wzX12, wc_yX12_done⟩ hy_yX12_done rfl (Nat.le_of_ble_eq_true rfl) dX12_receive_133 (fun rv σ' hpo => ?_)
              obtain ⟨rfl, g⟩ := hpo
              refine n_vret hC dX12_receive_136 ?_
              exact ⟨rfl, XA.done (M1 := m_l (m_l (m_l (m_s M 5 q (nI (n0 + 1))) 0 q (M.2 0 q ++ [x] ++ [y])) 2 (2 * q) bs) 3 (2 * q) ws) hmv (hS.of g (fun i _ => rfl)) h1 hnw hle (Or.inr (Or.inr (Or.inr (Or.inr (Or.inr (Or.inr (Or.inr (Or.inr (Or.inr (Or.inr (Or.inr (Or.inr (Or.inr (Or.inl (⟨rfl, rfl, x, y, bs, ws, hx, hy, rfl⟩)))))))))))))))⟩
            · exact absurd (Int32.le_refl _) h
          | succ t ih =>
            intro i τ4 ht hf h30 h31 h32
            refine n_iload_n hC dX12_receive_67 rfl rfl ?_
            refine n_aload_n hC dX12_receive_68 rfl rfl ?_
            refine gm_boxed hC wfX12_167 dX12_receive_69 ?_
            refine n_iload_n hC dX12_receive_72 rfl rfl ?_
            first | refine r_ld hC rfl (fun _ => rfl) (by decide) (by first | omega | with_reducible assumption) dX12_receive_73 ?_ | refine r_needs hC (by first | exact vp_in_nI (by omega) (by decide) | with_reducible assumption) dX12_receive_73 ?_
            rw [h30]
            refine n_icmp_ge (tgt := 131) hC dX12_receive_74 (by decide) (fun h => ?_) (fun h => ?_)
            · exact absurd h (nI_ge (by omega) (by omega))
            · clear h
              refine n_aload_n hC dX12_receive_77 rfl rfl ?_
              refine gm_boxNumber hC wfX12_170 dX12_receive_78 ?_
              refine n_bipush (v := 8) hC dX12_receive_81 (by decide) ?_
              refine n_iload_n hC dX12_receive_83 rfl rfl ?_
              refine n_imul hC dX12_receive_84 ?_
              refine n_iload_n hC dX12_receive_85 rfl rfl ?_
              refine n_iadd hC dX12_receive_86 ?_
              rw [show (8 : Int32) * nI q + nI i = nI (8 * q + i) from by rw [← nI_add, ← nI_mulL]; rfl]
              refine n_aload_n hC dX12_receive_87 rfl rfl ?_
              refine gm_boxNumber hC wfX12_170 dX12_receive_88 ?_
              refine n_bipush (v := 8) hC dX12_receive_91 (by decide) ?_
              refine n_iload_n hC dX12_receive_93 rfl rfl ?_
              refine n_imul hC dX12_receive_94 ?_
              refine n_iload_n hC dX12_receive_95 rfl rfl ?_
              refine n_iadd hC dX12_receive_96 ?_
              refine n_iconst (v := 1) hC dX12_receive_97 (by decide) ?_
              refine n_iadd hC dX12_receive_98 ?_
              rw [show (8 : Int32) * nI q + nI i + 1 = nI (8 * q + (i + 1)) from by rw [← nI_add, ← nI_add, ← nI_mulL, Int32.add_assoc]; rfl]
              first | refine r_ld hC rfl (fun _ => rfl) (by decide) (by first | omega | with_reducible assumption) dX12_receive_99 ?_ | refine r_needs hC (by first | exact vp_in_nI (by omega) (by decide) | with_reducible assumption) dX12_receive_99 ?_
              refine r_st hC rfl (fun _ h => h) (fun _ => rfl) (by decide) (by first | omega | with_reducible assumption) dX12_receive_100 ?_
              refine n_aload_n hC dX12_receive_101 rfl rfl ?_
              refine gm_boxWho hC wfX12_173 dX12_receive_102 ?_
              refine n_bipush (v := 8) hC dX12_receive_105 (by decide) ?_
              refine n_iload_n hC dX12_receive_107 rfl rfl ?_
              refine n_imul hC dX12_receive_108 ?_
              refine n_iload_n hC dX12_receive_109 rfl rfl ?_
              refine n_iadd hC dX12_receive_110 ?_
              rw [show (8 : Int32) * nI q + nI i = nI (8 * q + i) from by rw [← nI_add, ← nI_mulL]; rfl]
              refine n_aload_n hC dX12_receive_111 rfl rfl ?_
              refine gm_boxWho hC wfX12_173 dX12_receive_112 ?_
              refine n_bipush (v := 8) hC dX12_receive_115 (by decide) ?_
              refine n_iload_n hC dX12_receive_117 rfl rfl ?_
              refine n_imul hC dX12_receive_118 ?_
              refine n_iload_n hC dX12_receive_119 rfl rfl ?_
              refine n_iadd hC dX12_receive_120 ?_
              refine n_iconst (v := 1) hC dX12_receive_121 (by decide) ?_
              refine n_iadd hC dX12_receive_122 ?_
              rw [show (8 : Int32) * nI q + nI i + 1 = nI (8 * q + (i + 1)) from by rw [← nI_add, ← nI_add, ← nI_mulL, Int32.add_assoc]; rfl]
              first | refine r_ld hC rfl (fun _ => rfl) (by decide) (by first | omega | with_reducible assumption) dX12_receive_123 ?_ | refine r_needs hC (by first | exact vp_in_nI (by omega) (by decide) | with_reducible assumption) dX12_receive_123 ?_
              refine r_st hC rfl (fun _ h => h) (fun _ => rfl) (by decide) (by first | omega | with_reducible assumption) dX12_receive_124 ?_
              refine n_iinc hC dX12_receive_125 rfl (show _ + Int32.ofInt 1 = _ + 1 from rfl) ?_
              refine n_goto (tgt := 67) hC dX12_receive_128 (by decide) ?_
              rw [nI_1, n_up_o (show ¬ (32 = 31 ∧ _) by omega), h31 (i + 1) (by omega), h32 (i + 1) (by omega), if_neg (by omega), if_neg (by omega), List.getD_cons_succ, List.getD_cons_succ]
              refine ih (i + 1) _ (by omega) (fun κ z a b c => ?_) ?_ (fun j hj => ?_) (fun j hj => ?_)
              · rw [n_up_o (by omega), n_up_o (by omega)]
                exact hf κ z a b c
              · rw [n_up_o (by omega), n_up_o (by omega)]
                exact h30
              · rw [n_up_o (by omega)]
                by_cases z : j = i
                · rw [z, n_up_e, if_pos (by omega)]
                · rw [n_up_o (by omega), h31 j hj]
                  by_cases z2 : j < i
                  · rw [if_pos z2, if_pos (by omega)]
                  · rw [if_neg z2, if_neg (by omega)]
              · by_cases z : j = i
                · rw [z, n_up_e, if_pos (by omega)]
                · rw [n_up_o (by omega), n_up_o (by omega), h32 j hj]
                  by_cases z2 : j < i
                  · rw [if_pos z2, if_pos (by omega)]
                  · rw [if_neg z2, if_neg (by omega)]
        refine n_aload_n hC dX12_receive_55 rfl rfl ?_
        refine gm_boxed hC wfX12_167 dX12_receive_56 ?_
        refine n_iload_n hC dX12_receive_59 rfl rfl ?_
        refine n_dup2_11 hC dX12_receive_60 rfl rfl ?_
        first | refine r_ld hC rfl (fun _ => rfl) (by decide) (by first | omega | with_reducible assumption) dX12_receive_61 ?_ | refine r_needs hC (by first | exact vp_in_nI (by omega) (by decide) | with_reducible assumption) dX12_receive_61 ?_
        rw [n2]
        refine n_iconst (v := 1) hC dX12_receive_62 (by decide) ?_
        refine n_isub hC dX12_receive_63 ?_
        rw [show nI (bs.length + 1) - 1 = nI bs.length from nI_m1 (by omega)]
        refine r_st hC rfl (fun _ h => h) (fun _ => rfl) (by decide) (by first | omega | with_reducible assumption) dX12_receive_64 ?_
        refine n_iconst (v := 0) hC dX12_receive_65 (by decide) ?_
        refine n_istore_n hC dX12_receive_66 rfl (Nat.le_of_ble_eq_true rfl) ?_
        refine loop bs.length 0 _ (by omega) (fun κ z a b c => n_up_o a) (n_up_e _ _ _ _) (fun j hj => ?_) (fun j hj => ?_)
        · rw [n_up_o (by omega), if_neg (by omega), b2 j hj]
        · rw [n_up_o (by omega), if_neg (by omega), w2 j hj]
      · exact absurd h (by decide)
    · refine n_if_ne (tgt := 27) hC dX12_receive_23 (by decide) (fun h => ?_) (fun h => ?_)
      · exact absurd rfl h
      · refine n_vret hC dX12_receive_26 ?_
        exact ⟨rfl, XA.full hI hq ha g hnw hgt⟩
  · have hnil : M.2 2 (2 * q) = [] := by
      have := (nI_eq (a := (M.2 2 (2 * q)).length) (b := 0) (by omega) (by omega)).mp h
      exact List.eq_nil_of_length_eq_zero this
    refine n_aload_n hC dX12_receive_9 rfl rfl ?_
    refine n_iload_n hC dX12_receive_10 rfl rfl ?_
    refine n_iconst (v := 2) hC dX12_receive_11 (by decide) ?_
    refine n_iconst (v := 0) hC dX12_receive_12 (by decide) ?_
    refine n_callV hC (x_waitFor (d + 2) q 2 0 _ M _ hM hq (hI.1.1 q hq)) (Nat.le_refl _) (by decide) (by first | exact rfl | with_reducible assumption) rfl rfl rfl ⟨wmX12_367, wi_yX12_waitFor, wv_yX12_waitFor, wzX12, wc_yX12_waitFor⟩ hy_yX12_waitFor rfl (Nat.le_of_ble_eq_true rfl) dX12_receive_13 (fun rv σ' hpo => ?_)
    obtain ⟨rfl, g⟩ := hpo
    refine n_vret hC dX12_receive_16 ?_
    exact ⟨rfl, XA.wait (hS.of g (fun i _ => m_susp_sn (by omega))) (Or.inl ⟨rfl, hnil, rfl⟩)⟩
theorem x_spawn (d q n0 i : Nat) (n : Int32) (τ0 : n_S) (M : n_M) (τ : n_S) (hmv : τ0 0 0 52 = 0) (hS : RS τ0 M τ) (hI : II M) (hq : n_V q) (h1 : M.1 0 q = 1) (hn : M.1 5 q = nI n0) (hi : i < 12) (h4 : M.1 4 q = nI (i + 1)) (hu : 0 < M.1 12 i) : n_Ct l (rw D ca ad Ex) (d + 4) yX12_spawn cX12_spawn 4 none [.ref (ad 0 0), .int (nI q), .int n] τ (fun rv τ' => rv = none ∧ XA τ0 M q 34 n0 n τ') := by
  obtain ⟨hq1, hq2⟩ := id hq
  have ha := m_al1 h1
  have hM := hS.q
  obtain ⟨es, hl40, -⟩ := hM.stk hq
  have hlv := hI.1.lv hq
  have hnw : m_nw M q 34 := m_nw_t (by omega)
  refine n_ofW (by decide) (Nat.le_of_ble_eq_true rfl) ?_
  intro p e s m below meth c hC
  refine n_aload_n hC dX12_spawn_0 rfl rfl ?_
  refine n_iload_n hC dX12_spawn_1 rfl rfl ?_
  refine n_iconst (v := 1) hC dX12_spawn_2 (by decide) ?_
  refine n_callV hC (x_fits d q 1 τ0 M _ hS hI hq ha (by omega)) (Nat.le_refl _) (by decide) (by first | exact rfl | with_reducible assumption) rfl rfl rfl ⟨wmX12_342, wi_yX12_fits, wv_yX12_fits, wzX12, wc_yX12_fits⟩ hy_yX12_fits rfl (Nat.le_of_ble_eq_true rfl) dX12_spawn_3 (fun rv σ' hpo => ?_)
  rcases hpo with ⟨hle, rfl, hσ⟩ | ⟨hgt, rfl, g⟩
  · rw [hσ]
    refine n_if_ne (tgt := 10) hC dX12_spawn_6 (by decide) (fun h => ?_) (fun h => ?_)
    · clear h
      refine n_aload_n hC dX12_spawn_10 rfl rfl ?_
      refine n_aload_n hC dX12_spawn_11 rfl rfl ?_
      refine gm_program hC wfX12_149 dX12_spawn_12 ?_
      refine n_iload_n hC dX12_spawn_15 rfl rfl ?_
      first | refine r_ld hC rfl (fun _ => rfl) (by decide) (by first | omega | with_reducible assumption) dX12_spawn_16 ?_ | refine r_needs hC (by first | exact vp_in_nI (by omega) (by decide) | with_reducible assumption) dX12_spawn_16 ?_
      rw [hM.1.2.1 q i hq hi h4]
      refine n_aload_n hC dX12_spawn_17 rfl rfl ?_
      refine gm_level hC wfX12_143 dX12_spawn_18 ?_
      refine n_iload_n hC dX12_spawn_21 rfl rfl ?_
      first | refine r_ld hC rfl (fun _ => rfl) (by decide) (by first | omega | with_reducible assumption) dX12_spawn_22 ?_ | refine r_needs hC (by first | exact vp_in_nI (by omega) (by decide) | with_reducible assumption) dX12_spawn_22 ?_
      rw [hM.level hq]
      refine n_iload_n hC dX12_spawn_23 rfl rfl ?_
      refine n_iload_n hC dX12_spawn_24 rfl rfl ?_
      refine n_callV hC (x_start (d + 1) i (M.1 2 q) n (nI q) _ M _ hM hI hi (hM.1.2.2.1 i hi hu) ⟨_, hlv.1, hlv.2⟩) (Nat.le_refl _) (by decide) (by first | exact rfl | with_reducible assumption) rfl rfl rfl ⟨wmX12_373, wi_yX12_start, wv_yX12_start, wzX12, wc_yX12_start⟩ hy_yX12_start rfl (Nat.le_of_ble_eq_true rfl) dX12_spawn_25 (fun rv σ' hpo => ?_)
      rcases hpo with ⟨r, hr, rfl, g⟩ | ⟨hno, rfl, hσ⟩
      · have hne : q ≠ r := fun z => by
          have := hr.2.1
          rw [← z, h1] at this
          exact absurd this (by decide)
        have g : RQ τ (m_spn M q r i n) σ' := g
        have hr2 := hr.1.2
        have hr1 := hr.1.1
        refine n_istore_n hC dX12_spawn_28 rfl (Nat.le_of_ble_eq_true rfl) ?_
        refine n_aload_n hC dX12_spawn_29 rfl rfl ?_
        refine n_iload_n hC dX12_spawn_30 rfl rfl ?_
        refine n_iload_n hC dX12_spawn_31 rfl rfl ?_
        refine n_if_ne (tgt := 39) hC dX12_spawn_32 (by decide) (fun h => ?_) (fun h => ?_)
        · clear h
          refine n_iload_n hC dX12_spawn_39 rfl rfl ?_
          refine n_callV hC (x_push (d + 3) q (nI r) _ _ _ g hq (show (M.2 0 q).length < 40 by omega)) (Nat.le_refl _) (by decide) (by first | exact rfl | with_reducible assumption) rfl rfl rfl ⟨wmX12_333, wi_yX12_push, wv_yX12_push, wzX12, wc_yX12_push⟩ hy_yX12_push rfl (Nat.le_of_ble_eq_true rfl) dX12_spawn_40 (fun rv σ' hpo => ?_)
          obtain ⟨rfl, g⟩ := hpo
          refine n_aload_n hC dX12_spawn_43 rfl rfl ?_
          refine n_iload_n hC dX12_spawn_44 rfl rfl ?_
          have hn5 : (m_l (m_spn M q r i n) 0 q ((m_spn M q r i n).2 0 q ++ [nI r])).1 5 q = nI n0 := by
            rw [m_l_s]
            unfold m_spn
            rw [ms_n (by omega), ms_n (by omega), m_adm_s (by omega) (by omega)]
            exact hn
          refine n_callV hC (x_done (d + 3) q n0 _ _ _ g hq hn5) (Nat.le_refl _) (by decide) (by first | exact rfl | with_reducible assumption) rfl rfl rfl ⟨wmX12_336, wi_yX12_done, wv_yX12_done, wzX12, wc_yX12_done⟩ hy_yX12_done rfl (Nat.le_of_ble_eq_true rfl) dX12_spawn_45 (fun rv σ' hpo => ?_)
          obtain ⟨rfl, g⟩ := hpo
          refine n_vret hC dX12_spawn_48 ?_
          have e : m_l (m_spn (m_s M 5 q (nI (n0 + 1))) q r i n) 0 q (M.2 0 q ++ [nI r]) = m_s (m_l (m_spn M q r i n) 0 q ((m_spn M q r i n).2 0 q ++ [nI r])) 5 q (nI (n0 + 1)) := by
            rw [m_spn_s5 hne]
            rfl
          rw [← e] at g
          have s12 : ∀ j, (m_dn (m_l (m_spn (m_s M 5 q (nI (n0 + 1))) q r i n) 0 q (M.2 0 q ++ [nI r])) q).1 12 j = if j = i then M.1 12 i + 1 else M.1 12 j := by
            intro j
            unfold m_dn
            rw [ms_n (by omega), m_l_s]
            unfold m_spn
            rw [ms_n (by omega), ms_n (by omega)]
            by_cases z : j = i
            · rw [if_pos z, z, (m_adm_4 _ _ _ _).2.1, ms_n (by omega)]
            · rw [if_neg z, m_adm_s (by omega) (by omega), ms_n (by omega)]
          have s0 : (m_l (m_spn (m_s M 5 q (nI (n0 + 1))) q r i n) 0 q (M.2 0 q ++ [nI r])).1 0 q = 1 := by
            rw [m_l_s]
            unfold m_spn
            rw [ms_n (by omega), ms_n (by omega), m_adm_s (by omega) (by omega), ms_n (by omega)]
            exact h1
          obtain ⟨gQ, gf1, gf2, gf3⟩ := g
          have hF : RF (m_dn (m_l (m_spn (m_s M 5 q (nI (n0 + 1))) q r i n) 0 q (M.2 0 q ++ [nI r])) q) σ' := by
            refine ⟨fun j hj => ?_, (gf1 12).trans hS.2.1.2⟩
            rw [gf1 j, hS.2.1.1 j hj, s12 j]
            by_cases z : j = i
            · have hc := hI.2.2.2.2.1 i hi
              have hcl := m_cnt_le M i 12
              rw [z, if_pos rfl, if_pos hu, if_pos]
              rw [hc, nI_1]
              exact (nI_ltI (a := 0) (by omega) (by omega)).mpr (by omega)
            · rw [if_neg z]
          exact ⟨rfl, XA.done hmv ⟨gQ, hF, gf2.trans hS.2.2.1, gf3.trans hS.2.2.2⟩ s0 hnw hle (Or.inr (Or.inr (Or.inr (Or.inr (Or.inr (Or.inr (Or.inr (Or.inr (Or.inr (Or.inr (Or.inr (Or.inr (Or.inr (Or.inr (Or.inr (Or.inr (Or.inl (⟨rfl, rfl, Or.inl ⟨r, i, hi, h4, hr, rfl⟩⟩))))))))))))))))))⟩
        · exact absurd h (nI_ne0 (by omega) (by omega))
      · rw [hσ]
        refine n_istore_n hC dX12_spawn_28 rfl (Nat.le_of_ble_eq_true rfl) ?_
        refine n_aload_n hC dX12_spawn_29 rfl rfl ?_
        refine n_iload_n hC dX12_spawn_30 rfl rfl ?_
        refine n_iload_n hC dX12_spawn_31 rfl rfl ?_
        refine n_if_ne (tgt := 39) hC dX12_spawn_32 (by decide) (fun h => ?_) (fun h => ?_)
        · exact absurd rfl h
        · clear h
          refine n_iconst (v := -1) hC dX12_spawn_35 (by decide) ?_
          refine n_goto (tgt := 40) hC dX12_spawn_36 (by decide) ?_
          refine n_callV hC (x_push (d + 3) q (-1) _ M _ hM hq (by omega)) (Nat.le_refl _) (by decide) (by first | exact rfl | with_reducible assumption) rfl rfl rfl ⟨wmX12_333, wi_yX12_push, wv_yX12_push, wzX12, wc_yX12_push⟩ hy_yX12_push rfl (Nat.le_of_ble_eq_true rfl) dX12_spawn_40 (fun rv σ' hpo => ?_)
          obtain ⟨rfl, g⟩ := hpo
          refine n_aload_n hC dX12_spawn_43 rfl rfl ?_
          refine n_iload_n hC dX12_spawn_44 rfl rfl ?_
          refine n_callV hC (x_done (d + 3) q n0 _ _ _ g hq hn) (Nat.le_refl _) (by decide) (by first | exact rfl | with_reducible assumption) rfl rfl rfl ⟨wmX12_336, wi_yX12_done, wv_yX12_done, wzX12, wc_yX12_done⟩ hy_yX12_done rfl (Nat.le_of_ble_eq_true rfl) dX12_spawn_45 (fun rv σ' hpo => ?_)
          obtain ⟨rfl, g⟩ := hpo
          refine n_vret hC dX12_spawn_48 ?_
          exact ⟨rfl, XA.stk hmv hS h1 g hnw hle (Or.inr (Or.inr (Or.inr (Or.inr (Or.inr (Or.inr (Or.inr (Or.inr (Or.inr (Or.inr (Or.inr (Or.inr (Or.inr (Or.inr (Or.inr (Or.inr (Or.inl (⟨rfl, rfl, Or.inr ⟨hno, rfl⟩⟩))))))))))))))))))⟩
    · exact absurd h (by decide)
  · refine n_if_ne (tgt := 10) hC dX12_spawn_6 (by decide) (fun h => ?_) (fun h => ?_)
    · exact absurd rfl h
    · refine n_vret hC dX12_spawn_9 ?_
      exact ⟨rfl, XA.full hI hq ha g hnw hgt⟩
theorem x_await (d q n0 i : Nat) (n : Int32) (τ0 : n_S) (M : n_M) (τ : n_S) (hmv : τ0 0 0 52 = 0) (hS : RS τ0 M τ) (hI : II M) (hq : n_V q) (h1 : M.1 0 q = 1) (hn : M.1 5 q = nI n0) (hi : i < 12) (h4 : M.1 4 q = nI (i + 1)) (hn0 : n0 < (M.2 12 i).length) (hne : 1 ≤ (M.2 0 q).length) : n_Ct l (rw D ca ad Ex) (d + 4) yX12_await cX12_await 4 none [.ref (ad 0 0), .int (nI q)] τ (fun rv τ' => rv = none ∧ XA τ0 M q 35 n0 n τ') := by
  obtain ⟨hq1, hq2⟩ := id hq
  have ha := m_al1 h1
  have hM := hS.q
  obtain ⟨es, hl40, -⟩ := hM.stk hq
  obtain ⟨t, x, hst⟩ := m_last1 hne
  have hlen : (M.2 0 q).length = t.length + 1 := by rw [hst, len1]
  refine n_ofW (by decide) (Nat.le_of_ble_eq_true rfl) ?_
  intro p e s m below meth c hC
  refine n_aload_n hC dX12_await_0 rfl rfl ?_
  refine n_iload_n hC dX12_await_1 rfl rfl ?_
  refine n_iconst (v := 0) hC dX12_await_2 (by decide) ?_
  refine n_callV hC (x_t0 (d + 3) q _ M _ hM hq hst) (Nat.le_refl _) (by decide) (by first | exact rfl | with_reducible assumption) rfl rfl rfl ⟨wmX12_339, wi_yX12_top, wv_yX12_top, wzX12, wc_yX12_top⟩ hy_yX12_top rfl (Nat.le_of_ble_eq_true rfl) dX12_await_3 (fun rv σ' hpo => ?_)
  obtain ⟨rfl, hσ⟩ := hpo
  rw [hσ]
  refine n_istore_n hC dX12_await_6 rfl (Nat.le_of_ble_eq_true rfl) ?_
  refine n_aload_n hC dX12_await_7 rfl rfl ?_
  refine n_iload_n hC dX12_await_8 rfl rfl ?_
  refine n_iload_n hC dX12_await_9 rfl rfl ?_
  refine n_callV hC (x_isChild (d + 2) q x _ M _ hM hI hq) (Nat.le_refl _) (by decide) (by first | exact rfl | with_reducible assumption) rfl rfl rfl ⟨wmX12_370, wi_yX12_isChild, wv_yX12_isChild, wzX12, wc_yX12_isChild⟩ hy_yX12_isChild rfl (Nat.le_of_ble_eq_true rfl) dX12_await_10 (fun rv σ' hpo => ?_)
  obtain ⟨hpo, hσ⟩ := hpo
  rw [hσ]
  rcases hpo with ⟨r, hkid, rfl⟩ | ⟨hno, rfl⟩
  · have hn0r := m_kid_n0 hI hq hkid
    obtain ⟨hr, rfl, h3r⟩ := id hkid
    obtain ⟨hr1, hr2⟩ := id hr
    have hqr : q ≠ r := fun z => hI.pn hq (by rw [← z] at h3r; exact h3r)
    refine n_istore_n hC dX12_await_13 rfl (Nat.le_of_ble_eq_true rfl) ?_
    refine n_iload_n hC dX12_await_14 rfl rfl ?_
    refine n_if_eq (tgt := 37) hC dX12_await_15 (by decide) (fun h => ?_) (fun h => ?_)
    · exact absurd h (by decide)
    · clear h
      refine n_aload_n hC dX12_await_18 rfl rfl ?_
      refine gm_status hC wfX12_137 dX12_await_19 ?_
      refine n_iload_n hC dX12_await_22 rfl rfl ?_
      first | refine r_ld hC rfl (fun _ => rfl) (by decide) (by first | omega | with_reducible assumption) dX12_await_23 ?_ | refine r_needs hC (by first | exact vp_in_nI (by omega) (by decide) | with_reducible assumption) dX12_await_23 ?_
      rw [hM.status hr]
      refine n_bipush (v := 7) hC dX12_await_24 (by decide) ?_
      refine n_icmp_eq (tgt := 37) hC dX12_await_26 (by decide) (fun h => ?_) (fun h => ?_)
      · have h7 : M.1 0 r = 7 := h
        clear h
        have hnal : ¬ ∃ r', m_kid M q (nI r) r' ∧ m_al M r' := by
          rintro ⟨r', ⟨a1, a2, -⟩, a3⟩
          rw [← nV_inj hr a1 a2] at a3
          exact (m_al_st a3).2 h7
        have hnw : m_nw M q 35 := ⟨fun z => absurd z (by omega), fun z => absurd z (by omega), fun _ => ⟨t, nI r, hst, hnal⟩⟩
        refine n_aload_n hC dX12_await_37 rfl rfl ?_
        refine n_iload_n hC dX12_await_38 rfl rfl ?_
        refine n_iconst (v := 1) hC dX12_await_39 (by decide) ?_
        refine n_callV hC (x_fits d q 1 τ0 M _ hS hI hq ha (by omega)) (Nat.le_refl _) (by decide) (by first | exact rfl | with_reducible assumption) rfl rfl rfl ⟨wmX12_342, wi_yX12_fits, wv_yX12_fits, wzX12, wc_yX12_fits⟩ hy_yX12_fits rfl (Nat.le_of_ble_eq_true rfl) dX12_await_40 (fun rv σ' hpo => ?_)
        rcases hpo with ⟨hle, rfl, hσ⟩ | ⟨hgt, rfl, g⟩
        · rw [hσ]
          refine n_if_ne (tgt := 47) hC dX12_await_43 (by decide) (fun h => ?_) (fun h => ?_)
          · clear h
            refine n_aload_n hC dX12_await_47 rfl rfl ?_
            refine n_iload_n hC dX12_await_48 rfl rfl ?_
            refine n_iconst (v := 0) hC dX12_await_49 (by decide) ?_
            refine n_iload_n hC dX12_await_50 rfl rfl ?_
            refine n_if_eq (tgt := 63) hC dX12_await_51 (by decide) (fun h => ?_) (fun h => ?_)
            · exact absurd h (by decide)
            · clear h
              refine n_aload_n hC dX12_await_54 rfl rfl ?_
              refine gm_codes hC wfX12_140 dX12_await_55 ?_
              refine n_iload_n hC dX12_await_58 rfl rfl ?_
              first | refine r_ld hC rfl (fun _ => rfl) (by decide) (by first | omega | with_reducible assumption) dX12_await_59 ?_ | refine r_needs hC (by first | exact vp_in_nI (by omega) (by decide) | with_reducible assumption) dX12_await_59 ?_
              rw [hM.codes hr]
              refine n_goto (tgt := 64) hC dX12_await_60 (by decide) ?_
              refine n_callV hC (x_s0 (d + 3) q (M.1 1 r) _ M _ hM hq hst) (Nat.le_refl _) (by decide) (by first | exact rfl | with_reducible assumption) rfl rfl rfl ⟨wmX12_348, wi_yX12_setTop, wv_yX12_setTop, wzX12, wc_yX12_setTop⟩ hy_yX12_setTop rfl (Nat.le_of_ble_eq_true rfl) dX12_await_64 (fun rv σ' hpo => ?_)
              obtain ⟨rfl, g⟩ := hpo
              refine n_aload_n hC dX12_await_67 rfl rfl ?_
              refine n_iload_n hC dX12_await_68 rfl rfl ?_
              refine n_iload_n hC dX12_await_69 rfl rfl ?_
              refine n_if_eq (tgt := 77) hC dX12_await_70 (by decide) (fun h => ?_) (fun h => ?_)
              · exact absurd h (by decide)
              · clear h
                refine n_iconst (v := 1) hC dX12_await_73 (by decide) ?_
                refine n_goto (tgt := 78) hC dX12_await_74 (by decide) ?_
                refine n_callV hC (x_push (d + 3) q 1 _ _ _ g hq (by rw [ml_e, len1]; omega)) (Nat.le_refl _) (by decide) (by first | exact rfl | with_reducible assumption) rfl rfl rfl ⟨wmX12_333, wi_yX12_push, wv_yX12_push, wzX12, wc_yX12_push⟩ hy_yX12_push rfl (Nat.le_of_ble_eq_true rfl) dX12_await_78 (fun rv σ' hpo => ?_)
                obtain ⟨rfl, g⟩ := hpo
                rw [ml_e, ml_ml] at g
                refine n_aload_n hC dX12_await_81 rfl rfl ?_
                refine n_iload_n hC dX12_await_82 rfl rfl ?_
                refine n_callV hC (x_done (d + 3) q n0 _ _ _ g hq hn) (Nat.le_refl _) (by decide) (by first | exact rfl | with_reducible assumption) rfl rfl rfl ⟨wmX12_336, wi_yX12_done, wv_yX12_done, wzX12, wc_yX12_done⟩ hy_yX12_done rfl (Nat.le_of_ble_eq_true rfl) dX12_await_83 (fun rv σ' hpo => ?_)
                obtain ⟨rfl, g⟩ := hpo
                have g : RQ τ (m_dn (m_l (m_s M 5 q (nI (n0 + 1))) 0 q (t ++ [M.1 1 r] ++ [1])) q) _ := g
                have iS : II (m_l (m_s M 5 q (nI (n0 + 1))) 0 q (t ++ [M.1 1 r] ++ [1])) := II_stk (II_adv hI hq h1 hi h4 hn0) hq ha _
                have iD := II_dn iS hq ha
                have iW := IW_van iD.w hr h7
                refine n_iload_n hC dX12_await_86 rfl rfl ?_
                refine n_if_eq (tgt := 99) hC dX12_await_87 (by decide) (fun h => ?_) (fun h => ?_)
                · exact absurd h (by decide)
                · clear h
                  refine n_aload_n hC dX12_await_90 rfl rfl ?_
                  refine n_iload_n hC dX12_await_91 rfl rfl ?_
                  refine n_callV hC (x_release (d + 3) r _ _ _ g hr iD.w h7) (Nat.le_refl _) (by decide) (by first | exact rfl | with_reducible assumption) rfl rfl rfl ⟨wmX12_321, wi_yX12_release, wv_yX12_release, wzX12, wc_yX12_release⟩ hy_yX12_release rfl (Nat.le_of_ble_eq_true rfl) dX12_await_92 (fun rv σ' hpo => ?_)
                  obtain ⟨rfl, g⟩ := hpo
                  have ev : m_van (m_dn (m_l (m_s M 5 q (nI (n0 + 1))) 0 q (t ++ [M.1 1 r] ++ [1])) q) r = m_dn (m_van (m_l (m_s M 5 q (nI (n0 + 1))) 0 q (t ++ [M.1 1 r] ++ [1])) r) q := by
                    unfold m_dn
                    rw [m_van_sc hqr (by omega), m_van_o (by omega) hqr]
                  obtain ⟨gQ, gf1, gf2, gf3⟩ := id g
                  obtain ⟨ir, hir, h4r, -⟩ := (hI.2.2.1 r hr).2.2.2.1 hn0r
                  have e12 : ∀ j, j < 12 → 0 < (m_van (m_dn (m_l (m_s M 5 q (nI (n0 + 1))) 0 q (t ++ [M.1 1 r] ++ [1])) q) r).1 12 j → 0 < M.1 12 j := by
                    intro j hj hp
                    rw [m_van_12 (M := m_dn (m_l (m_s M 5 q (nI (n0 + 1))) 0 q (t ++ [M.1 1 r] ++ [1])) q) hir h4r j] at hp
                    by_cases z : j = ir
                    · rw [if_pos z] at hp
                      have hp : 0 < M.1 12 ir - 1 := hp
                      have hc := hI.2.2.2.2.1 ir hir
                      have hcl := m_cnt_le M ir 12
                      rw [z, hc]
                      rw [hc] at hp
                      rcases Nat.eq_zero_or_pos (m_cnt M ir 12) with z0 | z0
                      · rw [z0] at hp
                        exact absurd hp (by decide)
                      · exact (nI_ltI (a := 0) (by omega) (by omega)).mpr z0
                    · rw [if_neg z] at hp
                      exact hp
                  refine n_aload_n hC dX12_await_95 rfl rfl ?_
                  refine n_callV hC (x_sweep (d + 3) τ _ _ g iW (fun j hj hp => by rw [gf1 j, hS.2.1.1 j hj, if_pos (e12 j hj hp)]) (fun j hj => by rw [gf1 j, hS.2.1.1 j hj]; split; exact Or.inr rfl; exact Or.inl rfl) ((gf1 12).trans hS.2.1.2)) (Nat.le_refl _) (by decide) (by first | exact rfl | with_reducible assumption) rfl rfl rfl ⟨wmX12_327, wi_yX12_sweep, wv_yX12_sweep, wzX12, wc_yX12_sweep⟩ hy_yX12_sweep rfl (Nat.le_of_ble_eq_true rfl) dX12_await_96 (fun rv σ' hpo => ?_)
                  obtain ⟨rfl, g⟩ := hpo
                  refine n_vret hC dX12_await_99 ?_
                  rw [ev] at g
                  have s0 : (m_van (m_l (m_s M 5 q (nI (n0 + 1))) 0 q (t ++ [M.1 1 r] ++ [1])) r).1 0 q = 1 := by
                    rw [m_van_o (by omega) hqr]
                    exact h1
                  exact ⟨rfl, XA.done hmv ⟨g.1, g.2.1, g.2.2.1.trans hS.2.2.1, g.2.2.2.trans hS.2.2.2⟩ s0 hnw hle (Or.inr (Or.inr (Or.inr (Or.inr (Or.inr (Or.inr (Or.inr (Or.inr (Or.inr (Or.inr (Or.inr (Or.inr (Or.inr (Or.inr (Or.inr (Or.inr (Or.inr (Or.inl (⟨rfl, rfl, t, nI r, hst, Or.inl ⟨r, hkid, rfl⟩⟩)))))))))))))))))))⟩
          · exact absurd h (by decide)
        · refine n_if_ne (tgt := 47) hC dX12_await_43 (by decide) (fun h => ?_) (fun h => ?_)
          · exact absurd rfl h
          · refine n_vret hC dX12_await_46 ?_
            exact ⟨rfl, XA.full hI hq ha g hnw hgt⟩
      · have hal := m_st_al (hI.2.2.1 r hr) ⟨hn0r, h⟩
        refine n_aload_n hC dX12_await_29 rfl rfl ?_
        refine n_iload_n hC dX12_await_30 rfl rfl ?_
        refine n_iconst (v := 3) hC dX12_await_31 (by decide) ?_
        refine n_iload_n hC dX12_await_32 rfl rfl ?_
        refine n_callV hC (x_waitFor (d + 2) q 3 (nI r) _ M _ hM hq (hI.1.1 q hq)) (Nat.le_refl _) (by decide) (by first | exact rfl | with_reducible assumption) rfl rfl rfl ⟨wmX12_367, wi_yX12_waitFor, wv_yX12_waitFor, wzX12, wc_yX12_waitFor⟩ hy_yX12_waitFor rfl (Nat.le_of_ble_eq_true rfl) dX12_await_33 (fun rv σ' hpo => ?_)
        obtain ⟨rfl, g⟩ := hpo
        refine n_vret hC dX12_await_36 ?_
        exact ⟨rfl, XA.wait (hS.of g (fun i _ => m_susp_sn (by omega))) (Or.inr (Or.inr ⟨rfl, t, nI r, r, hst, hkid, hal, rfl⟩))⟩
  · have hnw : m_nw M q 35 := ⟨fun z => absurd z (by omega), fun z => absurd z (by omega), fun _ => ⟨t, x, hst, fun ⟨r, z, _⟩ => hno ⟨r, z⟩⟩⟩
    refine n_istore_n hC dX12_await_13 rfl (Nat.le_of_ble_eq_true rfl) ?_
    refine n_iload_n hC dX12_await_14 rfl rfl ?_
    refine n_if_eq (tgt := 37) hC dX12_await_15 (by decide) (fun h => ?_) (fun h => ?_)
    · clear h
      refine n_aload_n hC dX12_await_37 rfl rfl ?_
      refine n_iload_n hC dX12_await_38 rfl rfl ?_
      refine n_iconst (v := 1) hC dX12_await_39 (by decide) ?_
      refine n_callV hC (x_fits d q 1 τ0 M _ hS hI hq ha (by omega)) (Nat.le_refl _) (by decide) (by first | exact rfl | with_reducible assumption) rfl rfl rfl ⟨wmX12_342, wi_yX12_fits, wv_yX12_fits, wzX12, wc_yX12_fits⟩ hy_yX12_fits rfl (Nat.le_of_ble_eq_true rfl) dX12_await_40 (fun rv σ' hpo => ?_)
      rcases hpo with ⟨hle, rfl, hσ⟩ | ⟨hgt, rfl, g⟩
      · rw [hσ]
        refine n_if_ne (tgt := 47) hC dX12_await_43 (by decide) (fun h => ?_) (fun h => ?_)
        · clear h
          refine n_aload_n hC dX12_await_47 rfl rfl ?_
          refine n_iload_n hC dX12_await_48 rfl rfl ?_
          refine n_iconst (v := 0) hC dX12_await_49 (by decide) ?_
          refine n_iload_n hC dX12_await_50 rfl rfl ?_
          refine n_if_eq (tgt := 63) hC dX12_await_51 (by decide) (fun h => ?_) (fun h => ?_)
          · clear h
            refine n_iconst (v := 0) hC dX12_await_63 (by decide) ?_
            refine n_callV hC (x_s0 (d + 3) q 0 _ M _ hM hq hst) (Nat.le_refl _) (by decide) (by first | exact rfl | with_reducible assumption) rfl rfl rfl ⟨wmX12_348, wi_yX12_setTop, wv_yX12_setTop, wzX12, wc_yX12_setTop⟩ hy_yX12_setTop rfl (Nat.le_of_ble_eq_true rfl) dX12_await_64 (fun rv σ' hpo => ?_)
            obtain ⟨rfl, g⟩ := hpo
            refine n_aload_n hC dX12_await_67 rfl rfl ?_
            refine n_iload_n hC dX12_await_68 rfl rfl ?_
            refine n_iload_n hC dX12_await_69 rfl rfl ?_
            refine n_if_eq (tgt := 77) hC dX12_await_70 (by decide) (fun h => ?_) (fun h => ?_)
            · clear h
              refine n_iconst (v := 0) hC dX12_await_77 (by decide) ?_
              refine n_callV hC (x_push (d + 3) q 0 _ _ _ g hq (by rw [ml_e, len1]; omega)) (Nat.le_refl _) (by decide) (by first | exact rfl | with_reducible assumption) rfl rfl rfl ⟨wmX12_333, wi_yX12_push, wv_yX12_push, wzX12, wc_yX12_push⟩ hy_yX12_push rfl (Nat.le_of_ble_eq_true rfl) dX12_await_78 (fun rv σ' hpo => ?_)
              obtain ⟨rfl, g⟩ := hpo
              rw [ml_e, ml_ml] at g
              refine n_aload_n hC dX12_await_81 rfl rfl ?_
              refine n_iload_n hC dX12_await_82 rfl rfl ?_
              refine n_callV hC (x_done (d + 3) q n0 _ _ _ g hq hn) (Nat.le_refl _) (by decide) (by first | exact rfl | with_reducible assumption) rfl rfl rfl ⟨wmX12_336, wi_yX12_done, wv_yX12_done, wzX12, wc_yX12_done⟩ hy_yX12_done rfl (Nat.le_of_ble_eq_true rfl) dX12_await_83 (fun rv σ' hpo => ?_)
              obtain ⟨rfl, g⟩ := hpo
              refine n_iload_n hC dX12_await_86 rfl rfl ?_
              refine n_if_eq (tgt := 99) hC dX12_await_87 (by decide) (fun h => ?_) (fun h => ?_)
              · refine n_vret hC dX12_await_99 ?_
                exact ⟨rfl, XA.stk hmv hS h1 g hnw hle (Or.inr (Or.inr (Or.inr (Or.inr (Or.inr (Or.inr (Or.inr (Or.inr (Or.inr (Or.inr (Or.inr (Or.inr (Or.inr (Or.inr (Or.inr (Or.inr (Or.inr (Or.inl (⟨rfl, rfl, t, x, hst, Or.inr ⟨hno, rfl⟩⟩)))))))))))))))))))⟩
              · exact absurd rfl h
            · exact absurd rfl h
          · exact absurd rfl h
        · exact absurd h (by decide)
      · refine n_if_ne (tgt := 47) hC dX12_await_43 (by decide) (fun h => ?_) (fun h => ?_)
        · exact absurd rfl h
        · refine n_vret hC dX12_await_46 ?_
          exact ⟨rfl, XA.full hI hq ha g hnw hgt⟩
    · exact absurd rfl h
end RTK
