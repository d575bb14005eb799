theorem m_fb20 (a b c d e : Int32) : (List.range 20).map (m_fb a b c d e) = [m_byt a 24, m_byt a 16, m_byt a 8, m_byt a 0] ++ [m_byt b 24, m_byt b 16, m_byt b 8, m_byt b 0] ++ [m_byt c 24, m_byt c 16, m_byt c 8, m_byt c 0] ++ [m_byt d 24, m_byt d 16, m_byt d 8, m_byt d 0] ++ [m_byt e 24, m_byt e 16, m_byt e 8, m_byt e 0] := by
  have h : ∀ k, k < 20 → (24 - 8 * (nI k &&& 3) : Int32) = [24, 16, 8, 0].getD (k % 4) 0 := by decide +kernel
  have g : ∀ k, k < 20 → m_fb a b c d e k = m_byt (if k < 4 then a else if k < 8 then b else if k < 12 then c else if k < 16 then d else e) ([24, 16, 8, 0].getD (k % 4) 0) := fun k hk => by
    unfold m_fb
    rw [h k hk]
  have r : List.range 20 = [0, 1, 2, 3, 4, 5, 6, 7, 8, 9, 10, 11, 12, 13, 14, 15, 16, 17, 18, 19] := by decide
  rw [r]
  simp only [List.map_cons, List.map_nil]
  rw [g 0 (by omega), g 1 (by omega), g 2 (by omega), g 3 (by omega), g 4 (by omega), g 5 (by omega), g 6 (by omega), g 7 (by omega), g 8 (by omega), g 9 (by omega), g 10 (by omega), g 11 (by omega), g 12 (by omega), g 13 (by omega), g 14 (by omega), g 15 (by omega), g 16 (by omega), g 17 (by omega), g 18 (by omega), g 19 (by omega)]
  rfl
section CP2
variable {l : Launch} {D : va_G} {ca : Nat → ClassId} {ad : Nat → Nat → Nat} {ae : Nat → Nat} {ts : Nat} {Ex : State → Heap → Prop}
theorem c_append (d : Nat) (x : Int32) (M : n_M) (σ : n_S) (hM : RepC M σ) (hl : (M.2 8 0).length + 4 ≤ 8192) : n_Ct l (cw D ca ad ae Ex) d yX8_append cX8_append 3 none [.ref (ad 1 0), .int x] σ (fun rv σ' => rv = none ∧ RepC (m_l M 8 0 (M.2 8 0 ++ [m_byt x 24, m_byt x 16, m_byt x 8, m_byt x 0])) σ') := by
  refine n_ofW (by decide) (Nat.le_of_ble_eq_true rfl) ?_
  intro p e s m below meth c hC
  have step : ∀ (sh : Int32) (B : List Int32) (σ1 : n_S), ¬ sh < 0 → B.length < 8192 → RepC (m_l M 8 0 B) σ1 → (∀ σ2, RepC (m_l M 8 0 (B ++ [m_byt x sh])) σ2 → n_W p l e s m [Value.ref (ad 1 0), Value.int x].toArray below meth c (cw D ca ad ae Ex) d (fun rv σ' => rv = none ∧ RepC (m_l M 8 0 (M.2 8 0 ++ [m_byt x 24, m_byt x 16, m_byt x 8, m_byt x 0])) σ') 3 [some (.ref (ad 1 0)), some (.int x), some (.int (sh + -8))] [] σ2) → n_W p l e s m [Value.ref (ad 1 0), Value.int x].toArray below meth c (cw D ca ad ae Ex) d (fun rv σ' => rv = none ∧ RepC (m_l M 8 0 (M.2 8 0 ++ [m_byt x 24, m_byt x 16, m_byt x 8, m_byt x 0])) σ') 3 [some (.ref (ad 1 0)), some (.int x), some (.int sh)] [] σ1 := by
    intro sh B σ1 hsh hlen h1 kk
    obtain ⟨t1, t2, t3⟩ := h1.2 8 0 rfl
    rw [ml_e] at t1 t2 t3
    have t2 : σ1 1 0 1 = nI B.length := t2
    have ecl : (nI B.length).toNatClampNeg = B.length := nI_clamp (by omega)
    refine n_iload_n hC dX8_append_3 rfl rfl ?_
    refine n_if_lt (tgt := 46) hC dX8_append_4 (by decide) (fun h => ?_) (fun h => ?_)
    · exact absurd h hsh
    · clear h
      refine n_aload_n hC dX8_append_7 rfl rfl ?_
      refine g1_length hC (by first | exact rfl | with_reducible assumption) wfX8_15 dX8_append_8 ?_
      rw [t2]
      refine n_sipush (v := 8192) hC dX8_append_11 (by decide) ?_
      refine n_icmp_ge (tgt := 46) hC dX8_append_14 (by decide) (fun h => ?_) (fun h => ?_)
      · exact absurd h (nI_ge (b := 8192) hlen (by decide))
      · clear h
        refine n_aload_n hC dX8_append_17 rfl rfl ?_
        refine g1_bytes hC (by first | exact rfl | with_reducible assumption) wfX8_9 dX8_append_18 ?_
        refine n_aload_n hC dX8_append_21 rfl rfl ?_
        refine g1_length hC (by first | exact rfl | with_reducible assumption) wfX8_15 dX8_append_22 ?_
        rw [t2]
        refine n_iload_n hC dX8_append_25 rfl rfl ?_
        refine n_iload_n hC dX8_append_26 rfl rfl ?_
        refine n_ishr hC dX8_append_27 ?_
        refine n_i2b hC dX8_append_28 rfl ?_
        refine c_bast hC (by first | exact rfl | with_reducible assumption) (fun _ => rfl) (by first | exact vp_in_nI (by omega) (by decide) | with_reducible assumption) dX8_append_29 ?_
        rw [ecl]
        refine n_aload_n hC dX8_append_30 rfl rfl ?_
        refine n_dup hC dX8_append_31 rfl ?_
        refine g1_length hC (by first | exact rfl | with_reducible assumption) wfX8_15 dX8_append_32 ?_
        rw [show (n_up σ1 2 0 B.length ((x >>> (sh &&& 31)).toInt8.toInt32.toInt8.toInt32)) 1 0 1 = nI B.length from by rw [n_up_k, if_neg (by omega)]; exact t2]
        refine n_iconst (v := 1) hC dX8_append_35 (by decide) ?_
        refine n_iadd hC dX8_append_36 ?_
        rw [nI_1]
        refine p1_length hC (by first | exact rfl | with_reducible assumption) wfX8_15 dX8_append_37 ?_
        refine n_iinc hC dX8_append_40 rfl (show _ + Int32.ofInt (-8) = _ + (-8) from rfl) ?_
        refine n_goto (tgt := 3) hC dX8_append_43 (by decide) ?_
        refine kk _ ?_
        have h2 := cl_8 (σ' := n_up (n_up σ1 2 0 B.length ((x >>> (sh &&& 31)).toInt8.toInt32.toInt8.toInt32)) 1 0 1 (nI (B.length + 1))) (l0 := B ++ [m_byt x sh]) h1 rfl (fun κ i' k u1 u2 => by
          rw [n_up_k, if_neg (by omega), n_up_k, if_neg (by omega)]) (by rw [n_up_k, if_pos ⟨rfl, rfl, rfl⟩, len1]) (by rw [len1]; omega) (fun j hj => by
          rw [len1] at hj
          rw [n_up_k, if_neg (by omega)]
          by_cases z : j = B.length
          · rw [z, n_up_k, if_pos ⟨rfl, rfl, rfl⟩, getD_snoc_e]
            rfl
          · rw [n_up_k, if_neg (by omega), show σ1 2 0 j = B.getD j 0 from t3 j (by omega), getD_snoc_l _ _ _ (by omega)])
        rw [ml_ml] at h2
        exact h2
  refine n_bipush (v := 24) hC dX8_append_0 (by decide) ?_
  refine n_istore_n hC dX8_append_2 rfl (Nat.le_of_ble_eq_true rfl) ?_
  have h0 : RepC (m_l M 8 0 (M.2 8 0)) σ := by rw [ml_id rfl]; exact hM
  refine step 24 (M.2 8 0) σ (by decide) (by omega) h0 (fun σ2 h2 => ?_)
  rw [show (24 : Int32) + -8 = 16 from rfl]
  refine step 16 _ σ2 (by decide) (by rw [len1]; omega) h2 (fun σ3 h3 => ?_)
  rw [show (16 : Int32) + -8 = 8 from rfl]
  refine step 8 _ σ3 (by decide) (by rw [len1, len1]; omega) h3 (fun σ4 h4 => ?_)
  rw [show (8 : Int32) + -8 = 0 from rfl]
  refine step 0 _ σ4 (by decide) (by rw [len1, len1, len1]; omega) h4 (fun σ5 h5 => ?_)
  rw [show (0 : Int32) + -8 = -8 from rfl]
  refine n_iload_n hC dX8_append_3 rfl rfl ?_
  refine n_if_lt (tgt := 46) hC dX8_append_4 (by decide) (fun h => ?_) (fun h => ?_)
  · refine n_vret hC dX8_append_46 ?_
    refine ⟨rfl, ?_⟩
    rw [show M.2 8 0 ++ [m_byt x 24, m_byt x 16, m_byt x 8, m_byt x 0] = M.2 8 0 ++ [m_byt x 24] ++ [m_byt x 16] ++ [m_byt x 8] ++ [m_byt x 0] from by simp]
    exact h5
  · exact absurd (by decide) h
theorem cp_feed (hl : l.stackTraces = false) (hT : ∀ U H, Ex U H → xT (cw_A ad) U H) (d : Nat) (a b c0 d0 e0 : Int32) (M : n_M) (σ : n_S) (hM : RepC M σ) : k_Ct l (cw D ca ad ae Ex) (d + 6) yX11_feed cX11_feed 6 (some .int) [.ref (ad 0 0), .int a, .int b, .int c0, .int d0, .int e0] σ (fun rv σ' => (u_feed M a b c0 d0 e0).1 = 0 ∧ rv = some (.int (u_feed M a b c0 d0 e0).2.1) ∧ RepC (u_feed M a b c0 d0 e0).2.2 σ') (fun E σ' => (u_feed M a b c0 d0 e0).1 = 1 ∧ E = "java/lang/UnsupportedOperationException" ∧ σ' = σ) := by
  obtain ⟨h1, e1, h3⟩ := hM.2 8 0 rfl
  have h1 : (M.2 8 0).length ≤ 8192 := h1
  have e1 : σ 1 0 1 = nI (M.2 8 0).length := e1
  refine k_ofW (by decide) (Nat.le_of_ble_eq_true rfl) ?_
  intro p e s m below meth c hC hexc
  refine kn_aload_n hC dX11_feed_0 rfl rfl ?_
  refine kg0_tape hC (by first | exact rfl | with_reducible assumption) wfX11_10 dX11_feed_1 ?_
  refine kg1_length hC (by first | exact rfl | with_reducible assumption) wfX11_41 dX11_feed_4 ?_
  rw [e1]
  refine kn_bipush (v := 20) hC dX11_feed_7 (by decide) ?_
  refine kn_iadd hC dX11_feed_9 ?_
  rw [show nI (M.2 8 0).length + 20 = nI ((M.2 8 0).length + 20) from nI_add (M.2 8 0).length 20]
  refine kn_sipush (v := 8192) hC dX11_feed_10 (by decide) ?_
  refine kn_icmp_le (tgt := 26) hC dX11_feed_13 (by decide) (fun h => ?_) (fun h => ?_)
  · have hle : (M.2 8 0).length + 20 ≤ 8192 := (nI_leI (b := 8192) (by omega) (by omega)).mp h
    clear h
    have ee : u_feed M a b c0 d0 e0 = (0, nI ((M.2 8 0).length + 20), m_l M 8 0 (M.2 8 0 ++ (List.range 20).map (m_fb a b c0 d0 e0))) := if_pos hle
    rw [ee]
    refine kn_aload_n hC dX11_feed_26 rfl rfl ?_
    refine kg0_tape hC (by first | exact rfl | with_reducible assumption) wfX11_10 dX11_feed_27 ?_
    refine kn_iload_n hC dX11_feed_30 rfl rfl ?_
    refine kn_callV hC (c_append (d + 5) a M σ hM (by omega)) (Nat.le_refl _) (by decide) (by first | exact rfl | with_reducible assumption) rfl rfl rfl ⟨wmX11_52, wi_yX8_append, wv_yX8_append, wzX8, wc_yX8_append⟩ hy_yX8_append rfl (Nat.le_of_ble_eq_true rfl) dX11_feed_31 (fun rv σ' hpo => ?_)
    obtain ⟨rfl, g⟩ := hpo
    refine kn_aload_n hC dX11_feed_34 rfl rfl ?_
    refine kg0_tape hC (by first | exact rfl | with_reducible assumption) wfX11_10 dX11_feed_35 ?_
    refine kn_iload_n hC dX11_feed_38 rfl rfl ?_
    refine kn_callV hC (c_append (d + 5) b _ _ g (by rw [ml_e, List.length_append]; simp; omega)) (Nat.le_refl _) (by decide) (by first | exact rfl | with_reducible assumption) rfl rfl rfl ⟨wmX11_52, wi_yX8_append, wv_yX8_append, wzX8, wc_yX8_append⟩ hy_yX8_append rfl (Nat.le_of_ble_eq_true rfl) dX11_feed_39 (fun rv σ' hpo => ?_)
    obtain ⟨rfl, g⟩ := hpo
    rw [ml_e, ml_ml] at g
    refine kn_aload_n hC dX11_feed_42 rfl rfl ?_
    refine kg0_tape hC (by first | exact rfl | with_reducible assumption) wfX11_10 dX11_feed_43 ?_
    refine kn_iload_n hC dX11_feed_46 rfl rfl ?_
    refine kn_callV hC (c_append (d + 5) c0 _ _ g (by rw [ml_e, List.length_append, List.length_append]; simp; omega)) (Nat.le_refl _) (by decide) (by first | exact rfl | with_reducible assumption) rfl rfl rfl ⟨wmX11_52, wi_yX8_append, wv_yX8_append, wzX8, wc_yX8_append⟩ hy_yX8_append rfl (Nat.le_of_ble_eq_true rfl) dX11_feed_47 (fun rv σ' hpo => ?_)
    obtain ⟨rfl, g⟩ := hpo
    rw [ml_e, ml_ml] at g
    refine kn_aload_n hC dX11_feed_50 rfl rfl ?_
    refine kg0_tape hC (by first | exact rfl | with_reducible assumption) wfX11_10 dX11_feed_51 ?_
    refine kn_iload hC dX11_feed_54 rfl ?_
    refine kn_callV hC (c_append (d + 5) d0 _ _ g (by rw [ml_e, List.length_append, List.length_append, List.length_append]; simp; omega)) (Nat.le_refl _) (by decide) (by first | exact rfl | with_reducible assumption) rfl rfl rfl ⟨wmX11_52, wi_yX8_append, wv_yX8_append, wzX8, wc_yX8_append⟩ hy_yX8_append rfl (Nat.le_of_ble_eq_true rfl) dX11_feed_56 (fun rv σ' hpo => ?_)
    obtain ⟨rfl, g⟩ := hpo
    rw [ml_e, ml_ml] at g
    refine kn_aload_n hC dX11_feed_59 rfl rfl ?_
    refine kg0_tape hC (by first | exact rfl | with_reducible assumption) wfX11_10 dX11_feed_60 ?_
    refine kn_iload hC dX11_feed_63 rfl ?_
    refine kn_callV hC (c_append (d + 5) e0 _ _ g (by rw [ml_e, List.length_append, List.length_append, List.length_append, List.length_append]; simp; omega)) (Nat.le_refl _) (by decide) (by first | exact rfl | with_reducible assumption) rfl rfl rfl ⟨wmX11_52, wi_yX8_append, wv_yX8_append, wzX8, wc_yX8_append⟩ hy_yX8_append rfl (Nat.le_of_ble_eq_true rfl) dX11_feed_65 (fun rv σ2 hpo => ?_)
    obtain ⟨rfl, g⟩ := hpo
    rw [ml_e, ml_ml] at g
    have e5 : σ2 1 0 1 = nI ((M.2 8 0).length + 20) := by
      obtain ⟨-, t2, -⟩ := g.2 8 0 rfl
      rw [ml_e] at t2
      have t2 : σ2 1 0 1 = _ := t2
      rw [t2]
      simp [List.length_append]
    refine kn_aload_n hC dX11_feed_68 rfl rfl ?_
    refine kg0_tape hC (by first | exact rfl | with_reducible assumption) wfX11_10 dX11_feed_69 ?_
    refine kg1_length hC (by first | exact rfl | with_reducible assumption) wfX11_41 dX11_feed_72 ?_
    rw [e5]
    refine kn_iret hC dX11_feed_75 ?_
    refine ⟨rfl, rfl, ?_⟩
    rw [m_fb20]
    rw [← List.append_assoc, ← List.append_assoc, ← List.append_assoc, ← List.append_assoc]
    exact g
  · have hno : ¬ (M.2 8 0).length + 20 ≤ 8192 := fun z => h (nI_le (b := 8192) z (by omega))
    have ee : u_feed M a b c0 d0 e0 = (1, 0, M) := if_neg hno
    rw [ee]
    refine kn_thr hC hl hexc hT (by omega) (ik := 45) (ic := 49) (is := 47) (cls := "java/lang/UnsupportedOperationException") (text := "the tape is full") (by decide) (by decide) (Nat.le_of_ble_eq_true rfl) dX11_feed_16 dX11_feed_19 dX11_feed_20 dX11_feed_22 dX11_feed_25 ?_
    exact ⟨rfl, rfl, rfl⟩
theorem cp_end (hl : l.stackTraces = false) (hT : ∀ U H, Ex U H → xT (cw_A ad) U H) (d : Nat) (x : Int32) (M : n_M) (σ : n_S) (hM : RepC M σ) : k_Ct l (cw D ca ad ae Ex) (d + 6) yX11_end cX11_end 2 none [.ref (ad 0 0), .int x] σ (fun rv σ' => (u_end M x).1 = 0 ∧ rv = none ∧ RepC (u_end M x).2 σ') (fun E σ' => (u_end M x).1 = 1 ∧ E = "java/lang/IllegalArgumentException" ∧ σ' = σ) := by
  obtain ⟨h1, e1, h3⟩ := hM.2 8 0 rfl
  have h1 : (M.2 8 0).length ≤ 8192 := h1
  have e1 : σ 1 0 1 = nI (M.2 8 0).length := e1
  refine k_ofW (by decide) (Nat.le_of_ble_eq_true rfl) ?_
  intro p e s m below meth c hC hexc
  have bad : ¬ (¬ x < 0 ∧ x ≤ nI (M.2 8 0).length) → k_W p l e s m [Value.ref (ad 0 0), Value.int x].toArray below meth c (cw D ca ad ae Ex) (d + 6) (fun rv σ' => (u_end M x).1 = 0 ∧ rv = none ∧ RepC (u_end M x).2 σ') (fun E σ' => (u_end M x).1 = 1 ∧ E = "java/lang/IllegalArgumentException" ∧ σ' = σ) 15 [some (.ref (ad 0 0)), some (.int x)] [] σ := by
    intro hb
    have ee : u_end M x = (1, M) := if_neg hb
    rw [ee]
    refine kn_thr hC hl hexc hT (by omega) (ik := 56) (ic := 60) (is := 58) (cls := "java/lang/IllegalArgumentException") (text := "the tape has not so many bytes") (by decide) (by decide) (Nat.le_of_ble_eq_true rfl) dX11_end_15 dX11_end_18 dX11_end_19 dX11_end_21 dX11_end_24 ?_
    exact ⟨rfl, rfl, rfl⟩
  refine kn_iload_n hC dX11_end_0 rfl rfl ?_
  refine kn_if_lt (tgt := 15) hC dX11_end_1 (by decide) (fun h => ?_) (fun h => ?_)
  · exact bad (fun z => z.1 h)
  · have h0 := h
    clear h
    refine kn_iload_n hC dX11_end_4 rfl rfl ?_
    refine kn_aload_n hC dX11_end_5 rfl rfl ?_
    refine kg0_tape hC (by first | exact rfl | with_reducible assumption) wfX11_10 dX11_end_6 ?_
    refine kg1_length hC (by first | exact rfl | with_reducible assumption) wfX11_41 dX11_end_9 ?_
    rw [e1]
    refine kn_icmp_le (tgt := 25) hC dX11_end_12 (by decide) (fun h => ?_) (fun h => ?_)
    · obtain ⟨k, hk31, rfl⟩ := nI_of h0
      have hk : k ≤ (M.2 8 0).length := (nI_leI hk31 (by omega)).mp h
      have ee : u_end M (nI k) = (0, m_l M 8 0 ((M.2 8 0).take k)) := by
        unfold u_end
        rw [if_pos ⟨h0, h⟩, nI_clamp hk31]
      rw [ee]
      clear bad
      have hlen : ((M.2 8 0).take k).length = k := by rw [List.length_take]; omega
      refine kn_aload_n hC dX11_end_25 rfl rfl ?_
      refine kg0_tape hC (by first | exact rfl | with_reducible assumption) wfX11_10 dX11_end_26 ?_
      refine kn_iload_n hC dX11_end_29 rfl rfl ?_
      refine kp1_length hC (by first | exact rfl | with_reducible assumption) wfX11_41 dX11_end_30 ?_
      refine kn_vret hC dX11_end_33 ?_
      refine ⟨rfl, rfl, cl_8 hM rfl (fun κ i' k' u1 u2 => ?_) ?_ (by omega) (fun j hj => ?_)⟩
      · rw [n_up_k, if_neg (by omega)]
      · rw [n_up_k, if_pos ⟨rfl, rfl, rfl⟩, hlen]
      · rw [hlen] at hj
        rw [n_up_k, if_neg (by omega), show σ 2 0 j = (M.2 8 0).getD j 0 from h3 j (by omega), List.getD_eq_getElem?_getD, List.getD_eq_getElem?_getD, List.getElem?_take_of_lt hj]
    · exact bad (fun z => h z.2)
theorem cp_post (hl : l.stackTraces = false) (hT : ∀ U H, Ex U H → xT (cw_A ad) U H) (d : Nat) (x y : Int32) (M : n_M) (σ : n_S) (hM : RepC M σ) (hI : II M) : k_Ct l (cw D ca ad ae Ex) (d + 6) yX11_post cX11_post 4 (some .boolean) [.ref (ad 0 0), .int x, .int y] σ (fun rv σ' => (u_post M x y).1 = 0 ∧ rv = some (.int (u_post M x y).2.1) ∧ RepC (u_post M x y).2.2 σ') (fun E σ' => (((u_post M x y).1 = 1 ∧ E = "java/lang/IndexOutOfBoundsException") ∨ ((u_post M x y).1 = 2 ∧ E = "java/lang/IllegalStateException")) ∧ σ' = σ) := by
  refine k_ofW (by decide) (Nat.le_of_ble_eq_true rfl) ?_
  intro p e s m below meth c hC hexc
  refine kn_aload_n hC dX11_post_0 rfl rfl ?_
  refine kg0_desk hC (by first | exact rfl | with_reducible assumption) wfX11_28 dX11_post_1 ?_
  refine kn_iload_n hC dX11_post_4 rfl rfl ?_
  refine kn_callV hC (c_find (d + 5) x σ) (Nat.le_refl _) (by decide) (by first | exact rfl | with_reducible assumption) rfl rfl rfl ⟨wmX11_106, wi_yX2_find, wv_yX2_find, wzX2, wc_yX2_find⟩ hy_yX2_find rfl (Nat.le_of_ble_eq_true rfl) dX11_post_5 (fun rv σ' hpo => ?_)
  obtain ⟨hpo, hσ⟩ := hpo
  rw [hσ]
  rcases hpo with ⟨q, hq, rfl, rfl⟩ | ⟨hn, rfl⟩
  · have hv : n_V q := hq
    have hd1 : cw_dom 21 q := hq
    have ecl : (nI q).toNatClampNeg = q := nI_clamp (by omega)
    first | refine kn_astore_n hC dX11_post_8 rfl (Nat.le_of_ble_eq_true rfl) ?_ | refine kn_astore_nN hC dX11_post_8 rfl (Nat.le_of_ble_eq_true rfl) ?_
    refine kn_aload_n hC dX11_post_9 rfl rfl ?_
    first | refine kn_ifnonnull (tgt := 23) hC dX11_post_10 (by decide) ?_ | refine kn_ifnonnullN hC dX11_post_10 ?_
    refine kn_aload_n hC dX11_post_23 rfl rfl ?_
    refine kn_callV hC (c_alive (d + 5) q M σ hM hq) (Nat.le_refl _) (by decide) (by first | exact rfl | with_reducible assumption) rfl rfl rfl ⟨wmX11_112, wi_yX9_isAlive, wv_yX9_isAlive, wzX9, wc_yX9_isAlive⟩ hy_yX9_isAlive rfl (Nat.le_of_ble_eq_true rfl) dX11_post_24 (fun rv σ' hpo => ?_)
    obtain ⟨hpo, hσ⟩ := hpo
    rw [hσ]
    rcases hpo with ⟨hal, rfl⟩ | ⟨hal, rfl⟩
    · have hlv := hI.1.lv hv
      refine kn_if_ne (tgt := 40) hC dX11_post_27 (by decide) (fun h => ?_) (fun h => ?_)
      · clear h
        refine kn_aload_n hC dX11_post_40 rfl rfl ?_
        refine kg0_desk hC (by first | exact rfl | with_reducible assumption) wfX11_28 dX11_post_41 ?_
        refine kn_aload_n hC dX11_post_44 rfl rfl ?_
        refine kn_iload_n hC dX11_post_45 rfl rfl ?_
        refine kn_iconst (v := 0) hC dX11_post_46 (by decide) ?_
        refine kn_callV hC (c_deliver (d + 3) q y 0 M σ hM hq (hI.1.1 q hv) (fun h2 => hI.1.row hv hlv.1 (hI.1.notrow hv hlv.1 (by rw [h2]; decide)))) (Nat.le_refl _) (by decide) (by first | exact rfl | with_reducible assumption) rfl rfl rfl ⟨wmX11_153, wi_yX2_deliver, wv_yX2_deliver, wzX2, wc_yX2_deliver⟩ hy_yX2_deliver rfl (Nat.le_of_ble_eq_true rfl) dX11_post_47 (fun rv σ' hpo => ?_)
        rcases hpo with ⟨h8, rfl, g⟩ | ⟨h8, rfl, g⟩
        · have ee : u_post M (nI q) y = (0, 0, M) := by
            unfold u_post
            rw [ecl, if_pos (pq_lo hv), if_pos ((u_al_i M q).mpr hal), if_neg (by omega)]
          rw [ee]
          refine kn_zret hC dX11_post_50 rfl ?_
          exact ⟨rfl, rfl, g⟩
        · have ee : u_post M (nI q) y = (0, 1, m_del M q y 0) := by
            unfold u_post
            rw [ecl, if_pos (pq_lo hv), if_pos ((u_al_i M q).mpr hal), if_pos h8]
          rw [ee]
          refine kn_zret hC dX11_post_50 rfl ?_
          exact ⟨rfl, rfl, g⟩
      · exact absurd h (by decide)
    · have ee : u_post M (nI q) y = (2, 0, M) := by
        unfold u_post
        rw [ecl, if_pos (pq_lo hv), if_neg (fun z => hal ((u_al_i M q).mp z))]
      rw [ee]
      refine kn_if_ne (tgt := 40) hC dX11_post_27 (by decide) (fun h => ?_) (fun h => ?_)
      · exact absurd rfl h
      · refine kn_thr hC hl hexc hT (by omega) (ik := 126) (ic := 130) (is := 137) (cls := "java/lang/IllegalStateException") (text := "it is not alive") (by decide) (by decide) (Nat.le_of_ble_eq_true rfl) dX11_post_30 dX11_post_33 dX11_post_34 dX11_post_36 dX11_post_39 ?_
        exact ⟨Or.inr ⟨rfl, rfl⟩, rfl⟩
  · have ee : u_post M x y = (1, 0, M) := if_neg (fun z => hn ⟨Int32.not_lt.mp z.1, Int32.not_lt.mp z.2⟩)
    rw [ee]
    first | refine kn_astore_n hC dX11_post_8 rfl (Nat.le_of_ble_eq_true rfl) ?_ | refine kn_astore_nN hC dX11_post_8 rfl (Nat.le_of_ble_eq_true rfl) ?_
    first | refine kn_aload_n hC dX11_post_9 rfl rfl ?_ | refine kn_aload_nN hC dX11_post_9 rfl rfl ?_
    first | refine kn_ifnonnull (tgt := 23) hC dX11_post_10 (by decide) ?_ | refine kn_ifnonnullN hC dX11_post_10 ?_
    refine kn_thr hC hl hexc hT (by omega) (ik := 61) (ic := 65) (is := 110) (cls := "java/lang/IndexOutOfBoundsException") (text := "no such process") (by decide) (by decide) (Nat.le_of_ble_eq_true rfl) dX11_post_13 dX11_post_16 dX11_post_17 dX11_post_19 dX11_post_22 ?_
    exact ⟨Or.inl ⟨rfl, rfl⟩, rfl⟩
theorem cp_key (hl : l.stackTraces = false) (hT : ∀ U H, Ex U H → xT (cw_A ad) U H) (d : Nat) (x y : Int32) (M : n_M) (σ : n_S) (hM : RepC M σ) (hI : II M) : k_Ct l (cw D ca ad ae Ex) (d + 6) yX11_key cX11_key 4 (some .boolean) [.ref (ad 0 0), .int x, .int y] σ (fun rv σ' => (u_key M x y).1 = 0 ∧ rv = some (.int (u_key M x y).2.1) ∧ RepC (u_key M x y).2.2 σ') (fun E σ' => (((u_key M x y).1 = 1 ∧ E = "java/lang/IndexOutOfBoundsException") ∨ ((u_key M x y).1 = 2 ∧ E = "java/lang/IllegalStateException")) ∧ σ' = σ) := by
  refine k_ofW (by decide) (Nat.le_of_ble_eq_true rfl) ?_
  intro p e s m below meth c hC hexc
  refine kn_aload_n hC dX11_key_0 rfl rfl ?_
  refine kg0_desk hC (by first | exact rfl | with_reducible assumption) wfX11_28 dX11_key_1 ?_
  refine kn_iload_n hC dX11_key_4 rfl rfl ?_
  refine kn_callV hC (c_find (d + 5) x σ) (Nat.le_refl _) (by decide) (by first | exact rfl | with_reducible assumption) rfl rfl rfl ⟨wmX11_106, wi_yX2_find, wv_yX2_find, wzX2, wc_yX2_find⟩ hy_yX2_find rfl (Nat.le_of_ble_eq_true rfl) dX11_key_5 (fun rv σ' hpo => ?_)
  obtain ⟨hpo, hσ⟩ := hpo
  rw [hσ]
  rcases hpo with ⟨q, hq, rfl, rfl⟩ | ⟨hn, rfl⟩
  · have hv : n_V q := hq
    have hd1 : cw_dom 21 q := hq
    have hd2 : cw_dom 24 (2 * q + 1) := by
      show 2 ≤ 2 * q + 1 ∧ 2 * q + 1 ≤ 25
      omega
    have ecl : (nI q).toNatClampNeg = q := nI_clamp (by omega)
    first | refine kn_astore_n hC dX11_key_8 rfl (Nat.le_of_ble_eq_true rfl) ?_ | refine kn_astore_nN hC dX11_key_8 rfl (Nat.le_of_ble_eq_true rfl) ?_
    refine kn_aload_n hC dX11_key_9 rfl rfl ?_
    first | refine kn_ifnonnull (tgt := 23) hC dX11_key_10 (by decide) ?_ | refine kn_ifnonnullN hC dX11_key_10 ?_
    refine kn_aload_n hC dX11_key_23 rfl rfl ?_
    refine kn_callV hC (c_alive (d + 5) q M σ hM hq) (Nat.le_refl _) (by decide) (by first | exact rfl | with_reducible assumption) rfl rfl rfl ⟨wmX11_112, wi_yX9_isAlive, wv_yX9_isAlive, wzX9, wc_yX9_isAlive⟩ hy_yX9_isAlive rfl (Nat.le_of_ble_eq_true rfl) dX11_key_24 (fun rv σ' hpo => ?_)
    obtain ⟨hpo, hσ⟩ := hpo
    rw [hσ]
    rcases hpo with ⟨hal, rfl⟩ | ⟨hal, rfl⟩
    · have hlv := hI.1.lv hv
      refine kn_if_ne (tgt := 40) hC dX11_key_27 (by decide) (fun h => ?_) (fun h => ?_)
      · clear h
        refine kn_aload_n hC dX11_key_40 rfl rfl ?_
        refine kg21_keys hC (by first | exact rfl | with_reducible assumption) wfX11_139 dX11_key_41 ?_
        refine kn_iload_n hC dX11_key_44 rfl rfl ?_
        refine kn_iconst (v := 0) hC dX11_key_45 (by decide) ?_
        refine kn_callV hC (c_bput (d + 5) (2 * q + 1) y 0 M σ hM hd2) (Nat.le_refl _) (by decide) (by first | exact rfl | with_reducible assumption) rfl rfl rfl ⟨wmX11_143, wi_yX1_put, wv_yX1_put, wzX1, wc_yX1_put⟩ hy_yX1_put rfl (Nat.le_of_ble_eq_true rfl) dX11_key_46 (fun rv σ' hpo => ?_)
        rcases hpo with ⟨h8, rfl, g⟩ | ⟨h8, rfl, g⟩
        · have ee : u_key M (nI q) y = (0, 0, M) := by
            unfold u_key
            rw [ecl, if_pos (pq_lo hv), if_pos ((u_al_i M q).mpr hal), if_neg (by omega)]
          rw [ee]
          refine kn_if_ne (tgt := 54) hC dX11_key_49 (by decide) (fun h => ?_) (fun h => ?_)
          · exact absurd rfl h
          · refine kn_iconst (v := 0) hC dX11_key_52 (by decide) ?_
            refine kn_zret hC dX11_key_53 rfl ?_
            exact ⟨rfl, rfl, g⟩
        · have ee : u_key M (nI q) y = (0, 1, m_key M q y) := by
            unfold u_key
            rw [ecl, if_pos (pq_lo hv), if_pos ((u_al_i M q).mpr hal), if_pos h8]
          rw [ee]
          have g : RepC (m_kb M q y) σ' := g
          have e0 : σ' 21 q 7 = M.1 0 q := g.1 0 q hq
          refine kn_if_ne (tgt := 54) hC dX11_key_49 (by decide) (fun h => ?_) (fun h => ?_)
          · clear h
            refine kn_aload_n hC dX11_key_54 rfl rfl ?_
            refine kg21_status hC (by first | exact rfl | with_reducible assumption) wfX11_120 dX11_key_55 ?_
            rw [e0]
            refine kn_iconst (v := 4) hC dX11_key_58 (by decide) ?_
            refine kn_icmp_ne (tgt := 70) hC dX11_key_59 (by decide) (fun h => ?_) (fun h => ?_)
            · refine kn_iconst (v := 1) hC dX11_key_70 (by decide) ?_
              refine kn_zret hC dX11_key_71 rfl ?_
              refine ⟨rfl, rfl, ?_⟩
              show RepC (m_key M q y) _
              unfold m_key
              rw [if_neg h]
              exact g
            · refine kn_aload_n hC dX11_key_62 rfl rfl ?_
              refine kg0_desk hC (by first | exact rfl | with_reducible assumption) wfX11_28 dX11_key_63 ?_
              refine kn_aload_n hC dX11_key_66 rfl rfl ?_
              refine kn_callV hC (c_makeReady (d + 4) q _ _ g hq (hI.1.1 q hv) (hI.1.row hv hlv.1 (hI.1.notrow hv hlv.1 (by rw [h]; decide)))) (Nat.le_refl _) (by decide) (by first | exact rfl | with_reducible assumption) rfl rfl rfl ⟨wmX11_149, wi_yX2_makeReady, wv_yX2_makeReady, wzX2, wc_yX2_makeReady⟩ hy_yX2_makeReady rfl (Nat.le_of_ble_eq_true rfl) dX11_key_67 (fun rv σ' hpo => ?_)
              obtain ⟨rfl, g2⟩ := hpo
              refine kn_iconst (v := 1) hC dX11_key_70 (by decide) ?_
              refine kn_zret hC dX11_key_71 rfl ?_
              refine ⟨rfl, rfl, ?_⟩
              show RepC (m_key M q y) _
              unfold m_key
              rw [if_pos h]
              exact g2
          · exact absurd h (by decide)
      · exact absurd h (by decide)
    · have ee : u_key M (nI q) y = (2, 0, M) := by
        unfold u_key
        rw [ecl, if_pos (pq_lo hv), if_neg (fun z => hal ((u_al_i M q).mp z))]
      rw [ee]
      refine kn_if_ne (tgt := 40) hC dX11_key_27 (by decide) (fun h => ?_) (fun h => ?_)
      · exact absurd rfl h
      · refine kn_thr hC hl hexc hT (by omega) (ik := 126) (ic := 130) (is := 137) (cls := "java/lang/IllegalStateException") (text := "it is not alive") (by decide) (by decide) (Nat.le_of_ble_eq_true rfl) dX11_key_30 dX11_key_33 dX11_key_34 dX11_key_36 dX11_key_39 ?_
        exact ⟨Or.inr ⟨rfl, rfl⟩, rfl⟩
  · have ee : u_key M x y = (1, 0, M) := if_neg (fun z => hn ⟨Int32.not_lt.mp z.1, Int32.not_lt.mp z.2⟩)
    rw [ee]
    first | refine kn_astore_n hC dX11_key_8 rfl (Nat.le_of_ble_eq_true rfl) ?_ | refine kn_astore_nN hC dX11_key_8 rfl (Nat.le_of_ble_eq_true rfl) ?_
    first | refine kn_aload_n hC dX11_key_9 rfl rfl ?_ | refine kn_aload_nN hC dX11_key_9 rfl rfl ?_
    first | refine kn_ifnonnull (tgt := 23) hC dX11_key_10 (by decide) ?_ | refine kn_ifnonnullN hC dX11_key_10 ?_
    refine kn_thr hC hl hexc hT (by omega) (ik := 61) (ic := 65) (is := 110) (cls := "java/lang/IndexOutOfBoundsException") (text := "no such process") (by decide) (by decide) (Nat.le_of_ble_eq_true rfl) dX11_key_13 dX11_key_16 dX11_key_17 dX11_key_19 dX11_key_22 ?_
    exact ⟨Or.inl ⟨rfl, rfl⟩, rfl⟩
theorem cp_run (hl : l.stackTraces = false) (hT : ∀ U H, Ex U H → xT (cw_A ad) U H) (hX : ∀ U H, Ex U H → cE ad ae ts U H) (d : Nat) (x : Int32) (M : n_M) (σ : n_S) (hM : RepC M σ) (hI : II M) (ck : Nat) (hck : M.1 15 0 = nI ck) (hck2 : ck + 5000 < 2147483646) : k_Ct l (cw D ca ad ae Ex) (d + 7) yX11_run cX11_run 4 (some .int) [.ref (ad 0 0), .int x] σ (fun rv σ' => ∃ k a M', k ≤ 5000 ∧ x = nI k ∧ m_runs k M a M' ∧ rv = some (.int (nI a)) ∧ RepC M' σ') (fun E σ' => (¬ ∃ k, k ≤ 5000 ∧ x = nI k) ∧ E = "java/lang/IllegalArgumentException" ∧ σ' = σ) := by
  refine k_ofW (by decide) (Nat.le_of_ble_eq_true rfl) ?_
  intro p e s m below meth c hC hexc
  by_cases hex : ∃ k, k ≤ 5000 ∧ x = nI k
  · obtain ⟨n, hn, rfl⟩ := hex
    have loop : ∀ (t k c0 : Nat) (M1 : n_M) (σ1 : n_S), t + k = n → RepC M1 σ1 → II M1 → M1.1 15 0 = nI (ck + k) → (∀ a M', m_runs t M1 a M' → m_runs n M (c0 + a) M') → k_W p l e s m [Value.ref (ad 0 0), Value.int (nI n)].toArray below meth c (cw D ca ad ae Ex) (d + 7) (fun rv σ' => ∃ k a M', k ≤ 5000 ∧ nI n = nI k ∧ m_runs k M a M' ∧ rv = some (.int (nI a)) ∧ RepC M' σ') (fun E σ' => (¬ ∃ k, k ≤ 5000 ∧ nI n = nI k) ∧ E = "java/lang/IllegalArgumentException" ∧ σ' = σ) 25 [some (.ref (ad 0 0)), some (.int (nI n)), some (.int (nI c0)), some (.int (nI k))] [] σ1 := by
      intro t
      induction t with
      | zero =>
        intro k c0 M1 σ1 hk h1 h3 h5 hP
        have : k = n := by omega
        rw [this] at h5 ⊢
        refine kn_iload_n hC dX11_run_25 rfl rfl ?_
        refine kn_iload_n hC dX11_run_26 rfl rfl ?_
        refine kn_icmp_ge (tgt := 50) hC dX11_run_27 (by decide) (fun h => ?_) (fun h => ?_)
        · refine kn_iload_n hC dX11_run_50 rfl rfl ?_
          refine kn_iret hC dX11_run_51 ?_
          exact ⟨n, c0, M1, hn, rfl, hP 0 M1 ⟨rfl, rfl⟩, rfl, h1⟩
        · exact absurd (Int32.le_refl _) h
      | succ t ih =>
        intro k c0 M1 σ1 hk h1 h3 h5 hP
        have hlt : M1.1 15 0 + 1 < 2147483647 := by
          rw [h5, nI_1]
          exact (nI_ltI (b := 2147483647) (by omega) (by omega)).mpr (by omega)
        refine kn_iload_n hC dX11_run_25 rfl rfl ?_
        refine kn_iload_n hC dX11_run_26 rfl rfl ?_
        refine kn_icmp_ge (tgt := 50) hC dX11_run_27 (by decide) (fun h => ?_) (fun h => ?_)
        · exact absurd h (nI_ge (by omega) (by omega))
        · clear h
          refine kn_aload_n hC dX11_run_30 rfl rfl ?_
          refine kg0_worker hC (by first | exact rfl | with_reducible assumption) wfX11_37 dX11_run_31 ?_
          refine kn_callV hC (c_advance hX d M1 σ1 h1 h3 hlt) (Nat.le_refl _) (by decide) (by first | exact rfl | with_reducible assumption) rfl rfl rfl ⟨wmX11_95, wi_yX10_advance, wv_yX10_advance, wzX10, wc_yX10_advance⟩ hy_yX10_advance rfl (Nat.le_of_ble_eq_true rfl) dX11_run_34 (fun rv σ' hpo => ?_)
          obtain ⟨v, M2, ht, rfl, g1⟩ := hpo
          have h15 : M2.1 15 0 = nI (ck + (k + 1)) := by
            rw [m_tick_15 ht, h5, nI_1]
            rfl
          have i2 := II_tick h3 hlt ht
          refine kn_iconst (v := -1) hC dX11_run_37 (by decide) ?_
          refine kn_icmp_eq (tgt := 44) hC dX11_run_38 (by decide) (fun h => ?_) (fun h => ?_)
          · refine kn_iinc hC dX11_run_44 rfl (show _ + Int32.ofInt 1 = _ + 1 from rfl) ?_
            refine kn_goto (tgt := 25) hC dX11_run_47 (by decide) ?_
            rw [nI_1]
            exact ih (k + 1) c0 M2 _ (by omega) g1 i2 h15 (fun a M' hr => hP a M' ⟨v, M2, a, ht, hr, by rw [if_pos h]; rfl⟩)
          · refine kn_iinc hC dX11_run_41 rfl (show _ + Int32.ofInt 1 = _ + 1 from rfl) ?_
            refine kn_iinc hC dX11_run_44 rfl (show _ + Int32.ofInt 1 = _ + 1 from rfl) ?_
            refine kn_goto (tgt := 25) hC dX11_run_47 (by decide) ?_
            rw [nI_1, nI_1]
            refine ih (k + 1) (c0 + 1) M2 _ (by omega) g1 i2 h15 (fun a M' hr => ?_)
            rw [show c0 + 1 + a = c0 + (a + 1) by omega]
            exact hP (a + 1) M' ⟨v, M2, a, ht, hr, by rw [if_neg h]⟩
    refine kn_iload_n hC dX11_run_0 rfl rfl ?_
    refine kn_if_lt (tgt := 11) hC dX11_run_1 (by decide) (fun h => ?_) (fun h => ?_)
    · exact absurd h (Int32.not_lt.mpr (nI_pos' (by omega)))
    · clear h
      refine kn_iload_n hC dX11_run_4 rfl rfl ?_
      refine kn_sipush (v := 5000) hC dX11_run_5 (by decide) ?_
      refine kn_icmp_le (tgt := 21) hC dX11_run_8 (by decide) (fun h => ?_) (fun h => ?_)
      · refine kn_iconst (v := 0) hC dX11_run_21 (by decide) ?_
        refine kn_istore_n hC dX11_run_22 rfl (Nat.le_of_ble_eq_true rfl) ?_
        refine kn_iconst (v := 0) hC dX11_run_23 (by decide) ?_
        refine kn_istore_n hC dX11_run_24 rfl (Nat.le_of_ble_eq_true rfl) ?_
        exact loop n 0 0 M σ (by omega) hM hI hck (fun a M' hr => by rw [Nat.zero_add]; exact hr)
      · exact absurd (nI_le (b := 5000) hn (by decide)) h
  · have bad : k_W p l e s m [Value.ref (ad 0 0), Value.int x].toArray below meth c (cw D ca ad ae Ex) (d + 7) (fun rv σ' => ∃ k a M', k ≤ 5000 ∧ x = nI k ∧ m_runs k M a M' ∧ rv = some (.int (nI a)) ∧ RepC M' σ') (fun E σ' => (¬ ∃ k, k ≤ 5000 ∧ x = nI k) ∧ E = "java/lang/IllegalArgumentException" ∧ σ' = σ) 11 [some (.ref (ad 0 0)), some (.int x), none, none] [] σ := by
      refine kn_thr hC hl hexc hT (by omega) (ik := 56) (ic := 60) (is := 99) (cls := "java/lang/IllegalArgumentException") (text := "not so many ticks") (by decide) (by decide) (Nat.le_of_ble_eq_true rfl) dX11_run_11 dX11_run_14 dX11_run_15 dX11_run_17 dX11_run_20 ?_
      exact ⟨hex, rfl, rfl⟩
    refine kn_iload_n hC dX11_run_0 rfl rfl ?_
    refine kn_if_lt (tgt := 11) hC dX11_run_1 (by decide) (fun h => ?_) (fun h => ?_)
    · exact bad
    · have h0 := h
      clear h
      refine kn_iload_n hC dX11_run_4 rfl rfl ?_
      refine kn_sipush (v := 5000) hC dX11_run_5 (by decide) ?_
      refine kn_icmp_le (tgt := 21) hC dX11_run_8 (by decide) (fun h => ?_) (fun h => ?_)
      · exfalso
        obtain ⟨n, hn, rfl⟩ := nI_of2 (M := 5000) (n := 5000) rfl h0 h
        exact hex ⟨n, hn, rfl⟩
      · exact bad
end CP2
