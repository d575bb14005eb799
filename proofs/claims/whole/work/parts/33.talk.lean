theorem m_rdy_l {M : n_M} {r c i : Nat} (h : c ≠ 5) : (m_rdy M r).2 c i = M.2 c i := by
  unfold m_rdy
  rw [ml_n (by omega)]
  rfl
theorem m_box_l {M : n_M} {r c i : Nat} {x y : Int32} (h : c ≠ 2 ∧ c ≠ 3) : (m_box M r x y).2 c i = M.2 c i := by
  unfold m_box
  rw [ml_n (by omega), ml_n (by omega)]
theorem m_del_l {M : n_M} {r c i : Nat} {x y : Int32} (h : c ≠ 2 ∧ c ≠ 3 ∧ c ≠ 5) : (m_del M r x y).2 c i = M.2 c i := by
  unfold m_del
  split
  · rw [m_rdy_l h.2.2, m_box_l ⟨h.1, h.2.1⟩]
  · rw [m_box_l ⟨h.1, h.2.1⟩]
theorem m_show_l {M : n_M} {c i : Nat} {x : Int32} (h : c ≠ 7) : (m_show M x).2 c i = M.2 c i := by
  unfold m_show
  split
  · rw [ml_n (by omega)]
  · rfl
theorem RepC.stk {M : n_M} {σ : n_S} (h : RepC M σ) {q : Nat} (hq : 1 ≤ q ∧ q ≤ 12) : (M.2 0 q).length ≤ 40 := (h.2 0 q hq).1
section WK4
variable {l : Launch} {D : va_G} {ca : Nat → ClassId} {ad : Nat → Nat → Nat} {ae : Nat → Nat} {ts : Nat} {Ex : State → Heap → Prop}
theorem c_send0 (d q : Nat) (x : Int32) (M : n_M) (σ : n_S) (hM : RepC M σ) : n_Ct l (cw D ca ad ae Ex) d yX10_send cX10_send 4 (some .int) [.ref (ad 20 0), .ref (ad 21 q), .int x, .null] σ (fun rv σ' => rv = some (.int (-1)) ∧ RepC M σ') := by
  refine n_ofW (by decide) (Nat.le_of_ble_eq_true rfl) ?_
  intro p e s m below meth c hC
  refine n_aload_nN hC dX10_send_0 rfl rfl ?_
  first | refine n_ifnull hC dX10_send_1 ?_ | refine n_ifnullN (tgt := 11) hC dX10_send_1 (by decide) ?_
  refine n_iconst (v := -1) hC dX10_send_11 (by decide) ?_
  refine n_iret hC dX10_send_12 ?_
  exact ⟨rfl, hM⟩
theorem c_send1 (d q r : Nat) (x : Int32) (M : n_M) (σ : n_S) (hq : 1 ≤ q ∧ q ≤ 12) (hr : n_V r) (hM : RepC M σ) (hI : IR M) : n_Ct l (cw D ca ad ae Ex) (d + 3) yX10_send cX10_send 4 (some .int) [.ref (ad 20 0), .ref (ad 21 q), .int x, .ref (ad 21 r)] σ (fun rv σ' => (¬ m_al M r ∧ rv = some (.int (-1)) ∧ RepC M σ') ∨ (m_al M r ∧ 8 ≤ (M.2 2 (2 * r)).length ∧ rv = some (.int (-2)) ∧ RepC M σ') ∨ (m_al M r ∧ (M.2 2 (2 * r)).length < 8 ∧ rv = some (.int 0) ∧ RepC (m_del M r x (nI q)) σ')) := by
  refine n_ofW (by decide) (Nat.le_of_ble_eq_true rfl) ?_
  intro p e s m below meth c hC
  have hd : cw_dom 21 q := hq
  have hd2 : cw_dom 21 r := hr
  refine n_aload_n hC dX10_send_0 rfl rfl ?_
  first | refine n_ifnull hC dX10_send_1 ?_ | refine n_ifnullN (tgt := 11) hC dX10_send_1 (by decide) ?_
  refine n_aload_n hC dX10_send_4 rfl rfl ?_
  refine n_callV hC (c_alive (d + 2) r M σ hM hr) (Nat.le_refl _) (by decide) (by first | exact rfl | with_reducible assumption) rfl rfl rfl ⟨wmX10_121, wi_yX9_isAlive, wv_yX9_isAlive, wzX9, wc_yX9_isAlive⟩ hy_yX9_isAlive rfl (Nat.le_of_ble_eq_true rfl) dX10_send_5 (fun rv σ' hpo => ?_)
  obtain ⟨hpo, rfl⟩ := hpo
  rcases hpo with ⟨ha, rfl⟩ | ⟨ha, rfl⟩
  · refine n_if_ne (tgt := 13) hC dX10_send_8 (by decide) (fun h => ?_) (fun h => ?_)
    · clear h
      refine n_aload_n hC dX10_send_13 rfl rfl ?_
      refine g20_desk hC (by first | exact rfl | with_reducible assumption) wfX10_15 dX10_send_14 ?_
      refine n_aload_n hC dX10_send_17 rfl rfl ?_
      refine n_iload_n hC dX10_send_18 rfl rfl ?_
      refine n_aload_n hC dX10_send_19 rfl rfl ?_
      refine g21_number hC (by first | exact rfl | with_reducible assumption) wfX10_51 dX10_send_20 ?_
      refine n_callV hC (c_deliver d r x (nI q) M _ hM hr (hI.1 r hr) (fun h2 => hI.row hr (hI.lv hr).1 (hI.notrow hr (hI.lv hr).1 (by rw [h2]; decide)))) (Nat.le_refl _) (by decide) (by first | exact rfl | with_reducible assumption) rfl rfl rfl ⟨wmX10_261, wi_yX2_deliver, wv_yX2_deliver, wzX2, wc_yX2_deliver⟩ hy_yX2_deliver rfl (Nat.le_of_ble_eq_true rfl) dX10_send_23 (fun rv σ' hpo => ?_)
      rcases hpo with ⟨h8, rfl, h1⟩ | ⟨h8, rfl, h1⟩
      · refine n_if_eq (tgt := 33) hC dX10_send_26 (by decide) (fun h => ?_) (fun h => ?_)
        · refine n_bipush (v := -2) hC dX10_send_33 (by decide) ?_
          refine n_iret hC dX10_send_35 ?_
          exact Or.inr (Or.inl ⟨ha, h8, rfl, h1⟩)
        · exact absurd rfl h
      · refine n_if_eq (tgt := 33) hC dX10_send_26 (by decide) (fun h => ?_) (fun h => ?_)
        · exact absurd h (by decide)
        · refine n_iconst (v := 0) hC dX10_send_29 (by decide) ?_
          refine n_goto (tgt := 35) hC dX10_send_30 (by decide) ?_
          refine n_iret hC dX10_send_35 ?_
          exact Or.inr (Or.inr ⟨ha, h8, rfl, h1⟩)
    · exact absurd h (by decide)
  · refine n_if_ne (tgt := 13) hC dX10_send_8 (by decide) (fun h => ?_) (fun h => ?_)
    · exact absurd rfl h
    · refine n_iconst (v := -1) hC dX10_send_11 (by decide) ?_
      refine n_iret hC dX10_send_12 ?_
      exact Or.inl ⟨ha, rfl, hM⟩
theorem c_tsend (hX : ∀ U H, Ex U H → cE ad ae ts U H) (d q : Nat) (x y : Int32) (t : List Int32) (M : n_M) (σ : n_S) (hq : 1 ≤ q ∧ q ≤ 12) (hM : RepC M σ) (hI : IR M) (hl : M.2 0 q = t ++ [x] ++ [y]) : n_Ct l (cw D ca ad ae Ex) (d + 4) yX10_talk cX10_talk 4 (some .int) [.ref (ad 20 0), .ref (ad 21 q), .ref (ae 30)] σ (fun rv σ' => rv = some (.int 0) ∧ (((¬ ∃ r, n_V r ∧ y = nI r ∧ m_al M r) ∧ RepC (m_l M 0 q (t ++ [-1])) σ') ∨ (∃ r, n_V r ∧ y = nI r ∧ m_al M r ∧ ((8 ≤ (M.2 2 (2 * r)).length ∧ RepC (m_l M 0 q (t ++ [-2])) σ') ∨ ((M.2 2 (2 * r)).length < 8 ∧ RepC (m_l (m_del (m_l M 0 q t) r x (nI q)) 0 q (t ++ [0])) σ'))))) := by
  have hlen : t.length < 40 := by
    have h1 := hM.stk hq
    rw [hl] at h1
    simp at h1
    omega
  refine n_ofW (by decide) (Nat.le_of_ble_eq_true rfl) ?_
  intro p e s m below meth c hC
  have hd : cw_dom 21 q := hq
  refine e_gm hC hX wfX10_192 dX10_talk_0 ?_
  refine n_aload_n hC dX10_talk_3 rfl rfl ?_
  refine e_ord hC hX (by omega) (Nat.le_of_ble_eq_true rfl) dX10_talk_4 ?_
  refine e_sw hC hX (by decide) (v := 21) rfl dX10_talk_7 ?_
  refine n_tableIn (off := 28) (tgt := 36) hC dX10_talk_8 (by decide) (by decide) (by decide) (by decide) ?_
  refine n_aload_n hC dX10_talk_36 rfl rfl ?_
  refine g20_desk hC (by first | exact rfl | with_reducible assumption) wfX10_15 dX10_talk_37 ?_
  refine n_aload_n hC dX10_talk_40 rfl rfl ?_
  refine n_callV hC (c_pop (d + 3) q y (t ++ [x]) M σ hM hq hl) (Nat.le_refl _) (by decide) (by first | exact rfl | with_reducible assumption) rfl rfl rfl ⟨wmX10_57, wi_yX9_pop, wv_yX9_pop, wzX9, wc_yX9_pop⟩ hy_yX9_pop rfl (Nat.le_of_ble_eq_true rfl) dX10_talk_41 (fun rv σ' hpo => ?_)
  obtain ⟨rfl, h1⟩ := hpo
  refine n_callV hC (c_find (d + 3) y _) (Nat.le_refl _) (by decide) (by first | exact rfl | with_reducible assumption) rfl rfl rfl ⟨wmX10_228, wi_yX2_find, wv_yX2_find, wzX2, wc_yX2_find⟩ hy_yX2_find rfl (Nat.le_of_ble_eq_true rfl) dX10_talk_44 (fun rv σ' hpo => ?_)
  obtain ⟨hpo, rfl⟩ := hpo
  rcases hpo with ⟨r, hr, rfl, rfl⟩ | ⟨hx, rfl⟩
  · first | refine n_astore_n hC dX10_talk_47 rfl (Nat.le_of_ble_eq_true rfl) ?_ | refine n_astore_nN hC dX10_talk_47 rfl (Nat.le_of_ble_eq_true rfl) ?_
    refine n_aload_n hC dX10_talk_48 rfl rfl ?_
    refine n_aload_n hC dX10_talk_49 rfl rfl ?_
    refine n_aload_n hC dX10_talk_50 rfl rfl ?_
    refine n_aload_n hC dX10_talk_51 rfl rfl ?_
    refine n_callV hC (c_pp (d + 3) q x t M _ hq h1) (Nat.le_refl _) (by decide) (by first | exact rfl | with_reducible assumption) rfl rfl rfl ⟨wmX10_57, wi_yX9_pop, wv_yX9_pop, wzX9, wc_yX9_pop⟩ hy_yX9_pop rfl (Nat.le_of_ble_eq_true rfl) dX10_talk_52 (fun rv σ' hpo => ?_)
    obtain ⟨rfl, h2⟩ := hpo
    refine n_aload_n hC dX10_talk_55 rfl rfl ?_
    refine n_callV hC (c_send1 d q r x _ _ hq hr h2 (IR_l hI (by omega))) (Nat.le_refl _) (by decide) (by first | exact rfl | with_reducible assumption) rfl rfl rfl ⟨wmX10_246, wi_yX10_send, wv_yX10_send, wzX10, wc_yX10_send⟩ hy_yX10_send rfl (Nat.le_of_ble_eq_true rfl) dX10_talk_56 (fun rv σ' hpo => ?_)
    rcases hpo with ⟨ha, rfl, h3⟩ | ⟨ha, h8, rfl, h3⟩ | ⟨ha, h8, rfl, h3⟩
    · refine n_callV hC (c_ps (d + 3) q (-1) t M _ hq h3 hlen) (Nat.le_refl _) (by decide) (by first | exact rfl | with_reducible assumption) rfl rfl rfl ⟨wmX10_159, wi_yX9_push, wv_yX9_push, wzX9, wc_yX9_push⟩ hy_yX9_push rfl (Nat.le_of_ble_eq_true rfl) dX10_talk_59 (fun rv σ' hpo => ?_)
      obtain ⟨rfl, h4⟩ := hpo
      refine n_iconst (v := 0) hC dX10_talk_62 (by decide) ?_
      refine n_iret hC dX10_talk_63 ?_
      refine ⟨rfl, Or.inl ⟨fun z => ?_, h4⟩⟩
      obtain ⟨r2, hr2, e2, g1⟩ := z
      have := nV_inj hr hr2 e2
      subst this
      exact ha g1
    · refine n_callV hC (c_ps (d + 3) q (-2) t M _ hq h3 hlen) (Nat.le_refl _) (by decide) (by first | exact rfl | with_reducible assumption) rfl rfl rfl ⟨wmX10_159, wi_yX9_push, wv_yX9_push, wzX9, wc_yX9_push⟩ hy_yX9_push rfl (Nat.le_of_ble_eq_true rfl) dX10_talk_59 (fun rv σ' hpo => ?_)
      obtain ⟨rfl, h4⟩ := hpo
      refine n_iconst (v := 0) hC dX10_talk_62 (by decide) ?_
      refine n_iret hC dX10_talk_63 ?_
      rw [ml_n (by omega)] at h8
      exact ⟨rfl, Or.inr ⟨r, hr, rfl, ha, Or.inl ⟨h8, h4⟩⟩⟩
    · have e1 : (m_del (m_l M 0 q t) r x (nI q)).2 0 q = t := by rw [m_del_l (by omega), ml_e]
      refine n_callV hC (c_push (d + 3) q 0 _ _ h3 hq (by rw [e1]; exact hlen)) (Nat.le_refl _) (by decide) (by first | exact rfl | with_reducible assumption) rfl rfl rfl ⟨wmX10_159, wi_yX9_push, wv_yX9_push, wzX9, wc_yX9_push⟩ hy_yX9_push rfl (Nat.le_of_ble_eq_true rfl) dX10_talk_59 (fun rv σ' hpo => ?_)
      obtain ⟨rfl, h4⟩ := hpo
      rw [e1] at h4
      refine n_iconst (v := 0) hC dX10_talk_62 (by decide) ?_
      refine n_iret hC dX10_talk_63 ?_
      rw [ml_n (by omega)] at h8
      exact ⟨rfl, Or.inr ⟨r, hr, rfl, ha, Or.inr ⟨h8, h4⟩⟩⟩
  · first | refine n_astore_n hC dX10_talk_47 rfl (Nat.le_of_ble_eq_true rfl) ?_ | refine n_astore_nN hC dX10_talk_47 rfl (Nat.le_of_ble_eq_true rfl) ?_
    refine n_aload_n hC dX10_talk_48 rfl rfl ?_
    refine n_aload_n hC dX10_talk_49 rfl rfl ?_
    refine n_aload_n hC dX10_talk_50 rfl rfl ?_
    refine n_aload_n hC dX10_talk_51 rfl rfl ?_
    refine n_callV hC (c_pp (d + 3) q x t M _ hq h1) (Nat.le_refl _) (by decide) (by first | exact rfl | with_reducible assumption) rfl rfl rfl ⟨wmX10_57, wi_yX9_pop, wv_yX9_pop, wzX9, wc_yX9_pop⟩ hy_yX9_pop rfl (Nat.le_of_ble_eq_true rfl) dX10_talk_52 (fun rv σ' hpo => ?_)
    obtain ⟨rfl, h2⟩ := hpo
    refine n_aload_nN hC dX10_talk_55 rfl rfl ?_
    refine n_callV hC (c_send0 (d + 3) q x _ _ h2) (Nat.le_refl _) (by decide) (by first | exact rfl | with_reducible assumption) rfl rfl rfl ⟨wmX10_246, wi_yX10_send, wv_yX10_send, wzX10, wc_yX10_send⟩ hy_yX10_send rfl (Nat.le_of_ble_eq_true rfl) dX10_talk_56 (fun rv σ' hpo => ?_)
    obtain ⟨rfl, h3⟩ := hpo
    refine n_callV hC (c_ps (d + 3) q (-1) t M _ hq h3 hlen) (Nat.le_refl _) (by decide) (by first | exact rfl | with_reducible assumption) rfl rfl rfl ⟨wmX10_159, wi_yX9_push, wv_yX9_push, wzX9, wc_yX9_push⟩ hy_yX9_push rfl (Nat.le_of_ble_eq_true rfl) dX10_talk_59 (fun rv σ' hpo => ?_)
    obtain ⟨rfl, h4⟩ := hpo
    refine n_iconst (v := 0) hC dX10_talk_62 (by decide) ?_
    refine n_iret hC dX10_talk_63 ?_
    refine ⟨rfl, Or.inl ⟨fun z => ?_, h4⟩⟩
    obtain ⟨r2, ⟨b1, b2⟩, e2, -⟩ := z
    refine hx ?_
    rw [e2]
    exact ⟨nI_le (a := 1) (by omega) (by omega), nI_le (b := 12) (by omega) (by omega)⟩
theorem c_trecv (hX : ∀ U H, Ex U H → cE ad ae ts U H) (d q : Nat) (x y : Int32) (bs ws : List Int32) (M : n_M) (σ : n_S) (hq : 1 ≤ q ∧ q ≤ 12) (hM : RepC M σ) (h2 : M.2 2 (2 * q) = x :: bs) (h3 : M.2 3 (2 * q) = y :: ws) (hl : (M.2 0 q).length + 2 ≤ 40) : n_Ct l (cw D ca ad ae Ex) (d + 2) yX10_talk cX10_talk 4 (some .int) [.ref (ad 20 0), .ref (ad 21 q), .ref (ae 31)] σ (fun rv σ' => rv = some (.int 0) ∧ RepC (m_l (m_l (m_l M 0 q (M.2 0 q ++ [x] ++ [y])) 2 (2 * q) bs) 3 (2 * q) ws) σ') := by
  have hj : 2 ≤ 2 * q ∧ 2 * q ≤ 25 := by omega
  refine n_ofW (by decide) (Nat.le_of_ble_eq_true rfl) ?_
  intro p e s m below meth c hC
  have hd : cw_dom 21 q := hq
  have hb : cw_dom 24 (2 * q) := hj
  have hb2 : cw_dom 26 (2 * q) := hj
  have hb3 : cw_dom 27 (2 * q) := hj
  have e1 : σ 26 (2 * q) 0 = x := by
    have h9 := (hM.2 2 (2 * q) hj).2.2 0
    rw [h2] at h9
    exact h9 (by simp)
  refine e_gm hC hX wfX10_192 dX10_talk_0 ?_
  refine n_aload_n hC dX10_talk_3 rfl rfl ?_
  refine e_ord hC hX (by omega) (Nat.le_of_ble_eq_true rfl) dX10_talk_4 ?_
  refine e_sw hC hX (by decide) (v := 22) rfl dX10_talk_7 ?_
  refine n_tableIn (off := 56) (tgt := 64) hC dX10_talk_8 (by decide) (by decide) (by decide) (by decide) ?_
  refine n_aload_n hC dX10_talk_64 rfl rfl ?_
  refine n_aload_n hC dX10_talk_65 rfl rfl ?_
  refine g21_box hC (by first | exact rfl | with_reducible assumption) wfX10_92 dX10_talk_66 ?_
  refine g24_numbers hC (by first | exact rfl | with_reducible assumption) wfX10_249 dX10_talk_69 ?_
  refine n_iconst (v := 0) hC dX10_talk_72 (by decide) ?_
  refine c_iald hC hb2 (fun _ => rfl) (vp_in_nI (n := 0) (by decide) (by decide)) dX10_talk_73 ?_
  rw [show σ 26 (2 * q) (0 : Int32).toNatClampNeg = x from e1]
  refine n_callV hC (c_push (d + 1) q x M σ hM hq (by omega)) (Nat.le_refl _) (by decide) (by first | exact rfl | with_reducible assumption) rfl rfl rfl ⟨wmX10_159, wi_yX9_push, wv_yX9_push, wzX9, wc_yX9_push⟩ hy_yX9_push rfl (Nat.le_of_ble_eq_true rfl) dX10_talk_74 (fun rv σ' hpo => ?_)
  obtain ⟨rfl, h4⟩ := hpo
  have e2 : σ' 27 (2 * q) 0 = y := by
    have h9 := (h4.2 3 (2 * q) hj).2.2 0
    rw [ml_n (by omega), h3] at h9
    exact h9 (by simp)
  refine n_aload_n hC dX10_talk_77 rfl rfl ?_
  refine n_aload_n hC dX10_talk_78 rfl rfl ?_
  refine g21_box hC (by first | exact rfl | with_reducible assumption) wfX10_92 dX10_talk_79 ?_
  refine g24_senders hC (by first | exact rfl | with_reducible assumption) wfX10_252 dX10_talk_82 ?_
  refine n_iconst (v := 0) hC dX10_talk_85 (by decide) ?_
  refine c_iald hC hb3 (fun _ => rfl) (vp_in_nI (n := 0) (by decide) (by decide)) dX10_talk_86 ?_
  rw [show σ' 27 (2 * q) (0 : Int32).toNatClampNeg = y from e2]
  refine n_callV hC (c_ps (d + 1) q y (M.2 0 q ++ [x]) M _ hq h4 (by simp; omega)) (Nat.le_refl _) (by decide) (by first | exact rfl | with_reducible assumption) rfl rfl rfl ⟨wmX10_159, wi_yX9_push, wv_yX9_push, wzX9, wc_yX9_push⟩ hy_yX9_push rfl (Nat.le_of_ble_eq_true rfl) dX10_talk_87 (fun rv σ' hpo => ?_)
  obtain ⟨rfl, h5⟩ := hpo
  refine n_aload_n hC dX10_talk_90 rfl rfl ?_
  refine g21_box hC (by first | exact rfl | with_reducible assumption) wfX10_92 dX10_talk_91 ?_
  refine n_callV hC (c_bdrop (d + 1) (2 * q) _ _ h5 hj) (Nat.le_refl _) (by decide) (by first | exact rfl | with_reducible assumption) rfl rfl rfl ⟨wmX10_255, wi_yX1_dropFirst, wv_yX1_dropFirst, wzX1, wc_yX1_dropFirst⟩ hy_yX1_dropFirst rfl (Nat.le_of_ble_eq_true rfl) dX10_talk_94 (fun rv σ' hpo => ?_)
  obtain ⟨rfl, h6⟩ := hpo
  rw [ml_n (by omega), ml_n (by omega), h2, h3] at h6
  refine n_iconst (v := 0) hC dX10_talk_97 (by decide) ?_
  refine n_iret hC dX10_talk_98 ?_
  exact ⟨rfl, h6⟩
theorem c_temit (hX : ∀ U H, Ex U H → cE ad ae ts U H) (d q : Nat) (x : Int32) (t : List Int32) (M : n_M) (σ : n_S) (hq : 1 ≤ q ∧ q ≤ 12) (hM : RepC M σ) (hl : M.2 0 q = t ++ [x]) : n_Ct l (cw D ca ad ae Ex) (d + 1) yX10_talk cX10_talk 4 (some .int) [.ref (ad 20 0), .ref (ad 21 q), .ref (ae 32)] σ (fun rv σ' => rv = some (.int 0) ∧ RepC (m_show (m_l M 0 q t) x) σ') := by
  refine n_ofW (by decide) (Nat.le_of_ble_eq_true rfl) ?_
  intro p e s m below meth c hC
  have hd : cw_dom 21 q := hq
  refine e_gm hC hX wfX10_192 dX10_talk_0 ?_
  refine n_aload_n hC dX10_talk_3 rfl rfl ?_
  refine e_ord hC hX (by omega) (Nat.le_of_ble_eq_true rfl) dX10_talk_4 ?_
  refine e_sw hC hX (by decide) (v := 23) rfl dX10_talk_7 ?_
  refine n_tableIn (off := 91) (tgt := 99) hC dX10_talk_8 (by decide) (by decide) (by decide) (by decide) ?_
  refine n_aload_n hC dX10_talk_99 rfl rfl ?_
  refine g20_desk hC (by first | exact rfl | with_reducible assumption) wfX10_15 dX10_talk_100 ?_
  refine n_aload_n hC dX10_talk_103 rfl rfl ?_
  refine n_callV hC (c_pop d q x t M σ hM hq hl) (Nat.le_refl _) (by decide) (by first | exact rfl | with_reducible assumption) rfl rfl rfl ⟨wmX10_57, wi_yX9_pop, wv_yX9_pop, wzX9, wc_yX9_pop⟩ hy_yX9_pop rfl (Nat.le_of_ble_eq_true rfl) dX10_talk_104 (fun rv σ' hpo => ?_)
  obtain ⟨rfl, h1⟩ := hpo
  refine n_callV hC (c_show d x _ _ h1) (Nat.le_refl _) (by decide) (by first | exact rfl | with_reducible assumption) rfl rfl rfl ⟨wmX10_258, wi_yX2_show, wv_yX2_show, wzX2, wc_yX2_show⟩ hy_yX2_show rfl (Nat.le_of_ble_eq_true rfl) dX10_talk_107 (fun rv σ' hpo => ?_)
  obtain ⟨rfl, h2⟩ := hpo
  refine n_iconst (v := 0) hC dX10_talk_110 (by decide) ?_
  refine n_iret hC dX10_talk_111 ?_
  exact ⟨rfl, h2⟩
theorem c_tkey (hX : ∀ U H, Ex U H → cE ad ae ts U H) (d q : Nat) (x : Int32) (bs : List Int32) (M : n_M) (σ : n_S) (hq : 1 ≤ q ∧ q ≤ 12) (hM : RepC M σ) (h2 : M.2 2 (2 * q + 1) = x :: bs) (hl : (M.2 0 q).length < 40) : n_Ct l (cw D ca ad ae Ex) (d + 2) yX10_talk cX10_talk 4 (some .int) [.ref (ad 20 0), .ref (ad 21 q), .ref (ae 33)] σ (fun rv σ' => rv = some (.int 0) ∧ RepC (m_l (m_l (m_l M 0 q (M.2 0 q ++ [x])) 2 (2 * q + 1) bs) 3 (2 * q + 1) (M.2 3 (2 * q + 1)).tail) σ') := by
  have hj : 2 ≤ 2 * q + 1 ∧ 2 * q + 1 ≤ 25 := by omega
  refine n_ofW (by decide) (Nat.le_of_ble_eq_true rfl) ?_
  intro p e s m below meth c hC
  have hd : cw_dom 21 q := hq
  have hb : cw_dom 24 (2 * q + 1) := hj
  have hb2 : cw_dom 26 (2 * q + 1) := hj
  have e1 : σ 26 (2 * q + 1) 0 = x := by
    have h9 := (hM.2 2 (2 * q + 1) hj).2.2 0
    rw [h2] at h9
    exact h9 (by simp)
  refine e_gm hC hX wfX10_192 dX10_talk_0 ?_
  refine n_aload_n hC dX10_talk_3 rfl rfl ?_
  refine e_ord hC hX (by omega) (Nat.le_of_ble_eq_true rfl) dX10_talk_4 ?_
  refine e_sw hC hX (by decide) (v := 0) rfl dX10_talk_7 ?_
  refine n_tableOut (tgt := 112) hC dX10_talk_8 (by decide) (by decide) ?_
  refine n_aload_n hC dX10_talk_112 rfl rfl ?_
  refine n_aload_n hC dX10_talk_113 rfl rfl ?_
  refine g21_keys hC (by first | exact rfl | with_reducible assumption) wfX10_108 dX10_talk_114 ?_
  refine g24_numbers hC (by first | exact rfl | with_reducible assumption) wfX10_249 dX10_talk_117 ?_
  refine n_iconst (v := 0) hC dX10_talk_120 (by decide) ?_
  refine c_iald hC hb2 (fun _ => rfl) (vp_in_nI (n := 0) (by decide) (by decide)) dX10_talk_121 ?_
  rw [show σ 26 (2 * q + 1) (0 : Int32).toNatClampNeg = x from e1]
  refine n_callV hC (c_push (d + 1) q x M σ hM hq hl) (Nat.le_refl _) (by decide) (by first | exact rfl | with_reducible assumption) rfl rfl rfl ⟨wmX10_159, wi_yX9_push, wv_yX9_push, wzX9, wc_yX9_push⟩ hy_yX9_push rfl (Nat.le_of_ble_eq_true rfl) dX10_talk_122 (fun rv σ' hpo => ?_)
  obtain ⟨rfl, h4⟩ := hpo
  refine n_aload_n hC dX10_talk_125 rfl rfl ?_
  refine g21_keys hC (by first | exact rfl | with_reducible assumption) wfX10_108 dX10_talk_126 ?_
  refine n_callV hC (c_bdrop (d + 1) (2 * q + 1) _ _ h4 hj) (Nat.le_refl _) (by decide) (by first | exact rfl | with_reducible assumption) rfl rfl rfl ⟨wmX10_255, wi_yX1_dropFirst, wv_yX1_dropFirst, wzX1, wc_yX1_dropFirst⟩ hy_yX1_dropFirst rfl (Nat.le_of_ble_eq_true rfl) dX10_talk_129 (fun rv σ' hpo => ?_)
  obtain ⟨rfl, h6⟩ := hpo
  rw [ml_n (by omega), ml_n (by omega), h2] at h6
  refine n_iconst (v := 0) hC dX10_talk_132 (by decide) ?_
  refine n_iret hC dX10_talk_133 ?_
  exact ⟨rfl, h6⟩
end WK4
