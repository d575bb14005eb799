/-- how a word's reading ends -/
def CWd (B : List Int32) (i : Nat) (P : p_P) (a b : Nat) (σ σ' : n_S) : Prop := CF i σ σ' ∧ (∃ L, L ≤ 256 ∧ σ' 28 i 2 = nI L) ∧ ((∃ f, p_stp B P a b = .inl f ∧ σ' 3 0 9 = nI f.1 ∧ σ' 3 0 10 = nI f.2 ∧ 1 ≤ f.1 ∧ f.1 ≤ 7) ∨ (∃ P' b', p_stp B P a b = .inr (P', b') ∧ σ' 3 0 9 = 0 ∧ CL P' σ' ∧ CC i P' σ' ∧ σ' 3 0 8 = nI b'))
theorem p_nl_ne {B : List Int32} {a b : Nat} (h : p_isn B a b) : p_nl B a b ≠ 9000000000 := by
  intro e
  have e1 : (p_nl B a b).toInt = 9000000000 := by rw [e]; rfl
  unfold p_nl at e1
  rcases h.2.2 with ⟨z, q⟩ | ⟨z, q⟩
  · rw [if_pos z, i64_neg (by omega)] at e1
    omega
  · rw [if_neg z, i64_nat (by omega)] at e1
    omega
section CR3
variable {l : Launch} {D : va_G} {ca : Nat → ClassId} {ad : Nat → Nat → Nat} {ae sk sv : Nat → Nat} {ta sf ts : Nat} {Ex : State → Heap → Prop}
theorem c_readWord (hX : ∀ U H, Ex U H → cE ad ae ts U H) (hS : ∀ U H, Ex U H → sX ad ae sk sv ta sf U H) (d i a b : Nat) (B : List Int32) (P : p_P) (σ : n_S) (hi : i < 12) (hB : CT B σ) (hY : BY B) (hok : p_ok B P) (hL : CL P σ) (hP : CC i P σ) (h9 : σ 3 0 9 = 0) (h7 : σ 3 0 7 = nI a) (h8 : σ 3 0 8 = nI b) (hab : a < b) (hb : b ≤ B.length) : n_Ct l (cw D ca ad ae Ex) (d + 8) yX6_readWord cX6_readWord 5 none [.ref (ad 3 0), .ref (ad 28 i)] σ (fun rv σ' => rv = none ∧ CWd B i P a b σ σ') := by
  have hd28 : cw_dom 28 i := hi
  have hlen := hB.2.1
  have s1 := p_skip_le hb
  have s2 := p_wend_le s1.2
  obtain ⟨a1, a2, a3, a4, a5, a6, a7⟩ := id hok
  have flx : ∀ (f : Int32) (pl : Int32), CF i σ (n_up (n_up σ 3 0 9 f) 3 0 10 pl) ∧ (∃ L, L ≤ 256 ∧ n_up (n_up σ 3 0 9 f) 3 0 10 pl 28 i 2 = nI L) ∧ n_up (n_up σ 3 0 9 f) 3 0 10 pl 3 0 9 = f ∧ n_up (n_up σ 3 0 9 f) 3 0 10 pl 3 0 10 = pl := fun f pl => ⟨((CF.refl i σ).up (by unfold q_wr; omega)).up (by unfold q_wr; omega), ⟨P.op.length, a2, by rw [nu_o (by omega), nu_o (by omega), hP.1]⟩, by rw [nu_o (by omega), nu_e], nu_e _ _ _ _ _⟩
  have putF : ∀ (k : Nat) (v : Int32), CF i σ (n_up (n_up (n_up (n_up σ 29 i P.op.length (nI (k + 1))) 30 i P.op.length v) 8 0 P.op.length 0) 28 i 2 (nI (P.op.length + 1))) := fun k v => ((((CF.refl i σ).up (by unfold q_wr; omega)).up (by unfold q_wr; omega)).up (by unfold q_wr; omega)).up (by unfold q_wr; omega)
  -- an instruction without a name is down
  have putC : ∀ (k : Nat) (v : Int32), ¬ p_hn k → CC i (p_put P k v (0, 0)) (n_up (n_up (n_up (n_up σ 29 i P.op.length (nI (k + 1))) 30 i P.op.length v) 8 0 P.op.length 0) 28 i 2 (nI (P.op.length + 1))) := by
    intro k v hn
    refine CC_put hP a3 a4 (nu_e _ _ _ _ _) ?_ ?_ ?_ (fun z => absurd z hn) (fun j hj => ⟨?_, ?_, ?_, ?_⟩)
    · rw [nu_o (by omega), nu_o (by omega), nu_o (by omega), nu_e]
    · rw [nu_o (by omega), nu_o (by omega), nu_e]
    · rw [nu_o (by omega), nu_e]
      rfl
    · rw [nu_o (by omega), nu_o (by omega), nu_o (by omega), nu_o (by omega)]
    · rw [nu_o (by omega), nu_o (by omega), nu_o (by omega), nu_o (by omega)]
    · rw [nu_o (by omega), nu_o (by omega), nu_o (by omega), nu_o (by omega)]
    · rw [nu_o (by omega), nu_o (by omega), nu_o (by omega), nu_o (by omega)]
  refine n_ofW (by decide) (Nat.le_of_ble_eq_true rfl) ?_
  intro p e s m below meth c hC
  refine n_aload_n hC dX6_readWord_0 rfl rfl ?_
  refine n_callV hC (c_numberHere (d + 6) a b B σ hB hab hb h7 h8) (Nat.le_refl _) (by decide) (by first | exact rfl | with_reducible assumption) rfl rfl rfl ⟨wmX6_83, wi_yX6_numberHere, wv_yX6_numberHere, wzX6, wc_yX6_numberHere⟩ hy_yX6_numberHere rfl (Nat.le_of_ble_eq_true rfl) dX6_readWord_1 (fun rv σ' hpo => ?_)
  obtain ⟨hpo, hσ⟩ := hpo
  rw [hσ]
  rcases hpo with ⟨q, rfl⟩ | ⟨q, rfl⟩
  · refine n_lstore_n hC dX6_readWord_4 rfl (Nat.le_of_ble_eq_true rfl) ?_
    refine n_lload_n hC dX6_readWord_5 rfl rfl ?_
    refine n_ldc2 hC wkX6_87 dX6_readWord_6 ?_
    refine n_lcmp hC dX6_readWord_9 ?_
    refine n_if_eq (tgt := 24) hC dX6_readWord_10 (by decide) (fun h => ?_) (fun h => ?_)
    · exact absurd ((lg_cmp_eq _ _).mp h) (p_nl_ne q)
    · clear h
      refine n_aload_n hC dX6_readWord_13 rfl rfl ?_
      refine n_aload_n hC dX6_readWord_14 rfl rfl ?_
      refine e_gs hC hX (k := 0) (by decide) wfX6_89 dX6_readWord_15 ?_
      refine n_lload_n hC dX6_readWord_18 rfl rfl ?_
      refine n_l2i (v := p_nv B a b) hC dX6_readWord_19 rfl ?_
      refine n_callV hC (c_addI hX (d + 6) i a 0 (p_nv B a b) P σ hi (by omega) hP h7 a2) (Nat.le_refl _) (by decide) (by first | exact rfl | with_reducible assumption) rfl rfl rfl ⟨wmX6_95, wi_yX6_addInstruction, wv_yX6_addInstruction, wzX6, wc_yX6_addInstruction⟩ hy_yX6_addInstruction rfl (Nat.le_of_ble_eq_true rfl) dX6_readWord_20 (fun rv σ' hpo => ?_)
      obtain ⟨rfl, hpo⟩ := hpo
      rcases hpo with ⟨hlt, hσ⟩ | ⟨hge, hσ⟩
      · rw [hσ]
        refine n_vret hC dX6_readWord_23 ?_
        refine ⟨rfl, putF 0 _, ⟨P.op.length + 1, by omega, nu_e _ _ _ _ _⟩, Or.inr ⟨_, _, p_stp_num q hlt, ?_, hL.mv rfl (fun κ x u => ?_), putC 0 _ (by decide), ?_⟩⟩
        · rw [nu_o (by omega), nu_o (by omega), nu_o (by omega), nu_o (by omega), h9]
        · rw [nu_o (by omega), nu_o (by omega), nu_o (by omega), nu_o (by omega)]
        · rw [nu_o (by omega), nu_o (by omega), nu_o (by omega), nu_o (by omega), h8]
      · rw [hσ]
        obtain ⟨f1, f2, f3, f4⟩ := flx 5 (nI a)
        refine n_vret hC dX6_readWord_23 ?_
        exact ⟨rfl, f1, f2, Or.inl ⟨_, p_stp_num5 q hge, f3, f4, by omega, by omega⟩⟩
  · refine n_lstore_n hC dX6_readWord_4 rfl (Nat.le_of_ble_eq_true rfl) ?_
    refine n_lload_n hC dX6_readWord_5 rfl rfl ?_
    refine n_ldc2 hC wkX6_87 dX6_readWord_6 ?_
    refine n_lcmp hC dX6_readWord_9 ?_
    refine n_if_eq (tgt := 24) hC dX6_readWord_10 (by decide) (fun h => ?_) (fun h => ?_)
    · clear h
      refine n_aload_n hC dX6_readWord_24 rfl rfl ?_
      refine g3_tape hC (by first | exact rfl | with_reducible assumption) wfX6_27 dX6_readWord_25 ?_
      refine n_aload_n hC dX6_readWord_28 rfl rfl ?_
      refine g3_start hC (by first | exact rfl | with_reducible assumption) wfX6_73 dX6_readWord_29 ?_
      rw [h7]
      refine n_aload_n hC dX6_readWord_32 rfl rfl ?_
      refine g3_stop hC (by first | exact rfl | with_reducible assumption) wfX6_40 dX6_readWord_33 ?_
      rw [h8]
      refine n_callS hC (c_written hS (d + 2) a b B σ hB hY hab hb) (Nat.le_refl _) (by decide) ⟨wmX6_99, ws_yX4_written, wzX4, wc_yX4_written⟩ hy_yX4_written rfl (Nat.le_of_ble_eq_true rfl) dX6_readWord_36 (fun rv σ' hpo => ?_)
      obtain ⟨hpo, hσ⟩ := hpo
      rw [hσ]
      rcases hpo with ⟨k, hk, rfl⟩ | ⟨hk, rfl⟩
      · have hk43 := hk.1
        first | refine n_astore hC dX6_readWord_39 (Nat.le_of_ble_eq_true rfl) ?_ | refine n_astoreN hC dX6_readWord_39 (Nat.le_of_ble_eq_true rfl) ?_
        refine n_aload hC dX6_readWord_41 rfl ?_
        first | refine n_ifnull hC dX6_readWord_43 ?_ | refine n_ifnullN (tgt := 82) hC dX6_readWord_43 (by decide) ?_
        refine n_aload_n hC dX6_readWord_46 rfl rfl ?_
        refine n_aload_n hC dX6_readWord_47 rfl rfl ?_
        refine n_aload hC dX6_readWord_48 rfl ?_
        refine n_iconst (v := 0) hC dX6_readWord_50 (by decide) ?_
        refine n_callV hC (c_addI hX (d + 6) i a k 0 P σ hi hk43 hP h7 a2) (Nat.le_refl _) (by decide) (by first | exact rfl | with_reducible assumption) rfl rfl rfl ⟨wmX6_95, wi_yX6_addInstruction, wv_yX6_addInstruction, wzX6, wc_yX6_addInstruction⟩ hy_yX6_addInstruction rfl (Nat.le_of_ble_eq_true rfl) dX6_readWord_51 (fun rv σ' hpo => ?_)
        obtain ⟨rfl, hpo⟩ := hpo
        rcases hpo with ⟨hlt, hσ⟩ | ⟨hge, hσ⟩
        · rw [hσ]
          have fr := putF k 0
          refine n_aload_n hC dX6_readWord_54 rfl rfl ?_
          refine g3_fault hC (by first | exact rfl | with_reducible assumption) wfX6_43 dX6_readWord_55 ?_
          rw [nu_o (by omega), nu_o (by omega), nu_o (by omega), nu_o (by omega), h9]
          refine n_if_ne (tgt := 137) hC dX6_readWord_58 (by decide) (fun h => ?_) (fun h => ?_)
          · exact absurd rfl h
          · clear h
            refine n_aload hC dX6_readWord_61 rfl ?_
            refine n_callR hC (As := []) (c_hasName hX (d + 7) k hk43 _) (Nat.le_refl _) (by decide) (fun H locs z => va_recvE (hX _ _ hC.2.2.2.2.2.2.2.2.1).1 (show k < cE_nm.length from hk43) z) ⟨wmX6_103, wi_yX4_hasName, wv_yX4_hasName, wzX4, wc_yX4_hasName⟩ hy_yX4_hasName rfl (Nat.le_of_ble_eq_true rfl) dX6_readWord_63 (fun rv σ' hpo => ?_)
            obtain ⟨hpo, hσ⟩ := hpo
            rw [hσ]
            rcases hpo with ⟨hn, rfl⟩ | ⟨hn, rfl⟩
            · refine n_if_eq (tgt := 137) hC dX6_readWord_66 (by decide) (fun h => ?_) (fun h => ?_)
              · exact absurd h (by decide)
              · clear h
                refine n_aload_n hC dX6_readWord_69 rfl rfl ?_
                refine n_aload_n hC dX6_readWord_70 rfl rfl ?_
                refine g28_size hC (by first | exact rfl | with_reducible assumption) wfX6_31 dX6_readWord_71 ?_
                rw [nu_e]
                refine n_iconst (v := 1) hC dX6_readWord_74 (by decide) ?_
                refine n_isub hC dX6_readWord_75 ?_
                rw [nI_m1 (by omega), Nat.add_sub_cancel]
                generalize hσ1 : n_up (n_up (n_up (n_up σ 29 i P.op.length (nI (k + 1))) 30 i P.op.length 0) 8 0 P.op.length 0) 28 i 2 (nI (P.op.length + 1)) = σ1 at *
                have c8 : σ1 3 0 8 = nI b := by rw [← hσ1, nu_o (by omega), nu_o (by omega), nu_o (by omega), nu_o (by omega), h8]
                have c9 : σ1 3 0 9 = 0 := by rw [← hσ1, nu_o (by omega), nu_o (by omega), nu_o (by omega), nu_o (by omega), h9]
                have c28 : σ1 28 i 2 = nI (P.op.length + 1) := by rw [← hσ1, nu_e]
                have c29 : σ1 29 i P.op.length = nI (k + 1) := by rw [← hσ1, nu_o (by omega), nu_o (by omega), nu_o (by omega), nu_e]
                have c30 : σ1 30 i P.op.length = 0 := by rw [← hσ1, nu_o (by omega), nu_o (by omega), nu_e]
                have cj : ∀ j, j < P.op.length → σ1 29 i j = σ 29 i j ∧ σ1 30 i j = σ 30 i j ∧ σ1 8 0 j = σ 8 0 j ∧ σ1 7 0 j = σ 7 0 j := by
                  intro j hj
                  rw [← hσ1]
                  refine ⟨?_, ?_, ?_, ?_⟩ <;> rw [nu_o (by omega), nu_o (by omega), nu_o (by omega), nu_o (by omega)]
                have cL : ∀ κ x, (κ = 4 ∨ κ = 5 ∨ κ = 6 ∨ (κ = 3 ∧ x = 4)) → σ1 κ 0 x = σ κ 0 x := by
                  intro κ x u
                  rw [← hσ1, nu_o (by omega), nu_o (by omega), nu_o (by omega), nu_o (by omega)]
                refine n_callV hC (c_readName hS d P.op.length b B σ1 (hB.cf fr) hY hlt hb c8) (Nat.le_refl _) (by decide) (by first | exact rfl | with_reducible assumption) rfl rfl rfl ⟨wmX6_106, wi_yX6_readName, wv_yX6_readName, wzX6, wc_yX6_readName⟩ hy_yX6_readName rfl (Nat.le_of_ble_eq_true rfl) dX6_readWord_76 (fun rv σ' hpo => ?_)
                obtain ⟨rfl, σ2, g1, g8, hpo⟩ := hpo
                refine n_goto (tgt := 137) hC dX6_readWord_79 (by decide) ?_
                refine n_vret hC dX6_readWord_137 ?_
                rcases hpo with ⟨hnm, hσ⟩ | ⟨hnm, hσ⟩
                · rw [hσ]
                  refine ⟨rfl, (((fr.trans g1.cf).up (by unfold q_wr; omega)).up (by unfold q_wr; omega)), ⟨P.op.length + 1, by omega, by rw [nu_o (by omega), nu_o (by omega), g1 28 i 2 (by omega), c28]⟩, Or.inr ⟨_, _, p_stp_opn hk hlt hn hnm, ?_, hL.mv rfl (fun κ x u => ?_), CC_put hP a3 a4 ?_ ?_ ?_ (nu_e _ _ _ _ _) (fun _ => ?_) (fun j hj => ?_), ?_⟩⟩
                  · rw [nu_o (by omega), nu_o (by omega), g1 3 0 9 (by omega), c9]
                  · rw [nu_o (by omega), nu_o (by omega), g1 κ 0 x (by omega), cL κ x u]
                  · rw [nu_o (by omega), nu_o (by omega), g1 28 i 2 (by omega), c28]
                  · rw [nu_o (by omega), nu_o (by omega), g1 29 i _ (by omega), c29]
                  · rw [nu_o (by omega), nu_o (by omega), g1 30 i _ (by omega), c30]
                  · rw [nu_o (by omega), nu_e]
                  · obtain ⟨u1, u2, u3, u4⟩ := cj j hj
                    refine ⟨?_, ?_, ?_, ?_⟩
                    · rw [nu_o (by omega), nu_o (by omega), g1 29 i _ (by omega), u1]
                    · rw [nu_o (by omega), nu_o (by omega), g1 30 i _ (by omega), u2]
                    · rw [nu_o (by omega), nu_o (by omega), g1 8 0 _ (by omega), u3]
                    · rw [nu_o (by omega), nu_o (by omega), g1 7 0 _ (by omega), u4]
                  · rw [nu_o (by omega), nu_o (by omega), g8]
                · rw [hσ]
                  refine ⟨rfl, (((fr.trans g1.cf).up (by unfold q_wr; omega)).up (by unfold q_wr; omega)), ⟨P.op.length + 1, by omega, by rw [nu_o (by omega), nu_o (by omega), g1 28 i 2 (by omega), c28]⟩, Or.inl ⟨_, p_stp_op2 hk hlt hn hnm, ?_, nu_e _ _ _ _ _, by omega, by omega⟩⟩
                  rw [nu_o (by omega), nu_e]
                  rfl
            · refine n_if_eq (tgt := 137) hC dX6_readWord_66 (by decide) (fun h => ?_) (fun h => ?_)
              · refine n_vret hC dX6_readWord_137 ?_
                refine ⟨rfl, fr, ⟨P.op.length + 1, by omega, nu_e _ _ _ _ _⟩, Or.inr ⟨_, _, p_stp_op hk hlt hn, ?_, hL.mv rfl (fun κ x u => ?_), putC k 0 hn, ?_⟩⟩
                · rw [nu_o (by omega), nu_o (by omega), nu_o (by omega), nu_o (by omega), h9]
                · rw [nu_o (by omega), nu_o (by omega), nu_o (by omega), nu_o (by omega)]
                · rw [nu_o (by omega), nu_o (by omega), nu_o (by omega), nu_o (by omega), h8]
              · exact absurd rfl h
        · rw [hσ]
          obtain ⟨f1, f2, f3, f4⟩ := flx 5 (nI a)
          refine n_aload_n hC dX6_readWord_54 rfl rfl ?_
          refine g3_fault hC (by first | exact rfl | with_reducible assumption) wfX6_43 dX6_readWord_55 ?_
          rw [f3]
          refine n_if_ne (tgt := 137) hC dX6_readWord_58 (by decide) (fun h => ?_) (fun h => ?_)
          · refine n_vret hC dX6_readWord_137 ?_
            exact ⟨rfl, f1, f2, Or.inl ⟨_, p_stp_op5 hk hge, f3, f4, by omega, by omega⟩⟩
          · exact absurd h (by decide)
      · have bad : ¬ (b_at B (b - 1) = 58 ∧ p_nm B a (b - 1 - a)) → n_W p l e s m [Value.ref (ad 3 0), Value.ref (ad 28 i)].toArray below meth c (cw D ca ad ae Ex) (d + 8) (fun rv σ' => rv = none ∧ CWd B i P a b σ σ') 128 [some (.ref (ad 3 0)), some (.ref (ad 28 i)), some (.long 9000000000), none, some .null] [] σ := by
          intro hno
          refine n_aload_n hC dX6_readWord_128 rfl rfl ?_
          refine n_iconst (v := 1) hC dX6_readWord_129 (by decide) ?_
          refine n_aload_n hC dX6_readWord_130 rfl rfl ?_
          refine g3_start hC (by first | exact rfl | with_reducible assumption) wfX6_73 dX6_readWord_131 ?_
          rw [h7]
          refine n_callV hC (c_blame (d + 7) 1 (nI a) σ) (Nat.le_refl _) (by decide) (by first | exact rfl | with_reducible assumption) rfl rfl rfl ⟨wmX6_65, wi_yX6_blame, wv_yX6_blame, wzX6, wc_yX6_blame⟩ hy_yX6_blame rfl (Nat.le_of_ble_eq_true rfl) dX6_readWord_134 (fun rv σ' hpo => ?_)
          obtain ⟨rfl, hσ⟩ := hpo
          rw [hσ]
          obtain ⟨f1, f2, f3, f4⟩ := flx 1 (nI a)
          refine n_vret hC dX6_readWord_137 ?_
          exact ⟨rfl, f1, f2, Or.inl ⟨_, p_stp_1 q hk hno, f3, f4, by omega, by omega⟩⟩
        first | refine n_astore hC dX6_readWord_39 (Nat.le_of_ble_eq_true rfl) ?_ | refine n_astoreN hC dX6_readWord_39 (Nat.le_of_ble_eq_true rfl) ?_
        refine n_aloadN hC dX6_readWord_41 rfl ?_
        first | refine n_ifnull hC dX6_readWord_43 ?_ | refine n_ifnullN (tgt := 82) hC dX6_readWord_43 (by decide) ?_
        refine n_aload_n hC dX6_readWord_82 rfl rfl ?_
        refine g3_tape hC (by first | exact rfl | with_reducible assumption) wfX6_27 dX6_readWord_83 ?_
        refine n_aload_n hC dX6_readWord_86 rfl rfl ?_
        refine g3_stop hC (by first | exact rfl | with_reducible assumption) wfX6_40 dX6_readWord_87 ?_
        rw [h8]
        refine n_iconst (v := 1) hC dX6_readWord_90 (by decide) ?_
        refine n_isub hC dX6_readWord_91 ?_
        rw [nI_m1 (by omega)]
        refine n_callV hC (c_at (d + 7) (b - 1) B σ hB (by omega)) (Nat.le_refl _) (by decide) (by first | exact rfl | with_reducible assumption) rfl rfl rfl ⟨wmX6_76, wi_yX8_at, wv_yX8_at, wzX8, wc_yX8_at⟩ hy_yX8_at rfl (Nat.le_of_ble_eq_true rfl) dX6_readWord_92 (fun rv σ' hpo => ?_)
        obtain ⟨rfl, hσ⟩ := hpo
        rw [hσ]
        refine n_bipush (v := 58) hC dX6_readWord_95 (by decide) ?_
        refine n_icmp_ne (tgt := 128) hC dX6_readWord_97 (by decide) (fun h => ?_) (fun h => ?_)
        · exact bad (fun z => h z.1)
        · have hcol := h
          clear h
          refine n_aload_n hC dX6_readWord_100 rfl rfl ?_
          refine n_aload_n hC dX6_readWord_101 rfl rfl ?_
          refine g3_start hC (by first | exact rfl | with_reducible assumption) wfX6_73 dX6_readWord_102 ?_
          rw [h7]
          refine n_aload_n hC dX6_readWord_105 rfl rfl ?_
          refine g3_stop hC (by first | exact rfl | with_reducible assumption) wfX6_40 dX6_readWord_106 ?_
          rw [h8]
          refine n_iconst (v := 1) hC dX6_readWord_109 (by decide) ?_
          refine n_isub hC dX6_readWord_110 ?_
          rw [nI_m1 (by omega)]
          refine n_callV hC (c6_isName hS (d + 1) a (b - 1) B σ hB hY (by omega) (by omega)) (Nat.le_refl _) (by decide) (by first | exact rfl | with_reducible assumption) rfl rfl rfl ⟨wmX6_110, wi_yX6_isName, wv_yX6_isName, wzX6, wc_yX6_isName⟩ hy_yX6_isName rfl (Nat.le_of_ble_eq_true rfl) dX6_readWord_111 (fun rv σ' hpo => ?_)
          obtain ⟨hpo, hσ⟩ := hpo
          rw [hσ]
          rcases hpo with ⟨q2, rfl⟩ | ⟨q2, rfl⟩
          · refine n_if_eq (tgt := 128) hC dX6_readWord_114 (by decide) (fun h => ?_) (fun h => ?_)
            · exact absurd h (by decide)
            · clear h
              refine n_aload_n hC dX6_readWord_117 rfl rfl ?_
              refine n_aload_n hC dX6_readWord_118 rfl rfl ?_
              refine g28_size hC (by first | exact rfl | with_reducible assumption) wfX6_31 dX6_readWord_119 ?_
              rw [hP.1]
              refine n_callV hC (c_addLabel (d + 4) i a b B P σ hB hok hL hP h9 h7 h8 hab hb) (Nat.le_refl _) (by decide) (by first | exact rfl | with_reducible assumption) rfl rfl rfl ⟨wmX6_114, wi_yX6_addLabel, wv_yX6_addLabel, wzX6, wc_yX6_addLabel⟩ hy_yX6_addLabel rfl (Nat.le_of_ble_eq_true rfl) dX6_readWord_122 (fun rv σ' hpo => ?_)
              obtain ⟨rfl, f1, f8, f28, hpo⟩ := hpo
              refine n_goto (tgt := 137) hC dX6_readWord_125 (by decide) ?_
              refine n_vret hC dX6_readWord_137 ?_
              refine ⟨rfl, f1, ⟨_, a2, f28⟩, ?_⟩
              rcases hpo with ⟨q3, f3, f4⟩ | ⟨q3, q4, f3, f4⟩ | ⟨q3, q4, f3, f4, f5⟩
              · exact Or.inl ⟨_, p_stp_3 q hk ⟨hcol, q2⟩ q3, f3, f4, by omega, by omega⟩
              · exact Or.inl ⟨_, p_stp_4 q hk ⟨hcol, q2⟩ q3 q4, f3, f4, by omega, by omega⟩
              · exact Or.inr ⟨_, _, p_stp_lab q hk ⟨hcol, q2⟩ q3 q4, f3, f4, f5, f8⟩
          · refine n_if_eq (tgt := 128) hC dX6_readWord_114 (by decide) (fun h => ?_) (fun h => ?_)
            · exact bad (fun z => q2 z.2)
            · exact absurd rfl h
    · exact absurd ((lg_cmp_eq _ _).mpr rfl) h
end CR3
