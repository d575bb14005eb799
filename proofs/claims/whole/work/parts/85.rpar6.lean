theorem r_op_hn : ∀ k, k < 43 → (p_hn k ↔ 39 ≤ r_op (k + 1)) := by decide +kernel
theorem r_op_l3 : ∀ k, k < 43 → r_op (k + 1) < 43 := by decide +kernel
section PST
variable {B : List Int32} {P : p_P} {a b k : Nat}
theorem p_stp_num (h : p_isn B a b) (hl : P.op.length < 256) : p_stp B P a b = .inr (p_put P 0 (p_nv B a b) (0, 0), b) := by
  unfold p_stp
  rw [if_pos h, if_pos hl]
theorem p_stp_num5 (h : p_isn B a b) (hl : ¬ P.op.length < 256) : p_stp B P a b = .inl (5, a) := by
  unfold p_stp
  rw [if_pos h, if_neg hl]
theorem p_stp_op5 (hk : p_opc B a (b - a) k) (hl : ¬ P.op.length < 256) : p_stp B P a b = .inl (5, a) := by
  unfold p_stp
  rw [if_neg (fun z => p_ex1 z ⟨k, hk⟩), p_op_of hk, if_pos (by have := hk.2.1; omega), if_neg hl]
theorem p_stp_op (hk : p_opc B a (b - a) k) (hl : P.op.length < 256) (hn : ¬ p_hn k) : p_stp B P a b = .inr (p_put P k 0 (0, 0), b) := by
  unfold p_stp
  rw [if_neg (fun z => p_ex1 z ⟨k, hk⟩), p_op_of hk, if_pos (by have := hk.2.1; omega), if_pos hl, if_neg hn]
theorem p_stp_opn (hk : p_opc B a (b - a) k) (hl : P.op.length < 256) (hn : p_hn k) (h : p_nm B (p_skip B b) (p_wend B (p_skip B b) - p_skip B b)) : p_stp B P a b = .inr (p_put P k 0 (p_skip B b, p_wend B (p_skip B b) - p_skip B b), p_wend B (p_skip B b)) := by
  unfold p_stp
  rw [if_neg (fun z => p_ex1 z ⟨k, hk⟩), p_op_of hk, if_pos (by have := hk.2.1; omega), if_pos hl, if_pos hn, if_pos h]
theorem p_stp_op2 (hk : p_opc B a (b - a) k) (hl : P.op.length < 256) (hn : p_hn k) (h : ¬ p_nm B (p_skip B b) (p_wend B (p_skip B b) - p_skip B b)) : p_stp B P a b = .inl (2, p_skip B b) := by
  unfold p_stp
  rw [if_neg (fun z => p_ex1 z ⟨k, hk⟩), p_op_of hk, if_pos (by have := hk.2.1; omega), if_pos hl, if_pos hn, if_neg h]
theorem p_stp_1 (hi : ¬ p_isn B a b) (hk : ¬ ∃ k, p_opc B a (b - a) k) (h : ¬ (b_at B (b - 1) = 58 ∧ p_nm B a (b - 1 - a))) : p_stp B P a b = .inl (1, a) := by
  unfold p_stp
  rw [if_neg hi, p_op_no hk, if_neg (fun z => z rfl), if_neg h]
theorem p_stp_3 (hi : ¬ p_isn B a b) (hk : ¬ ∃ k, p_opc B a (b - a) k) (h : b_at B (b - 1) = 58 ∧ p_nm B a (b - 1 - a)) (h3 : p_lkf B P.lab a (b - 1 - a) ≠ none) : p_stp B P a b = .inl (3, a) := by
  unfold p_stp
  rw [if_neg hi, p_op_no hk, if_neg (fun z => z rfl), if_pos h, if_pos h3]
theorem p_stp_4 (hi : ¬ p_isn B a b) (hk : ¬ ∃ k, p_opc B a (b - a) k) (h : b_at B (b - 1) = 58 ∧ p_nm B a (b - 1 - a)) (h3 : p_lkf B P.lab a (b - 1 - a) = none) (h4 : ¬ P.lab.length < 32) : p_stp B P a b = .inl (4, a) := by
  unfold p_stp
  rw [if_neg hi, p_op_no hk, if_neg (fun z => z rfl), if_pos h, if_neg (fun z => z h3), if_neg h4]
theorem p_stp_lab (hi : ¬ p_isn B a b) (hk : ¬ ∃ k, p_opc B a (b - a) k) (h : b_at B (b - 1) = 58 ∧ p_nm B a (b - 1 - a)) (h3 : p_lkf B P.lab a (b - 1 - a) = none) (h4 : P.lab.length < 32) : p_stp B P a b = .inr ((P.lab ++ [(a, b - 1 - a, P.op.length)], P.op, P.nu, P.na), b) := by
  unfold p_stp
  rw [if_neg hi, p_op_no hk, if_neg (fun z => z rfl), if_pos h, if_neg (fun z => z h3), if_pos h4]
end PST
section RP6
variable {l : Launch} {D : va_G} {ca : Nat → ClassId} {ad : Nat → Nat → Nat} {Ex : State → Heap → Prop}
/-- how a word's reading ends -/
def XW (B : List Int32) (i : Nat) (P : p_P) (a b : Nat) (τ τ' : n_S) : Prop := XF i τ τ' ∧ ((∃ f w, p_stp B P a b = .inl f ∧ τ' 0 0 5 = nI f.1 ∧ τ' 0 0 6 = nI f.2 ∧ 1 ≤ f.1 ∧ f.1 ≤ 7 ∧ f.2 ≤ B.length ∧ w ≤ B.length ∧ τ' 0 0 18 = nI w) ∨ (∃ P' b', p_stp B P a b = .inr (P', b') ∧ τ' 0 0 5 = 0 ∧ XL P' τ' ∧ XC i P' τ' ∧ τ' 0 0 18 = nI b'))
theorem x_readWord (d i a b : Nat) (B : List Int32) (P : p_P) (τ : n_S) (hi : i < 12) (hB : TB B τ) (hok : p_ok B P) (hL : XL P τ) (hX : XC i P τ) (h5 : τ 0 0 5 = 0) (ha : τ 0 0 17 = nI a) (hw : τ 0 0 18 = nI b) (hab : a < b) (hb : b ≤ B.length) : n_Ct l (rw D ca ad Ex) (d + 4) yX12_readWord cX12_readWord 3 none [.ref (ad 0 0), .int (nI i)] τ (fun rv τ' => rv = none ∧ XW B i P a b τ τ') := by
  have hlen := hB.2.1
  have s1 := p_skip_le hb
  have s2 := p_wend_le s1.2
  obtain ⟨a1, a2, a3, a4, a5, a6, a7⟩ := id hok
  have flx : ∀ (f : Int32) (τ1 : n_S) (w : Nat), XF i τ τ1 → τ1 0 0 18 = nI w → XF i τ (n_up (n_up τ1 0 0 5 f) 0 0 6 (nI a)) ∧ n_up (n_up τ1 0 0 5 f) 0 0 6 (nI a) 0 0 18 = nI w ∧ n_up (n_up τ1 0 0 5 f) 0 0 6 (nI a) 0 0 5 = f ∧ n_up (n_up τ1 0 0 5 f) 0 0 6 (nI a) 0 0 6 = nI a := fun f τ1 w hf hw1 => ⟨(hf.up (by unfold p_wr; omega)).up (by unfold p_wr; omega), by rw [n_up_o (by omega), n_up_o (by omega), hw1], by rw [n_up_o (by omega), n_up_e], n_up_e _ _ _ _⟩
  -- an instruction put down
  have putx : ∀ (k : Nat) (v : Int32), k < 43 → P.op.length < 256 → XF i τ (n_up (n_up (n_up τ 8 0 (256 * i + P.op.length) (nI (r_op (k + 1)))) 9 0 (256 * i + P.op.length) v) 10 0 i (nI (P.op.length + 1))) := fun k v hk hl => (((XF.refl i τ).up (by unfold p_wr; omega)).up (by unfold p_wr; omega)).up (by unfold p_wr; omega)
  refine n_ofW (by decide) (Nat.le_of_ble_eq_true rfl) ?_
  intro p e s m below meth c hC
  refine n_aload_n hC dX12_readWord_0 rfl rfl ?_
  refine n_aload_n hC dX12_readWord_1 rfl rfl ?_
  refine gm_wordAt hC wfX12_241 dX12_readWord_2 ?_
  rw [ha]
  refine n_aload_n hC dX12_readWord_5 rfl rfl ?_
  refine gm_wordEnd hC wfX12_230 dX12_readWord_6 ?_
  rw [hw]
  refine n_aload_n hC dX12_readWord_9 rfl rfl ?_
  refine gm_wordAt hC wfX12_241 dX12_readWord_10 ?_
  rw [ha]
  refine n_isub hC dX12_readWord_13 ?_
  rw [nI_subL (by omega)]
  refine n_callV hC (x_operation (d + 2) a (b - a) B τ hB (by omega)) (Nat.le_refl _) (by decide) (by first | exact rfl | with_reducible assumption) rfl rfl rfl ⟨wmX12_247, wi_yX12_operation, wv_yX12_operation, wzX12, wc_yX12_operation⟩ hy_yX12_operation rfl (Nat.le_of_ble_eq_true rfl) dX12_readWord_14 (fun rv σ' hpo => ?_)
  obtain ⟨hop, hσ⟩ := hpo
  rw [hσ]
  -- the last byte
  have at18 : ∀ o : Int32, ((∃ k, p_opc B a (b - a) k ∧ o = nI (r_op (k + 1))) ∨ ((¬ ∃ k, p_opc B a (b - a) k) ∧ o = -1)) → n_W p l e s m [Value.ref (ad 0 0), Value.int (nI i)].toArray below meth c (rw D ca ad Ex) (d + 4) (fun rv τ' => rv = none ∧ XW B i P a b τ τ') 18 [some (.ref (ad 0 0)), some (.int (nI i)), some (.int o)] [] τ := by
    intro o ho
    refine n_aload_n hC dX12_readWord_18 rfl rfl ?_
    refine n_aload_n hC dX12_readWord_19 rfl rfl ?_
    refine gm_wordEnd hC wfX12_230 dX12_readWord_20 ?_
    rw [hw]
    refine n_iconst (v := 1) hC dX12_readWord_23 (by decide) ?_
    refine n_isub hC dX12_readWord_24 ?_
    rw [nI_m1 (by omega)]
    refine n_callV hC (x_byteOf (d + 3) (b - 1) B τ hB (by omega)) (Nat.le_refl _) (by decide) (by first | exact rfl | with_reducible assumption) rfl rfl rfl ⟨wmX12_233, wi_yX12_byteOf, wv_yX12_byteOf, wzX12, wc_yX12_byteOf⟩ hy_yX12_byteOf rfl (Nat.le_of_ble_eq_true rfl) dX12_readWord_25 (fun rv σ' hpo => ?_)
    obtain ⟨rfl, hσ⟩ := hpo
    rw [hσ]
    refine n_bipush (v := 58) hC dX12_readWord_28 (by decide) ?_
    refine n_icmp_ne (tgt := 41) hC dX12_readWord_30 (by decide) (fun h => ?_) (fun h => ?_)
    · have hnl := h
      clear h
      refine n_iload_n hC dX12_readWord_41 rfl rfl ?_
      refine n_iconst (v := -1) hC dX12_readWord_42 (by decide) ?_
      refine n_icmp_ne (tgt := 79) hC dX12_readWord_43 (by decide) (fun h => ?_) (fun h => ?_)
      · -- an instruction
        rcases ho with ⟨k, hk, rfl⟩ | ⟨_, rfl⟩
        · clear h
          have hrl := r_op_l3 k hk.1
          refine n_aload_n hC dX12_readWord_79 rfl rfl ?_
          refine n_iload_n hC dX12_readWord_80 rfl rfl ?_
          refine n_iload_n hC dX12_readWord_81 rfl rfl ?_
          refine n_iconst (v := 0) hC dX12_readWord_82 (by decide) ?_
          refine n_callV hC (x_put (d + 2) i a (nI (r_op (k + 1))) 0 P τ hi hX h5 ha a2) (Nat.le_refl _) (by decide) (by first | exact rfl | with_reducible assumption) rfl rfl rfl ⟨wmX12_296, wi_yX12_put, wv_yX12_put, wzX12, wc_yX12_put⟩ hy_yX12_put rfl (Nat.le_of_ble_eq_true rfl) dX12_readWord_83 (fun rv σ' hpo => ?_)
          obtain ⟨rfl, hpo⟩ := hpo
          rcases hpo with ⟨hlt, hσ⟩ | ⟨hge, hσ⟩
          · rw [hσ]
            have fr := putx k 0 hk.1 hlt
            refine n_iload_n hC dX12_readWord_86 rfl rfl ?_
            refine n_bipush (v := 39) hC dX12_readWord_87 (by decide) ?_
            refine n_icmp_lt (tgt := 174) hC dX12_readWord_89 (by decide) (fun h => ?_) (fun h => ?_)
            · have hnn : ¬ p_hn k := fun z => by
                have h2 := (r_op_hn k hk.1).mp z
                exact absurd h (nI_nlt (b := 39) h2 (by omega))
              have est := p_stp_op hk hlt hnn
              refine n_vret hC dX12_readWord_174 ?_
              refine ⟨rfl, fr, Or.inr ⟨_, _, est, ?_, hL.mv rfl (fun κ x u => ?_), XC_put hX a3 a4 (n_up_e _ _ _ _) ?_ ?_ (fun z => absurd z hnn) (fun j hj => ?_), ?_⟩⟩
              · rw [n_up_o (by omega), n_up_o (by omega), n_up_o (by omega), h5]
              · rw [n_up_o (by omega), n_up_o (by omega), n_up_o (by omega)]
              · rw [n_up_o (by omega), n_up_o (by omega), n_up_e]
              · rw [n_up_o (by omega), n_up_e]
              · refine ⟨?_, ?_, ?_, ?_⟩ <;> rw [n_up_o (by omega), n_up_o (by omega), n_up_o (by omega)]
              · rw [n_up_o (by omega), n_up_o (by omega), n_up_o (by omega), hw]
            · have hhn : p_hn k := (r_op_hn k hk.1).mpr ((nI_leI (a := 39) (by omega) (by omega)).mp (Int32.not_lt.mp h))
              clear h
              refine n_aload_n hC dX12_readWord_92 rfl rfl ?_
              refine gm_fault hC wfX12_271 dX12_readWord_93 ?_
              rw [n_up_o (by omega), n_up_o (by omega), n_up_o (by omega), h5]
              refine n_if_ne (tgt := 174) hC dX12_readWord_96 (by decide) (fun h => ?_) (fun h => ?_)
              · exact absurd rfl h
              · clear h
                generalize hτ1 : n_up (n_up (n_up τ 8 0 (256 * i + P.op.length) (nI (r_op (k + 1)))) 9 0 (256 * i + P.op.length) 0) 10 0 i (nI (P.op.length + 1)) = τ1 at *
                have c18 : τ1 0 0 18 = nI b := by rw [← hτ1, n_up_o (by omega), n_up_o (by omega), n_up_o (by omega), hw]
                have c5 : τ1 0 0 5 = 0 := by rw [← hτ1, n_up_o (by omega), n_up_o (by omega), n_up_o (by omega), h5]
                have c10 : τ1 10 0 i = nI (P.op.length + 1) := by rw [← hτ1, n_up_e]
                have c8 : τ1 8 0 (256 * i + P.op.length) = nI (r_op (k + 1)) := by rw [← hτ1, n_up_o (by omega), n_up_o (by omega), n_up_e]
                have c9 : τ1 9 0 (256 * i + P.op.length) = 0 := by rw [← hτ1, n_up_o (by omega), n_up_e]
                have cj : ∀ j, j < P.op.length → τ1 8 0 (256 * i + j) = τ 8 0 (256 * i + j) ∧ τ1 9 0 (256 * i + j) = τ 9 0 (256 * i + j) ∧ τ1 16 0 j = τ 16 0 j ∧ τ1 17 0 j = τ 17 0 j := by
                  intro j hj
                  rw [← hτ1]
                  refine ⟨?_, ?_, ?_, ?_⟩ <;> rw [n_up_o (by omega), n_up_o (by omega), n_up_o (by omega)]
                have cL : ∀ κ x, (κ = 12 ∨ κ = 13 ∨ κ = 14 ∨ (κ = 0 ∧ x = 14)) → τ1 κ 0 x = τ κ 0 x := by
                  intro κ x u
                  rw [← hτ1, n_up_o (by omega), n_up_o (by omega), n_up_o (by omega)]
                have hB1 : TB B τ1 := hB.mv fr
                refine n_aload_n hC dX12_readWord_99 rfl rfl ?_
                refine n_callV hC (x_takeWord (d + 2) b B τ1 hB1 hb c18) (Nat.le_refl _) (by decide) (by first | exact rfl | with_reducible assumption) rfl rfl rfl ⟨wmX12_300, wi_yX12_takeWord, wv_yX12_takeWord, wzX12, wc_yX12_takeWord⟩ hy_yX12_takeWord rfl (Nat.le_of_ble_eq_true rfl) dX12_readWord_100 (fun rv σ' hpo => ?_)
                obtain ⟨rfl, hσ⟩ := hpo
                rw [hσ]
                have fr2 : XF i τ (n_up (n_up τ1 0 0 17 (nI (p_skip B b))) 0 0 18 (nI (p_wend B (p_skip B b)))) := (fr.up (by unfold p_wr; omega)).up (by unfold p_wr; omega)
                generalize hτ2 : n_up (n_up τ1 0 0 17 (nI (p_skip B b))) 0 0 18 (nI (p_wend B (p_skip B b))) = τ2 at *
                have t17 : τ2 0 0 17 = nI (p_skip B b) := by rw [← hτ2, n_up_o (by omega), n_up_e]
                have t18 : τ2 0 0 18 = nI (p_wend B (p_skip B b)) := by rw [← hτ2, n_up_e]
                have tt : ∀ κ x, ¬ (κ = 0 ∧ (x = 17 ∨ x = 18)) → τ2 κ 0 x = τ1 κ 0 x := by
                  intro κ x u
                  rw [← hτ2, n_up_o (by omega), n_up_o (by omega)]
                have hB2 : TB B τ2 := hB.mv fr2
                refine n_aload_n hC dX12_readWord_103 rfl rfl ?_
                refine n_aload_n hC dX12_readWord_104 rfl rfl ?_
                refine gm_wordAt hC wfX12_241 dX12_readWord_105 ?_
                rw [t17]
                refine n_aload_n hC dX12_readWord_108 rfl rfl ?_
                refine gm_wordEnd hC wfX12_230 dX12_readWord_109 ?_
                rw [t18]
                refine n_aload_n hC dX12_readWord_112 rfl rfl ?_
                refine gm_wordAt hC wfX12_241 dX12_readWord_113 ?_
                rw [t17]
                refine n_isub hC dX12_readWord_116 ?_
                rw [nI_subL (by omega)]
                refine n_callV hC (x_isName (d + 1) (p_skip B b) (p_wend B (p_skip B b) - p_skip B b) B τ2 hB2 (by omega)) (Nat.le_refl _) (by decide) (by first | exact rfl | with_reducible assumption) rfl rfl rfl ⟨wmX12_277, wi_yX12_isName, wv_yX12_isName, wzX12, wc_yX12_isName⟩ hy_yX12_isName rfl (Nat.le_of_ble_eq_true rfl) dX12_readWord_117 (fun rv σ' hpo => ?_)
                obtain ⟨hpo, hσ⟩ := hpo
                rw [hσ]
                rcases hpo with ⟨q, rfl⟩ | ⟨q, rfl⟩
                · have est := p_stp_opn hk hlt hhn q
                  refine n_if_eq (tgt := 165) hC dX12_readWord_120 (by decide) (fun h => ?_) (fun h => ?_)
                  · exact absurd h (by decide)
                  · clear h
                    refine n_aload_n hC dX12_readWord_123 rfl rfl ?_
                    refine gm_nameAt hC wfX12_131 dX12_readWord_124 ?_
                    refine n_aload_n hC dX12_readWord_127 rfl rfl ?_
                    refine gm_lengths hC wfX12_115 dX12_readWord_128 ?_
                    refine n_iload_n hC dX12_readWord_131 rfl rfl ?_
                    first | refine r_ld hC rfl (fun _ => rfl) (by decide) (by first | omega | with_reducible assumption) dX12_readWord_132 ?_ | refine r_needs hC (by first | exact vp_in_nI (by omega) (by decide) | with_reducible assumption) dX12_readWord_132 ?_
                    rw [tt 10 i (by omega), c10]
                    refine n_iconst (v := 1) hC dX12_readWord_133 (by decide) ?_
                    refine n_isub hC dX12_readWord_134 ?_
                    rw [nI_m1 (by omega), Nat.add_sub_cancel]
                    refine n_aload_n hC dX12_readWord_135 rfl rfl ?_
                    refine gm_wordAt hC wfX12_241 dX12_readWord_136 ?_
                    rw [t17]
                    refine r_st hC rfl (fun _ h => h) (fun _ => rfl) (by decide) (by first | omega | with_reducible assumption) dX12_readWord_139 ?_
                    refine n_aload_n hC dX12_readWord_140 rfl rfl ?_
                    refine gm_nameSize hC wfX12_134 dX12_readWord_141 ?_
                    refine n_aload_n hC dX12_readWord_144 rfl rfl ?_
                    refine gm_lengths hC wfX12_115 dX12_readWord_145 ?_
                    refine n_iload_n hC dX12_readWord_148 rfl rfl ?_
                    first | refine r_ld hC rfl (fun _ => rfl) (by decide) (by first | omega | with_reducible assumption) dX12_readWord_149 ?_ | refine r_needs hC (by first | exact vp_in_nI (by omega) (by decide) | with_reducible assumption) dX12_readWord_149 ?_
                    rw [n_up_o (by omega), tt 10 i (by omega), c10]
                    refine n_iconst (v := 1) hC dX12_readWord_150 (by decide) ?_
                    refine n_isub hC dX12_readWord_151 ?_
                    rw [nI_m1 (by omega), Nat.add_sub_cancel]
                    refine n_aload_n hC dX12_readWord_152 rfl rfl ?_
                    refine gm_wordEnd hC wfX12_230 dX12_readWord_153 ?_
                    rw [n_up_o (by omega), t18]
                    refine n_aload_n hC dX12_readWord_156 rfl rfl ?_
                    refine gm_wordAt hC wfX12_241 dX12_readWord_157 ?_
                    rw [n_up_o (by omega), t17]
                    refine n_isub hC dX12_readWord_160 ?_
                    rw [nI_subL (by omega)]
                    refine r_st hC rfl (fun _ h => h) (fun _ => rfl) (by decide) (by first | omega | with_reducible assumption) dX12_readWord_161 ?_
                    refine n_goto (tgt := 174) hC dX12_readWord_162 (by decide) ?_
                    refine n_vret hC dX12_readWord_174 ?_
                    refine ⟨rfl, (fr2.up (by unfold p_wr; omega)).up (by unfold p_wr; omega), Or.inr ⟨_, _, est, ?_, hL.mv rfl (fun κ x u => ?_), XC_put hX a3 a4 ?_ ?_ ?_ (fun _ => ⟨?_, ?_⟩) (fun j hj => ?_), ?_⟩⟩
                    · rw [n_up_o (by omega), n_up_o (by omega), tt 0 5 (by omega), c5]
                    · rw [n_up_o (by omega), n_up_o (by omega), tt κ x (by omega), cL κ x u]
                    · rw [n_up_o (by omega), n_up_o (by omega), tt 10 i (by omega), c10]
                    · rw [n_up_o (by omega), n_up_o (by omega), tt 8 _ (by omega), c8]
                    · rw [n_up_o (by omega), n_up_o (by omega), tt 9 _ (by omega), c9]
                    · rw [n_up_o (by omega), n_up_e]
                    · rw [n_up_e]
                    · obtain ⟨u1, u2, u3, u4⟩ := cj j hj
                      refine ⟨?_, ?_, ?_, ?_⟩
                      · rw [n_up_o (by omega), n_up_o (by omega), tt 8 _ (by omega), u1]
                      · rw [n_up_o (by omega), n_up_o (by omega), tt 9 _ (by omega), u2]
                      · rw [n_up_o (by omega), n_up_o (by omega), tt 16 _ (by omega), u3]
                      · rw [n_up_o (by omega), n_up_o (by omega), tt 17 _ (by omega), u4]
                    · rw [n_up_o (by omega), n_up_o (by omega), t18]
                · have est := p_stp_op2 hk hlt hhn q
                  refine n_if_eq (tgt := 165) hC dX12_readWord_120 (by decide) (fun h => ?_) (fun h => ?_)
                  · refine n_aload_n hC dX12_readWord_165 rfl rfl ?_
                    refine n_iconst (v := 2) hC dX12_readWord_166 (by decide) ?_
                    refine n_aload_n hC dX12_readWord_167 rfl rfl ?_
                    refine gm_wordAt hC wfX12_241 dX12_readWord_168 ?_
                    rw [t17]
                    refine n_callV hC (x_flaw (d + 3) 2 (nI (p_skip B b)) τ2) (Nat.le_refl _) (by decide) (by first | exact rfl | with_reducible assumption) rfl rfl rfl ⟨wmX12_281, wi_yX12_flaw, wv_yX12_flaw, wzX12, wc_yX12_flaw⟩ hy_yX12_flaw rfl (Nat.le_of_ble_eq_true rfl) dX12_readWord_171 (fun rv σ' hpo => ?_)
                    obtain ⟨rfl, hσ⟩ := hpo
                    rw [hσ, if_pos ((tt 0 5 (by omega)).trans c5)]
                    refine n_vret hC dX12_readWord_174 ?_
                    refine ⟨rfl, (fr2.up (by unfold p_wr; omega)).up (by unfold p_wr; omega), Or.inl ⟨_, p_wend B (p_skip B b), est, ?_, ?_, by omega, by omega, ?_, by omega, ?_⟩⟩
                    · rw [n_up_o (by omega), n_up_e]
                      rfl
                    · rw [n_up_e]
                    · exact s1.2
                    · rw [n_up_o (by omega), n_up_o (by omega), t18]
                  · exact absurd rfl h
          · rw [hσ]
            have est := p_stp_op5 hk hge
            obtain ⟨f1, f2, f3, f4⟩ := flx 5 τ b (XF.refl i τ) hw
            have fin : n_W p l e s m [Value.ref (ad 0 0), Value.int (nI i)].toArray below meth c (rw D ca ad Ex) (d + 4) (fun rv τ' => rv = none ∧ XW B i P a b τ τ') 174 [some (.ref (ad 0 0)), some (.int (nI i)), some (.int (nI (r_op (k + 1))))] [] (n_up (n_up τ 0 0 5 5) 0 0 6 (nI a)) := by
              refine n_vret hC dX12_readWord_174 ?_
              exact ⟨rfl, f1, Or.inl ⟨_, b, est, f3, f4, by omega, by omega, by show a ≤ _; omega, by omega, f2⟩⟩
            refine n_iload_n hC dX12_readWord_86 rfl rfl ?_
            refine n_bipush (v := 39) hC dX12_readWord_87 (by decide) ?_
            refine n_icmp_lt (tgt := 174) hC dX12_readWord_89 (by decide) (fun h => ?_) (fun h => ?_)
            · exact fin
            · clear h
              refine n_aload_n hC dX12_readWord_92 rfl rfl ?_
              refine gm_fault hC wfX12_271 dX12_readWord_93 ?_
              rw [f3]
              refine n_if_ne (tgt := 174) hC dX12_readWord_96 (by decide) (fun h => ?_) (fun h => ?_)
              · exact fin
              · exact absurd h (by decide)
        · exact absurd rfl h
      · -- no instruction
        have hno : ¬ ∃ k, p_opc B a (b - a) k := by
          rcases ho with ⟨k, hk, rfl⟩ | ⟨q, _⟩
          · have := r_op_l3 k hk.1
            exact absurd h (nI_nm1 (by omega))
          · exact q
        clear h
        refine n_aload_n hC dX12_readWord_46 rfl rfl ?_
        refine n_callV hC (x_isNumber (d + 1) a b B τ hB hab hb ha hw) (Nat.le_refl _) (by decide) (by first | exact rfl | with_reducible assumption) rfl rfl rfl ⟨wmX12_292, wi_yX12_isNumber, wv_yX12_isNumber, wzX12, wc_yX12_isNumber⟩ hy_yX12_isNumber rfl (Nat.le_of_ble_eq_true rfl) dX12_readWord_47 (fun rv σ' hpo => ?_)
        obtain ⟨hpo, hσ⟩ := hpo
        rw [hσ]
        rcases hpo with ⟨q, rfl⟩ | ⟨q, rfl⟩
        · refine n_if_eq (tgt := 67) hC dX12_readWord_50 (by decide) (fun h => ?_) (fun h => ?_)
          · exact absurd h (by decide)
          · clear h
            refine n_aload_n hC dX12_readWord_53 rfl rfl ?_
            refine n_iload_n hC dX12_readWord_54 rfl rfl ?_
            refine n_iconst (v := 0) hC dX12_readWord_55 (by decide) ?_
            refine n_aload_n hC dX12_readWord_56 rfl rfl ?_
            refine n_callV hC (x_valueOfWord (d + 2) a b B τ hB hab hb ha hw) (Nat.le_refl _) (by decide) (by first | exact rfl | with_reducible assumption) rfl rfl rfl ⟨wmX12_254, wi_yX12_valueOfWord, wv_yX12_valueOfWord, wzX12, wc_yX12_valueOfWord⟩ hy_yX12_valueOfWord rfl (Nat.le_of_ble_eq_true rfl) dX12_readWord_57 (fun rv σ' hpo => ?_)
            obtain ⟨⟨v, rfl, hv⟩, hσ⟩ := hpo
            rw [hσ, p_vw_nl hv q]
            refine n_l2i (v := p_nv B a b) hC dX12_readWord_60 rfl ?_
            refine n_callV hC (x_put (d + 2) i a 0 (p_nv B a b) P τ hi hX h5 ha a2) (Nat.le_refl _) (by decide) (by first | exact rfl | with_reducible assumption) rfl rfl rfl ⟨wmX12_296, wi_yX12_put, wv_yX12_put, wzX12, wc_yX12_put⟩ hy_yX12_put rfl (Nat.le_of_ble_eq_true rfl) dX12_readWord_61 (fun rv σ' hpo => ?_)
            obtain ⟨rfl, hpo⟩ := hpo
            rcases hpo with ⟨hlt, hσ⟩ | ⟨hge, hσ⟩
            · rw [hσ]
              have est := p_stp_num q hlt
              have fr := putx 0 (p_nv B a b) (by omega) hlt
              have hnn : ¬ p_hn 0 := by decide
              refine n_goto (tgt := 174) hC dX12_readWord_64 (by decide) ?_
              refine n_vret hC dX12_readWord_174 ?_
              refine ⟨rfl, fr, Or.inr ⟨_, _, est, ?_, hL.mv rfl (fun κ x u => ?_), XC_put hX a3 a4 (n_up_e _ _ _ _) ?_ ?_ (fun z => absurd z hnn) (fun j hj => ?_), ?_⟩⟩
              · rw [n_up_o (by omega), n_up_o (by omega), n_up_o (by omega), h5]
              · rw [n_up_o (by omega), n_up_o (by omega), n_up_o (by omega)]
              · rw [n_up_o (by omega), n_up_o (by omega), n_up_e]
                rfl
              · rw [n_up_o (by omega), n_up_e]
              · refine ⟨?_, ?_, ?_, ?_⟩ <;> rw [n_up_o (by omega), n_up_o (by omega), n_up_o (by omega)]
              · rw [n_up_o (by omega), n_up_o (by omega), n_up_o (by omega), hw]
            · rw [hσ]
              have est := p_stp_num5 q hge
              obtain ⟨f1, f2, f3, f4⟩ := flx 5 τ b (XF.refl i τ) hw
              refine n_goto (tgt := 174) hC dX12_readWord_64 (by decide) ?_
              refine n_vret hC dX12_readWord_174 ?_
              exact ⟨rfl, f1, Or.inl ⟨_, b, est, f3, f4, by omega, by omega, by show a ≤ _; omega, by omega, f2⟩⟩
        · refine n_if_eq (tgt := 67) hC dX12_readWord_50 (by decide) (fun h => ?_) (fun h => ?_)
          · clear h
            have est := p_stp_1 (P := P) q hno (fun z => hnl z.1)
            refine n_aload_n hC dX12_readWord_67 rfl rfl ?_
            refine n_iconst (v := 1) hC dX12_readWord_68 (by decide) ?_
            refine n_aload_n hC dX12_readWord_69 rfl rfl ?_
            refine gm_wordAt hC wfX12_241 dX12_readWord_70 ?_
            rw [ha]
            refine n_callV hC (x_flaw (d + 3) 1 (nI a) τ) (Nat.le_refl _) (by decide) (by first | exact rfl | with_reducible assumption) rfl rfl rfl ⟨wmX12_281, wi_yX12_flaw, wv_yX12_flaw, wzX12, wc_yX12_flaw⟩ hy_yX12_flaw rfl (Nat.le_of_ble_eq_true rfl) dX12_readWord_73 (fun rv σ' hpo => ?_)
            obtain ⟨rfl, hσ⟩ := hpo
            rw [hσ, if_pos h5]
            obtain ⟨f1, f2, f3, f4⟩ := flx 1 τ b (XF.refl i τ) hw
            refine n_goto (tgt := 174) hC dX12_readWord_76 (by decide) ?_
            refine n_vret hC dX12_readWord_174 ?_
            exact ⟨rfl, f1, Or.inl ⟨_, b, est, f3, f4, by omega, by omega, by show a ≤ _; omega, by omega, f2⟩⟩
          · exact absurd rfl h
    · -- a label
      obtain ⟨hni, hno⟩ := p_ex2 hab h
      have hcol := h
      clear h
      refine n_aload_n hC dX12_readWord_33 rfl rfl ?_
      refine n_iload_n hC dX12_readWord_34 rfl rfl ?_
      refine n_callV hC (x_readLabel d i a b B P τ hi hB hok hL hX h5 ha hw hab hb) (Nat.le_refl _) (by decide) (by first | exact rfl | with_reducible assumption) rfl rfl rfl ⟨wmX12_288, wi_yX12_readLabel, wv_yX12_readLabel, wzX12, wc_yX12_readLabel⟩ hy_yX12_readLabel rfl (Nat.le_of_ble_eq_true rfl) dX12_readWord_35 (fun rv σ' hpo => ?_)
      obtain ⟨rfl, f1, f2, hpo⟩ := hpo
      refine n_goto (tgt := 174) hC dX12_readWord_38 (by decide) ?_
      refine n_vret hC dX12_readWord_174 ?_
      refine ⟨rfl, f1, ?_⟩
      rcases hpo with ⟨q, f3, f4⟩ | ⟨q, q2, f3, f4⟩ | ⟨q, q2, q3, f3, f4⟩ | ⟨q, q2, q3, f3, f4, f5⟩
      · have e0 := p_stp_1 (P := P) hni hno (fun z => q z.2)
        exact Or.inl ⟨_, b, e0, f3, f4, by omega, by omega, by show a ≤ _; omega, by omega, f2⟩
      · have e0 := p_stp_3 hni hno ⟨hcol, q⟩ q2
        exact Or.inl ⟨_, b, e0, f3, f4, by omega, by omega, by show a ≤ _; omega, by omega, f2⟩
      · have e0 := p_stp_4 hni hno ⟨hcol, q⟩ q2 q3
        exact Or.inl ⟨_, b, e0, f3, f4, by omega, by omega, by show a ≤ _; omega, by omega, f2⟩
      · have e0 := p_stp_lab hni hno ⟨hcol, q⟩ q2 q3
        exact Or.inr ⟨_, _, e0, f3, f4, f5, f2⟩
  rcases hop with ⟨k, hk, rfl⟩ | ⟨hk, rfl⟩
  · refine n_istore_n hC dX12_readWord_17 rfl (Nat.le_of_ble_eq_true rfl) ?_
    exact at18 _ (Or.inl ⟨k, hk, rfl⟩)
  · refine n_istore_n hC dX12_readWord_17 rfl (Nat.le_of_ble_eq_true rfl) ?_
    exact at18 _ (Or.inr ⟨hk, rfl⟩)
end RP6
