theorem wkX12_258 : Cond.constantLong "ShareMonitorModel" 258 (-2147483648) ∈ n_tb := n_in (by decide +kernel) rfl
theorem wkX12_260 : Cond.constantLong "ShareMonitorModel" 260 2147483647 ∈ n_tb := n_in (by decide +kernel) rfl
theorem wkX12_262 : Cond.constantLong "ShareMonitorModel" 262 9999999999 ∈ n_tb := n_in (by decide +kernel) rfl
theorem wkX12_264 : Cond.constantLong "ShareMonitorModel" 264 10 ∈ n_tb := n_in (by decide +kernel) rfl
theorem wkX12_266 : Cond.constantLong "ShareMonitorModel" 266 48 ∈ n_tb := n_in (by decide +kernel) rfl
theorem i64_nat {a : Nat} (h : a < 2 ^ 63) : (Int64.ofNat a).toInt = (a : Int) := Int64.toInt_ofNat_of_lt h
theorem i64_neg {a : Nat} (h : a < 2 ^ 63) : (-Int64.ofNat a).toInt = -(a : Int) := by
  rw [Int64.toInt_neg, i64_nat h]
  apply Int.bmod_eq_of_le <;> omega
theorem i64_le {a b : Nat} (ha : a < 2 ^ 63) (hb : b < 2 ^ 63) : Int64.ofNat a ≤ Int64.ofNat b ↔ a ≤ b := by
  rw [Int64.le_iff_toInt_le, i64_nat ha, i64_nat hb]
  omega
theorem i64_step {V b : Nat} (h : 48 ≤ b) : 10 * Int64.ofNat V + Int64.ofNat b - 48 = Int64.ofNat (V * 10 + (b - 48)) := by
  have e : V * 10 + (b - 48) + 48 = 10 * V + b := by omega
  have e2 : Int64.ofNat (V * 10 + (b - 48)) + Int64.ofNat 48 = Int64.ofNat 10 * Int64.ofNat V + Int64.ofNat b := by
    rw [← Int64.ofNat_add, e, Int64.ofNat_add, Int64.ofNat_mul]
  have e3 : (10 : Int64) * Int64.ofNat V + Int64.ofNat b = Int64.ofNat (V * 10 + (b - 48)) + 48 := e2.symm
  rw [e3]
  exact Int64.add_sub_cancel _ _
theorem p_dec_s (B : List Int32) (f n : Nat) : p_dec B f (n + 1) = p_dec B f n * 10 + ((b_at B (f + n)).toNatClampNeg - 48) := rfl
theorem p_dg_b {x : Int32} (h : p_dg x) : ∃ n, n < 256 ∧ 48 ≤ n ∧ x = nI n := by
  have h0 : ¬ x < 0 := fun z => Int32.lt_irrefl (Int32.lt_of_lt_of_le z (Int32.le_trans (show (0 : Int32) ≤ 48 by decide) h.1))
  obtain ⟨n, hn, rfl⟩ := nI_of h0
  have h1 := (nI_leI (a := 48) (by omega) hn).mp h.1
  have h2 := (nI_leI (b := 57) hn (by omega)).mp h.2
  exact ⟨n, by omega, h1, rfl⟩
/-- what the reference's value of a word says -/
def p_vw (B : List Int32) (a b : Nat) (v : Int64) : Prop := (∀ i, p_from B a ≤ i → i < b → p_dg (b_at B i)) → ∃ V, V < 100000000000 ∧ v = (if b_at B a = 45 then -Int64.ofNat V else Int64.ofNat V) ∧ (V = p_N B a b ∨ (9999999999 < V ∧ V ≤ p_N B a b))
theorem p_vw_rng {B : List Int32} {a b : Nat} {v : Int64} (h : p_vw B a b v) (hd : ∀ i, p_from B a ≤ i → i < b → p_dg (b_at B i)) : ((-2147483648 ≤ v ∧ v ≤ 2147483647) ↔ ((b_at B a = 45 ∧ p_N B a b ≤ 2147483648) ∨ (b_at B a ≠ 45 ∧ p_N B a b < 2147483648))) := by
  obtain ⟨V, hV, hv, hN⟩ := h hd
  rw [Int64.le_iff_toInt_le, Int64.le_iff_toInt_le, show ((-2147483648 : Int64)).toInt = -2147483648 from rfl, show ((2147483647 : Int64)).toInt = 2147483647 from rfl]
  by_cases z : b_at B a = 45
  · rw [if_pos z] at hv
    rw [hv, i64_neg (by omega)]
    constructor
    · intro h
      exact Or.inl ⟨z, by omega⟩
    · rintro (⟨_, h⟩ | ⟨h, _⟩)
      · omega
      · exact absurd z h
  · rw [if_neg z] at hv
    rw [hv, i64_nat (by omega)]
    constructor
    · intro h
      exact Or.inr ⟨z, by omega⟩
    · rintro (⟨h, _⟩ | ⟨_, h⟩)
      · exact absurd h z
      · omega
theorem p_vw_nl {B : List Int32} {a b : Nat} {v : Int64} (h : p_vw B a b v) (hn : p_isn B a b) : v = p_nl B a b := by
  obtain ⟨V, hV, hv, hN⟩ := h hn.2.1
  have : V = p_N B a b := by
    rcases hn.2.2 with ⟨_, q⟩ | ⟨_, q⟩ <;> omega
  rw [hv, this]
  rfl
section RP4
variable {l : Launch} {D : va_G} {ca : Nat → ClassId} {ad : Nat → Nat → Nat} {Ex : State → Heap → Prop}
theorem x_isName (d s0 n : Nat) (B : List Int32) (τ : n_S) (hB : TB B τ) (hle : s0 + n ≤ B.length) : n_Ct l (rw D ca ad Ex) (d + 2) yX12_isName cX12_isName 5 (some .boolean) [.ref (ad 0 0), .int (nI s0), .int (nI n)] τ (fun rv τ' => ((p_nm B s0 n ∧ rv = some (.int 1)) ∨ (¬ p_nm B s0 n ∧ rv = some (.int 0))) ∧ τ' = τ) := by
  have hlen := hB.2.1
  refine n_ofW (by decide) (Nat.le_of_ble_eq_true rfl) ?_
  intro p e s m below meth c hC
  have no : ∀ (w : Option Value), ¬ p_nm B s0 n → n_W p l e s m [Value.ref (ad 0 0), Value.int (nI s0), Value.int (nI n)].toArray below meth c (rw D ca ad Ex) (d + 2) (fun rv τ' => ((p_nm B s0 n ∧ rv = some (.int 1)) ∨ (¬ p_nm B s0 n ∧ rv = some (.int 0))) ∧ τ' = τ) 91 [some (.ref (ad 0 0)), some (.int (nI s0)), some (.int (nI n)), some (.int 0), w] [] τ := by
    intro w hn
    refine n_iload_n hC dX12_isName_91 rfl rfl ?_
    refine n_zret hC dX12_isName_92 rfl ?_
    exact ⟨Or.inr ⟨hn, rfl⟩, rfl⟩
  have no36 : ¬ p_nm B s0 n → n_W p l e s m [Value.ref (ad 0 0), Value.int (nI s0), Value.int (nI n)].toArray below meth c (rw D ca ad Ex) (d + 2) (fun rv τ' => ((p_nm B s0 n ∧ rv = some (.int 1)) ∨ (¬ p_nm B s0 n ∧ rv = some (.int 0))) ∧ τ' = τ) 36 [some (.ref (ad 0 0)), some (.int (nI s0)), some (.int (nI n)), none, none] [] τ := by
    intro hn
    refine n_iconst (v := 0) hC dX12_isName_36 (by decide) ?_
    refine n_istore_n hC dX12_isName_37 rfl (Nat.le_of_ble_eq_true rfl) ?_
    refine n_iconst (v := 1) hC dX12_isName_38 (by decide) ?_
    refine n_istore hC dX12_isName_39 (Nat.le_of_ble_eq_true rfl) ?_
    refine n_iload hC dX12_isName_41 rfl ?_
    refine n_iload_n hC dX12_isName_43 rfl rfl ?_
    refine n_icmp_ge (tgt := 91) hC dX12_isName_44 (by decide) (fun h => ?_) (fun h => ?_)
    · exact no _ hn
    · refine n_iload_n hC dX12_isName_47 rfl rfl ?_
      refine n_if_eq (tgt := 91) hC dX12_isName_48 (by decide) (fun h => ?_) (fun h => ?_)
      · exact no _ hn
      · exact absurd rfl h
  have loop : 1 ≤ n → n ≤ 12 → p_lt (b_at B s0) → (¬ ∃ k, p_opc B s0 n k) → ∀ (t i : Nat), t + i = n → 1 ≤ i → (∀ i', 1 ≤ i' → i' < i → p_lt (b_at B (s0 + i')) ∨ p_dg (b_at B (s0 + i'))) → n_W p l e s m [Value.ref (ad 0 0), Value.int (nI s0), Value.int (nI n)].toArray below meth c (rw D ca ad Ex) (d + 2) (fun rv τ' => ((p_nm B s0 n ∧ rv = some (.int 1)) ∨ (¬ p_nm B s0 n ∧ rv = some (.int 0))) ∧ τ' = τ) 41 [some (.ref (ad 0 0)), some (.int (nI s0)), some (.int (nI n)), some (.int 1), some (.int (nI i))] [] τ := by
    intro n1 n12 hlt hno t
    induction t with
    | zero =>
      intro i hi h1 hall
      have : i = n := by omega
      subst this
      refine n_iload hC dX12_isName_41 rfl ?_
      refine n_iload_n hC dX12_isName_43 rfl rfl ?_
      refine n_icmp_ge (tgt := 91) hC dX12_isName_44 (by decide) (fun h => ?_) (fun h => ?_)
      · refine n_iload_n hC dX12_isName_91 rfl rfl ?_
        refine n_zret hC dX12_isName_92 rfl ?_
        exact ⟨Or.inl ⟨⟨n1, n12, hlt, hall, hno⟩, rfl⟩, rfl⟩
      · exact absurd (Int32.le_refl _) h
    | succ t ih =>
      intro i hi h1 hall
      have yes : (p_lt (b_at B (s0 + i)) ∨ p_dg (b_at B (s0 + i))) → n_W p l e s m [Value.ref (ad 0 0), Value.int (nI s0), Value.int (nI n)].toArray below meth c (rw D ca ad Ex) (d + 2) (fun rv τ' => ((p_nm B s0 n ∧ rv = some (.int 1)) ∨ (¬ p_nm B s0 n ∧ rv = some (.int 0))) ∧ τ' = τ) 79 [some (.ref (ad 0 0)), some (.int (nI s0)), some (.int (nI n)), some (.int 1), some (.int (nI i))] [] τ := by
        intro hy
        refine n_iconst (v := 1) hC dX12_isName_79 (by decide) ?_
        refine n_goto (tgt := 84) hC dX12_isName_80 (by decide) ?_
        refine n_istore_n hC dX12_isName_84 rfl (Nat.le_of_ble_eq_true rfl) ?_
        refine n_iinc hC dX12_isName_85 rfl (show _ + Int32.ofInt 1 = _ + 1 from rfl) ?_
        refine n_goto (tgt := 41) hC dX12_isName_88 (by decide) ?_
        rw [nI_1]
        refine ih (i + 1) (by omega) (by omega) (fun i' q1 q2 => ?_)
        by_cases z : i' = i
        · rw [z]; exact hy
        · exact hall i' q1 (by omega)
      refine n_iload hC dX12_isName_41 rfl ?_
      refine n_iload_n hC dX12_isName_43 rfl rfl ?_
      refine n_icmp_ge (tgt := 91) hC dX12_isName_44 (by decide) (fun h => ?_) (fun h => ?_)
      · exact absurd h (nI_ge (by omega) (by omega))
      · clear h
        refine n_iload_n hC dX12_isName_47 rfl rfl ?_
        refine n_if_eq (tgt := 91) hC dX12_isName_48 (by decide) (fun h => ?_) (fun h => ?_)
        · exact absurd h (by decide)
        · clear h
          refine n_aload_n hC dX12_isName_51 rfl rfl ?_
          refine n_iload_n hC dX12_isName_52 rfl rfl ?_
          refine n_iload hC dX12_isName_53 rfl ?_
          refine n_iadd hC dX12_isName_55 ?_
          rw [nI_add]
          refine n_callV hC (x_byteOf (d + 1) (s0 + i) B τ hB (by omega)) (Nat.le_refl _) (by decide) (by first | exact rfl | with_reducible assumption) rfl rfl rfl ⟨wmX12_233, wi_yX12_byteOf, wv_yX12_byteOf, wzX12, wc_yX12_byteOf⟩ hy_yX12_byteOf rfl (Nat.le_of_ble_eq_true rfl) dX12_isName_56 (fun rv σ' hpo => ?_)
          obtain ⟨rfl, hσ⟩ := hpo
          rw [hσ]
          refine n_callS hC (x_isLetter (d + 1) (b_at B (s0 + i)) τ) (Nat.le_refl _) (by decide) ⟨wmX12_244, ws_yX12_isLetter, wzX12, wc_yX12_isLetter⟩ hy_yX12_isLetter rfl (Nat.le_of_ble_eq_true rfl) dX12_isName_59 (fun rv σ' hpo => ?_)
          obtain ⟨hpo, hσ⟩ := hpo
          rw [hσ]
          rcases hpo with ⟨q, rfl⟩ | ⟨q, rfl⟩
          · refine n_if_ne (tgt := 79) hC dX12_isName_62 (by decide) (fun h => ?_) (fun h => ?_)
            · exact yes (Or.inl q)
            · exact absurd h (by decide)
          · refine n_if_ne (tgt := 79) hC dX12_isName_62 (by decide) (fun h => ?_) (fun h => ?_)
            · exact absurd rfl h
            · clear h
              refine n_aload_n hC dX12_isName_65 rfl rfl ?_
              refine n_iload_n hC dX12_isName_66 rfl rfl ?_
              refine n_iload hC dX12_isName_67 rfl ?_
              refine n_iadd hC dX12_isName_69 ?_
              rw [nI_add]
              refine n_callV hC (x_byteOf (d + 1) (s0 + i) B τ hB (by omega)) (Nat.le_refl _) (by decide) (by first | exact rfl | with_reducible assumption) rfl rfl rfl ⟨wmX12_233, wi_yX12_byteOf, wv_yX12_byteOf, wzX12, wc_yX12_byteOf⟩ hy_yX12_byteOf rfl (Nat.le_of_ble_eq_true rfl) dX12_isName_70 (fun rv σ' hpo => ?_)
              obtain ⟨rfl, hσ⟩ := hpo
              rw [hσ]
              refine n_callS hC (x_isDigit (d + 1) (b_at B (s0 + i)) τ) (Nat.le_refl _) (by decide) ⟨wmX12_251, ws_yX12_isDigit, wzX12, wc_yX12_isDigit⟩ hy_yX12_isDigit rfl (Nat.le_of_ble_eq_true rfl) dX12_isName_73 (fun rv σ' hpo => ?_)
              obtain ⟨hpo, hσ⟩ := hpo
              rw [hσ]
              rcases hpo with ⟨q2, rfl⟩ | ⟨q2, rfl⟩
              · refine n_if_eq (tgt := 83) hC dX12_isName_76 (by decide) (fun h => ?_) (fun h => ?_)
                · exact absurd h (by decide)
                · exact yes (Or.inr q2)
              · have hn : ¬ p_nm B s0 n := fun z => (z.2.2.2.1 i h1 (by omega)).elim q q2
                refine n_if_eq (tgt := 83) hC dX12_isName_76 (by decide) (fun h => ?_) (fun h => ?_)
                · refine n_iconst (v := 0) hC dX12_isName_83 (by decide) ?_
                  refine n_istore_n hC dX12_isName_84 rfl (Nat.le_of_ble_eq_true rfl) ?_
                  refine n_iinc hC dX12_isName_85 rfl (show _ + Int32.ofInt 1 = _ + 1 from rfl) ?_
                  refine n_goto (tgt := 41) hC dX12_isName_88 (by decide) ?_
                  refine n_iload hC dX12_isName_41 rfl ?_
                  refine n_iload_n hC dX12_isName_43 rfl rfl ?_
                  refine n_icmp_ge (tgt := 91) hC dX12_isName_44 (by decide) (fun h => ?_) (fun h => ?_)
                  · exact no _ hn
                  · refine n_iload_n hC dX12_isName_47 rfl rfl ?_
                    refine n_if_eq (tgt := 91) hC dX12_isName_48 (by decide) (fun h => ?_) (fun h => ?_)
                    · exact no _ hn
                    · exact absurd rfl h
                · exact absurd rfl h
  refine n_iload_n hC dX12_isName_0 rfl rfl ?_
  refine n_iconst (v := 1) hC dX12_isName_1 (by decide) ?_
  refine n_icmp_lt (tgt := 36) hC dX12_isName_2 (by decide) (fun h => ?_) (fun h => ?_)
  · refine no36 (fun z => ?_)
    exact absurd (nI_le (a := 1) z.1 (by omega)) (Int32.not_le.mpr h)
  · have n1 : 1 ≤ n := (nI_leI (a := 1) (by omega) (by omega)).mp (Int32.not_lt.mp h)
    clear h
    refine n_iload_n hC dX12_isName_5 rfl rfl ?_
    refine n_bipush (v := 12) hC dX12_isName_6 (by decide) ?_
    refine n_icmp_gt (tgt := 36) hC dX12_isName_8 (by decide) (fun h => ?_) (fun h => ?_)
    · refine no36 (fun z => ?_)
      exact absurd (nI_le (b := 12) z.2.1 (by omega)) (Int32.not_le.mpr h)
    · have n12 : n ≤ 12 := (nI_leI (b := 12) (by omega) (by omega)).mp (Int32.not_lt.mp h)
      clear h
      refine n_aload_n hC dX12_isName_11 rfl rfl ?_
      refine n_iload_n hC dX12_isName_12 rfl rfl ?_
      refine n_callV hC (x_byteOf (d + 1) s0 B τ hB (by omega)) (Nat.le_refl _) (by decide) (by first | exact rfl | with_reducible assumption) rfl rfl rfl ⟨wmX12_233, wi_yX12_byteOf, wv_yX12_byteOf, wzX12, wc_yX12_byteOf⟩ hy_yX12_byteOf rfl (Nat.le_of_ble_eq_true rfl) dX12_isName_13 (fun rv σ' hpo => ?_)
      obtain ⟨rfl, hσ⟩ := hpo
      rw [hσ]
      refine n_callS hC (x_isLetter (d + 1) (b_at B s0) τ) (Nat.le_refl _) (by decide) ⟨wmX12_244, ws_yX12_isLetter, wzX12, wc_yX12_isLetter⟩ hy_yX12_isLetter rfl (Nat.le_of_ble_eq_true rfl) dX12_isName_16 (fun rv σ' hpo => ?_)
      obtain ⟨hpo, hσ⟩ := hpo
      rw [hσ]
      rcases hpo with ⟨q, rfl⟩ | ⟨q, rfl⟩
      · refine n_if_eq (tgt := 36) hC dX12_isName_19 (by decide) (fun h => ?_) (fun h => ?_)
        · exact absurd h (by decide)
        · clear h
          refine n_aload_n hC dX12_isName_22 rfl rfl ?_
          refine n_iload_n hC dX12_isName_23 rfl rfl ?_
          refine n_iload_n hC dX12_isName_24 rfl rfl ?_
          refine n_callV hC (x_operation d s0 n B τ hB hle) (Nat.le_refl _) (by decide) (by first | exact rfl | with_reducible assumption) rfl rfl rfl ⟨wmX12_247, wi_yX12_operation, wv_yX12_operation, wzX12, wc_yX12_operation⟩ hy_yX12_operation rfl (Nat.le_of_ble_eq_true rfl) dX12_isName_25 (fun rv σ' hpo => ?_)
          obtain ⟨hpo, hσ⟩ := hpo
          rw [hσ]
          rcases hpo with ⟨k, q2, rfl⟩ | ⟨q2, rfl⟩
          · have hk := p_tx_ok k q2.1 q2.2.1
            refine n_iconst (v := -1) hC dX12_isName_28 (by decide) ?_
            refine n_icmp_ne (tgt := 36) hC dX12_isName_29 (by decide) (fun h => ?_) (fun h => ?_)
            · exact no36 (fun z => z.2.2.2.2 ⟨k, q2⟩)
            · exfalso
              have h2 : ¬ nI (r_op (k + 1)) < 0 := nI_nlt (b := 0) (by omega) (by omega)
              rw [h] at h2
              exact h2 (by decide)
          · refine n_iconst (v := -1) hC dX12_isName_28 (by decide) ?_
            refine n_icmp_ne (tgt := 36) hC dX12_isName_29 (by decide) (fun h => ?_) (fun h => ?_)
            · exact absurd rfl h
            · refine n_iconst (v := 1) hC dX12_isName_32 (by decide) ?_
              refine n_goto (tgt := 37) hC dX12_isName_33 (by decide) ?_
              refine n_istore_n hC dX12_isName_37 rfl (Nat.le_of_ble_eq_true rfl) ?_
              refine n_iconst (v := 1) hC dX12_isName_38 (by decide) ?_
              refine n_istore hC dX12_isName_39 (Nat.le_of_ble_eq_true rfl) ?_
              exact loop n1 n12 q q2 (n - 1) 1 (by omega) (by omega) (fun i' u1 u2 => by omega)
      · refine n_if_eq (tgt := 36) hC dX12_isName_19 (by decide) (fun h => ?_) (fun h => ?_)
        · exact no36 (fun z => q z.2.2.1)
        · exact absurd rfl h
theorem x_valueOfWord (d a b : Nat) (B : List Int32) (τ : n_S) (hB : TB B τ) (hab : a < b) (hb : b ≤ B.length) (ha : τ 0 0 17 = nI a) (hw : τ 0 0 18 = nI b) : n_Ct l (rw D ca ad Ex) (d + 1) yX12_valueOfWord cX12_valueOfWord 5 (some .long) [.ref (ad 0 0)] τ (fun rv τ' => (∃ v, rv = some (.long v) ∧ p_vw B a b v) ∧ τ' = τ) := by
  have hlen := hB.2.1
  refine n_ofW (by decide) (Nat.le_of_ble_eq_true rfl) ?_
  intro p e s m below meth c hC
  have main : ∀ (ls : Int32) (fr : Nat), fr = p_from B a → ((b_at B a = 45 ∧ ls = 1) ∨ (b_at B a ≠ 45 ∧ ls = 0)) → ∀ (t k : Nat) (v : Int64), t + k = b → fr ≤ k → ((∀ i, fr ≤ i → i < k → p_dg (b_at B i)) → ∃ V, V < 100000000000 ∧ v = Int64.ofNat V ∧ (V = p_dec B fr (k - fr) ∨ (9999999999 < V ∧ V ≤ p_dec B fr (k - fr)))) → n_W p l e s m [Value.ref (ad 0 0)].toArray below meth c (rw D ca ad Ex) (d + 1) (fun rv τ' => (∃ v, rv = some (.long v) ∧ p_vw B a b v) ∧ τ' = τ) 40 [some (.ref (ad 0 0)), some (.int ls), some (.long v), none, some (.int (nI k))] [] τ := by
    intro ls fr hfr hls t
    induction t with
    | zero =>
      intro k v hk hfk hv
      have : k = b := by omega
      subst this
      refine n_iload hC dX12_valueOfWord_40 rfl ?_
      refine n_aload_n hC dX12_valueOfWord_42 rfl rfl ?_
      refine gm_wordEnd hC wfX12_230 dX12_valueOfWord_43 ?_
      rw [hw]
      refine n_icmp_ge (tgt := 85) hC dX12_valueOfWord_46 (by decide) (fun h => ?_) (fun h => ?_)
      · refine n_iload_n hC dX12_valueOfWord_85 rfl rfl ?_
        refine n_if_eq (tgt := 94) hC dX12_valueOfWord_86 (by decide) (fun h => ?_) (fun h => ?_)
        · have hz : b_at B a ≠ 45 := by
            rcases hls with ⟨_, q⟩ | ⟨q, _⟩
            · rw [q] at h; exact absurd h (by decide)
            · exact q
          refine n_lload_n hC dX12_valueOfWord_94 rfl rfl ?_
          refine n_lret hC dX12_valueOfWord_95 ?_
          refine ⟨⟨_, rfl, fun hd => ?_⟩, rfl⟩
          rw [hfr] at hv
          obtain ⟨V, q1, q2, q3⟩ := hv hd
          exact ⟨V, q1, by rw [if_neg hz]; exact q2, q3⟩
        · have hz : b_at B a = 45 := by
            rcases hls with ⟨q, _⟩ | ⟨_, q⟩
            · exact q
            · exact absurd q h
          refine n_lload_n hC dX12_valueOfWord_89 rfl rfl ?_
          refine n_lneg hC dX12_valueOfWord_90 ?_
          refine n_goto (tgt := 95) hC dX12_valueOfWord_91 (by decide) ?_
          refine n_lret hC dX12_valueOfWord_95 ?_
          refine ⟨⟨_, rfl, fun hd => ?_⟩, rfl⟩
          rw [hfr] at hv
          obtain ⟨V, q1, q2, q3⟩ := hv hd
          exact ⟨V, q1, by rw [if_pos hz, q2], q3⟩
      · exact absurd (Int32.le_refl _) h
    | succ t ih =>
      intro k v hk hfk hv
      have edec : p_dec B fr (k + 1 - fr) = p_dec B fr (k - fr) * 10 + ((b_at B k).toNatClampNeg - 48) := by
        rw [show k + 1 - fr = (k - fr) + 1 by omega]
        rw [p_dec_s, show fr + (k - fr) = k by omega]
      refine n_iload hC dX12_valueOfWord_40 rfl ?_
      refine n_aload_n hC dX12_valueOfWord_42 rfl rfl ?_
      refine gm_wordEnd hC wfX12_230 dX12_valueOfWord_43 ?_
      rw [hw]
      refine n_icmp_ge (tgt := 85) hC dX12_valueOfWord_46 (by decide) (fun h => ?_) (fun h => ?_)
      · exact absurd h (nI_ge (by omega) (by omega))
      · clear h
        refine n_lload_n hC dX12_valueOfWord_49 rfl rfl ?_
        refine n_ldc2 hC wkX12_262 dX12_valueOfWord_50 ?_
        refine n_lcmp hC dX12_valueOfWord_53 ?_
        refine n_if_le (tgt := 61) hC dX12_valueOfWord_54 (by decide) (fun h => ?_) (fun h => ?_)
        · have hle := (lg_cmp_le _ _).mp h
          clear h
          refine n_ldc2 hC wkX12_264 dX12_valueOfWord_61 ?_
          refine n_lload_n hC dX12_valueOfWord_64 rfl rfl ?_
          refine n_lmul hC dX12_valueOfWord_65 ?_
          refine n_aload_n hC dX12_valueOfWord_66 rfl rfl ?_
          refine n_iload hC dX12_valueOfWord_67 rfl ?_
          refine n_callV hC (x_byteOf d k B τ hB (by omega)) (Nat.le_refl _) (by decide) (by first | exact rfl | with_reducible assumption) rfl rfl rfl ⟨wmX12_233, wi_yX12_byteOf, wv_yX12_byteOf, wzX12, wc_yX12_byteOf⟩ hy_yX12_byteOf rfl (Nat.le_of_ble_eq_true rfl) dX12_valueOfWord_69 (fun rv σ' hpo => ?_)
          obtain ⟨rfl, hσ⟩ := hpo
          rw [hσ]
          refine n_i2l hC dX12_valueOfWord_72 rfl ?_
          refine n_ladd hC dX12_valueOfWord_73 ?_
          refine n_ldc2 hC wkX12_266 dX12_valueOfWord_74 ?_
          refine n_lsub hC dX12_valueOfWord_77 ?_
          refine n_lstore_n hC dX12_valueOfWord_78 rfl (Nat.le_of_ble_eq_true rfl) ?_
          refine n_iinc hC dX12_valueOfWord_79 rfl (show _ + Int32.ofInt 1 = _ + 1 from rfl) ?_
          refine n_goto (tgt := 40) hC dX12_valueOfWord_82 (by decide) ?_
          rw [nI_1]
          refine ih (k + 1) _ (by omega) (by omega) (fun hd => ?_)
          obtain ⟨V, q1, q2, q3⟩ := hv (fun i u1 u2 => hd i u1 (by omega))
          have hVle : V ≤ 9999999999 := by
            rw [q2, show (9999999999 : Int64) = Int64.ofNat 9999999999 from rfl, i64_le (by omega) (by omega)] at hle
            exact hle
          obtain ⟨x, x1, x2, x3⟩ := p_dg_b (hd k hfk (by omega))
          have x4 : x ≤ 57 := by
            have := (hd k hfk (by omega)).2
            rw [x3] at this
            exact (nI_leI (b := 57) (by omega) (by omega)).mp this
          refine ⟨V * 10 + (x - 48), by omega, ?_, Or.inl ?_⟩
          · rw [q2, x3, nI_64 x x1]
            exact i64_step x2
          · rw [edec, x3, nI_clamp (by omega)]
            rcases q3 with q3 | q3 <;> omega
        · have hgt : (9999999999 : Int64) < v := Int64.not_le.mp (fun z => h ((lg_cmp_le _ _).mpr z))
          clear h
          refine n_lload_n hC dX12_valueOfWord_57 rfl rfl ?_
          refine n_goto (tgt := 78) hC dX12_valueOfWord_58 (by decide) ?_
          refine n_lstore_n hC dX12_valueOfWord_78 rfl (Nat.le_of_ble_eq_true rfl) ?_
          refine n_iinc hC dX12_valueOfWord_79 rfl (show _ + Int32.ofInt 1 = _ + 1 from rfl) ?_
          refine n_goto (tgt := 40) hC dX12_valueOfWord_82 (by decide) ?_
          rw [nI_1]
          refine ih (k + 1) _ (by omega) (by omega) (fun hd => ?_)
          obtain ⟨V, q1, q2, q3⟩ := hv (fun i u1 u2 => hd i u1 (by omega))
          have hVgt : 9999999999 < V := by
            rcases Nat.lt_or_ge 9999999999 V with z | z
            · exact z
            · exfalso
              have := (i64_le (a := V) (b := 9999999999) (by omega) (by omega)).mpr z
              rw [← q2] at this
              exact absurd hgt (Int64.not_lt.mpr this)
          refine ⟨V, q1, q2, Or.inr ⟨hVgt, ?_⟩⟩
          rw [edec]
          omega
  refine n_aload_n hC dX12_valueOfWord_0 rfl rfl ?_
  refine n_aload_n hC dX12_valueOfWord_1 rfl rfl ?_
  refine gm_wordAt hC wfX12_241 dX12_valueOfWord_2 ?_
  rw [ha]
  refine n_callV hC (x_byteOf d a B τ hB (by omega)) (Nat.le_refl _) (by decide) (by first | exact rfl | with_reducible assumption) rfl rfl rfl ⟨wmX12_233, wi_yX12_byteOf, wv_yX12_byteOf, wzX12, wc_yX12_byteOf⟩ hy_yX12_byteOf rfl (Nat.le_of_ble_eq_true rfl) dX12_valueOfWord_5 (fun rv σ' hpo => ?_)
  obtain ⟨rfl, hσ⟩ := hpo
  rw [hσ]
  refine n_bipush (v := 45) hC dX12_valueOfWord_8 (by decide) ?_
  refine n_icmp_ne (tgt := 17) hC dX12_valueOfWord_10 (by decide) (fun h => ?_) (fun h => ?_)
  · have hz := h
    clear h
    refine n_iconst (v := 0) hC dX12_valueOfWord_17 (by decide) ?_
    refine n_istore_n hC dX12_valueOfWord_18 rfl (Nat.le_of_ble_eq_true rfl) ?_
    refine n_lconst (v := 0) hC dX12_valueOfWord_19 (by decide) ?_
    refine n_lstore_n hC dX12_valueOfWord_20 rfl (Nat.le_of_ble_eq_true rfl) ?_
    refine n_iload_n hC dX12_valueOfWord_21 rfl rfl ?_
    refine n_if_eq (tgt := 34) hC dX12_valueOfWord_22 (by decide) (fun h => ?_) (fun h => ?_)
    · refine n_aload_n hC dX12_valueOfWord_34 rfl rfl ?_
      refine gm_wordAt hC wfX12_241 dX12_valueOfWord_35 ?_
      rw [ha]
      refine n_istore hC dX12_valueOfWord_38 (Nat.le_of_ble_eq_true rfl) ?_
      exact main 0 a (by unfold p_from; rw [if_neg hz]) (Or.inr ⟨hz, rfl⟩) (b - a) a 0 (by omega) (Nat.le_refl _) (fun _ => ⟨0, by omega, rfl, Or.inl (by rw [Nat.sub_self]; rfl)⟩)
    · exact absurd rfl h
  · have hz := h
    clear h
    refine n_iconst (v := 1) hC dX12_valueOfWord_13 (by decide) ?_
    refine n_goto (tgt := 18) hC dX12_valueOfWord_14 (by decide) ?_
    refine n_istore_n hC dX12_valueOfWord_18 rfl (Nat.le_of_ble_eq_true rfl) ?_
    refine n_lconst (v := 0) hC dX12_valueOfWord_19 (by decide) ?_
    refine n_lstore_n hC dX12_valueOfWord_20 rfl (Nat.le_of_ble_eq_true rfl) ?_
    refine n_iload_n hC dX12_valueOfWord_21 rfl rfl ?_
    refine n_if_eq (tgt := 34) hC dX12_valueOfWord_22 (by decide) (fun h => ?_) (fun h => ?_)
    · exact absurd h (by decide)
    · refine n_aload_n hC dX12_valueOfWord_25 rfl rfl ?_
      refine gm_wordAt hC wfX12_241 dX12_valueOfWord_26 ?_
      rw [ha]
      refine n_iconst (v := 1) hC dX12_valueOfWord_29 (by decide) ?_
      refine n_iadd hC dX12_valueOfWord_30 ?_
      refine n_goto (tgt := 38) hC dX12_valueOfWord_31 (by decide) ?_
      rw [nI_1]
      refine n_istore hC dX12_valueOfWord_38 (Nat.le_of_ble_eq_true rfl) ?_
      exact main 1 (a + 1) (by unfold p_from; rw [if_pos hz]) (Or.inl ⟨hz, rfl⟩) (b - (a + 1)) (a + 1) 0 (by omega) (Nat.le_refl _) (fun _ => ⟨0, by omega, rfl, Or.inl (by rw [Nat.sub_self]; rfl)⟩)
theorem x_isNumber (d a b : Nat) (B : List Int32) (τ : n_S) (hB : TB B τ) (hab : a < b) (hb : b ≤ B.length) (ha : τ 0 0 17 = nI a) (hw : τ 0 0 18 = nI b) : n_Ct l (rw D ca ad Ex) (d + 2) yX12_isNumber cX12_isNumber 5 (some .boolean) [.ref (ad 0 0)] τ (fun rv τ' => ((p_isn B a b ∧ rv = some (.int 1)) ∨ (¬ p_isn B a b ∧ rv = some (.int 0))) ∧ τ' = τ) := by
  have hlen := hB.2.1
  refine n_ofW (by decide) (Nat.le_of_ble_eq_true rfl) ?_
  intro p e s m below meth c hC
  have no : ∀ (w1 w2 w3 w4 : Option Value), ¬ p_isn B a b → n_W p l e s m [Value.ref (ad 0 0)].toArray below meth c (rw D ca ad Ex) (d + 2) (fun rv τ' => ((p_isn B a b ∧ rv = some (.int 1)) ∨ (¬ p_isn B a b ∧ rv = some (.int 0))) ∧ τ' = τ) 99 [some (.ref (ad 0 0)), w1, w2, w3, w4] [] τ := by
    intro w1 w2 w3 w4 hn
    refine n_iconst (v := 0) hC dX12_isNumber_99 (by decide) ?_
    refine n_zret hC dX12_isNumber_100 rfl ?_
    exact ⟨Or.inr ⟨hn, rfl⟩, rfl⟩
  have at70 : ∀ (fr : Nat) (w : Option Value) (b2 : Int32), fr = p_from B a → ((b2 = 1 ∧ fr < b ∧ ∀ i, fr ≤ i → i < b → p_dg (b_at B i)) ∨ (b2 = 0 ∧ ¬ (fr < b ∧ ∀ i, fr ≤ i → i < b → p_dg (b_at B i)))) → n_W p l e s m [Value.ref (ad 0 0)].toArray below meth c (rw D ca ad Ex) (d + 2) (fun rv τ' => ((p_isn B a b ∧ rv = some (.int 1)) ∨ (¬ p_isn B a b ∧ rv = some (.int 0))) ∧ τ' = τ) 70 [some (.ref (ad 0 0)), some (.int (nI fr)), some (.int b2), w, none] [] τ := by
    intro fr w b2 hfr hb2
    refine n_aload_n hC dX12_isNumber_70 rfl rfl ?_
    refine n_callV hC (x_valueOfWord d a b B τ hB hab hb ha hw) (Nat.le_refl _) (by decide) (by first | exact rfl | with_reducible assumption) rfl rfl rfl ⟨wmX12_254, wi_yX12_valueOfWord, wv_yX12_valueOfWord, wzX12, wc_yX12_valueOfWord⟩ hy_yX12_valueOfWord rfl (Nat.le_of_ble_eq_true rfl) dX12_isNumber_71 (fun rv σ' hpo => ?_)
    obtain ⟨⟨v, rfl, hv⟩, hσ⟩ := hpo
    rw [hσ]
    refine n_lstore_n hC dX12_isNumber_74 rfl (Nat.le_of_ble_eq_true rfl) ?_
    refine n_iload_n hC dX12_isNumber_75 rfl rfl ?_
    refine n_if_eq (tgt := 99) hC dX12_isNumber_76 (by decide) (fun h => ?_) (fun h => ?_)
    · refine no _ _ _ _ (fun z => ?_)
      rcases hb2 with ⟨q, _⟩ | ⟨_, q⟩
      · rw [h] at q; exact absurd q (by decide)
      · rw [hfr] at q
        exact q ⟨z.1, z.2.1⟩
    · have hd : fr < b ∧ ∀ i, fr ≤ i → i < b → p_dg (b_at B i) := by
        rcases hb2 with ⟨_, q⟩ | ⟨q, _⟩
        · exact q
        · exact absurd q h
      clear h
      rw [hfr] at hd
      have rng := p_vw_rng hv hd.2
      refine n_lload_n hC dX12_isNumber_79 rfl rfl ?_
      refine n_ldc2 hC wkX12_258 dX12_isNumber_80 ?_
      refine n_lcmp hC dX12_isNumber_83 ?_
      refine n_if_lt (tgt := 99) hC dX12_isNumber_84 (by decide) (fun h => ?_) (fun h => ?_)
      · refine no _ _ _ _ (fun z => ?_)
        have := (rng.mpr z.2.2).1
        exact absurd ((lg_cmp_lt _ _).mp h) (Int64.not_lt.mpr this)
      · have g1 : (-2147483648 : Int64) ≤ v := Int64.not_lt.mp (fun z => h ((lg_cmp_lt _ _).mpr z))
        clear h
        refine n_lload_n hC dX12_isNumber_87 rfl rfl ?_
        refine n_ldc2 hC wkX12_260 dX12_isNumber_88 ?_
        refine n_lcmp hC dX12_isNumber_91 ?_
        refine n_if_gt (tgt := 99) hC dX12_isNumber_92 (by decide) (fun h => ?_) (fun h => ?_)
        · refine no _ _ _ _ (fun z => ?_)
          have := (rng.mpr z.2.2).2
          exact absurd ((lg_cmp_gt _ _).mp h) (Int64.not_lt.mpr this)
        · have g2 : v ≤ (2147483647 : Int64) := Int64.not_lt.mp (fun z => h ((lg_cmp_gt _ _).mpr z))
          refine n_iconst (v := 1) hC dX12_isNumber_95 (by decide) ?_
          refine n_goto (tgt := 100) hC dX12_isNumber_96 (by decide) ?_
          refine n_zret hC dX12_isNumber_100 rfl ?_
          exact ⟨Or.inl ⟨⟨hd.1, hd.2, rng.mp ⟨g1, g2⟩⟩, rfl⟩, rfl⟩
  have loop : ∀ fr : Nat, fr = p_from B a → fr < b → ∀ (t k : Nat), t + k = b → fr ≤ k → (∀ i, fr ≤ i → i < k → p_dg (b_at B i)) → n_W p l e s m [Value.ref (ad 0 0)].toArray below meth c (rw D ca ad Ex) (d + 2) (fun rv τ' => ((p_isn B a b ∧ rv = some (.int 1)) ∨ (¬ p_isn B a b ∧ rv = some (.int 0))) ∧ τ' = τ) 43 [some (.ref (ad 0 0)), some (.int (nI fr)), some (.int 1), some (.int (nI k)), none] [] τ := by
    intro fr hfr hfb t
    induction t with
    | zero =>
      intro k hk hfk hall
      have : k = b := by omega
      subst this
      refine n_iload_n hC dX12_isNumber_43 rfl rfl ?_
      refine n_aload_n hC dX12_isNumber_44 rfl rfl ?_
      refine gm_wordEnd hC wfX12_230 dX12_isNumber_45 ?_
      rw [hw]
      refine n_icmp_ge (tgt := 70) hC dX12_isNumber_48 (by decide) (fun h => ?_) (fun h => ?_)
      · exact at70 fr _ 1 hfr (Or.inl ⟨rfl, hfb, hall⟩)
      · exact absurd (Int32.le_refl _) h
    | succ t ih =>
      intro k hk hfk hall
      refine n_iload_n hC dX12_isNumber_43 rfl rfl ?_
      refine n_aload_n hC dX12_isNumber_44 rfl rfl ?_
      refine gm_wordEnd hC wfX12_230 dX12_isNumber_45 ?_
      rw [hw]
      refine n_icmp_ge (tgt := 70) hC dX12_isNumber_48 (by decide) (fun h => ?_) (fun h => ?_)
      · exact absurd h (nI_ge (by omega) (by omega))
      · clear h
        refine n_iload_n hC dX12_isNumber_51 rfl rfl ?_
        refine n_if_eq (tgt := 70) hC dX12_isNumber_52 (by decide) (fun h => ?_) (fun h => ?_)
        · exact absurd h (by decide)
        · clear h
          refine n_aload_n hC dX12_isNumber_55 rfl rfl ?_
          refine n_iload_n hC dX12_isNumber_56 rfl rfl ?_
          refine n_callV hC (x_byteOf (d + 1) k B τ hB (by omega)) (Nat.le_refl _) (by decide) (by first | exact rfl | with_reducible assumption) rfl rfl rfl ⟨wmX12_233, wi_yX12_byteOf, wv_yX12_byteOf, wzX12, wc_yX12_byteOf⟩ hy_yX12_byteOf rfl (Nat.le_of_ble_eq_true rfl) dX12_isNumber_57 (fun rv σ' hpo => ?_)
          obtain ⟨rfl, hσ⟩ := hpo
          rw [hσ]
          refine n_callS hC (x_isDigit (d + 1) (b_at B k) τ) (Nat.le_refl _) (by decide) ⟨wmX12_251, ws_yX12_isDigit, wzX12, wc_yX12_isDigit⟩ hy_yX12_isDigit rfl (Nat.le_of_ble_eq_true rfl) dX12_isNumber_60 (fun rv σ' hpo => ?_)
          obtain ⟨hpo, hσ⟩ := hpo
          rw [hσ]
          rcases hpo with ⟨q, rfl⟩ | ⟨q, rfl⟩
          · refine n_istore_n hC dX12_isNumber_63 rfl (Nat.le_of_ble_eq_true rfl) ?_
            refine n_iinc hC dX12_isNumber_64 rfl (show _ + Int32.ofInt 1 = _ + 1 from rfl) ?_
            refine n_goto (tgt := 43) hC dX12_isNumber_67 (by decide) ?_
            rw [nI_1]
            refine ih (k + 1) (by omega) (by omega) (fun i u1 u2 => ?_)
            by_cases z : i = k
            · rw [z]; exact q
            · exact hall i u1 (by omega)
          · refine n_istore_n hC dX12_isNumber_63 rfl (Nat.le_of_ble_eq_true rfl) ?_
            refine n_iinc hC dX12_isNumber_64 rfl (show _ + Int32.ofInt 1 = _ + 1 from rfl) ?_
            refine n_goto (tgt := 43) hC dX12_isNumber_67 (by decide) ?_
            rw [nI_1]
            have bad : ¬ (fr < b ∧ ∀ i, fr ≤ i → i < b → p_dg (b_at B i)) := fun z => q (z.2 k hfk (by omega))
            refine n_iload_n hC dX12_isNumber_43 rfl rfl ?_
            refine n_aload_n hC dX12_isNumber_44 rfl rfl ?_
            refine gm_wordEnd hC wfX12_230 dX12_isNumber_45 ?_
            rw [hw]
            refine n_icmp_ge (tgt := 70) hC dX12_isNumber_48 (by decide) (fun h => ?_) (fun h => ?_)
            · exact at70 fr _ 0 hfr (Or.inr ⟨rfl, bad⟩)
            · refine n_iload_n hC dX12_isNumber_51 rfl rfl ?_
              refine n_if_eq (tgt := 70) hC dX12_isNumber_52 (by decide) (fun h => ?_) (fun h => ?_)
              · exact at70 fr _ 0 hfr (Or.inr ⟨rfl, bad⟩)
              · exact absurd rfl h
  have at26 : ∀ fr : Nat, fr = p_from B a → fr ≤ b → n_W p l e s m [Value.ref (ad 0 0)].toArray below meth c (rw D ca ad Ex) (d + 2) (fun rv τ' => ((p_isn B a b ∧ rv = some (.int 1)) ∨ (¬ p_isn B a b ∧ rv = some (.int 0))) ∧ τ' = τ) 26 [some (.ref (ad 0 0)), none, none, none, none] [.int (nI fr)] τ := by
    intro fr hfr hfb
    refine n_istore_n hC dX12_isNumber_26 rfl (Nat.le_of_ble_eq_true rfl) ?_
    refine n_iload_n hC dX12_isNumber_27 rfl rfl ?_
    refine n_aload_n hC dX12_isNumber_28 rfl rfl ?_
    refine gm_wordEnd hC wfX12_230 dX12_isNumber_29 ?_
    rw [hw]
    refine n_icmp_ge (tgt := 39) hC dX12_isNumber_32 (by decide) (fun h => ?_) (fun h => ?_)
    · have bad : ¬ (fr < b ∧ ∀ i, fr ≤ i → i < b → p_dg (b_at B i)) := fun z => by
        have := (nI_leI (by omega) (by omega)).mp h
        omega
      clear h
      refine n_iconst (v := 0) hC dX12_isNumber_39 (by decide) ?_
      refine n_istore_n hC dX12_isNumber_40 rfl (Nat.le_of_ble_eq_true rfl) ?_
      refine n_iload_n hC dX12_isNumber_41 rfl rfl ?_
      refine n_istore_n hC dX12_isNumber_42 rfl (Nat.le_of_ble_eq_true rfl) ?_
      refine n_iload_n hC dX12_isNumber_43 rfl rfl ?_
      refine n_aload_n hC dX12_isNumber_44 rfl rfl ?_
      refine gm_wordEnd hC wfX12_230 dX12_isNumber_45 ?_
      rw [hw]
      refine n_icmp_ge (tgt := 70) hC dX12_isNumber_48 (by decide) (fun h => ?_) (fun h => ?_)
      · exact at70 fr _ 0 hfr (Or.inr ⟨rfl, bad⟩)
      · refine n_iload_n hC dX12_isNumber_51 rfl rfl ?_
        refine n_if_eq (tgt := 70) hC dX12_isNumber_52 (by decide) (fun h => ?_) (fun h => ?_)
        · exact at70 fr _ 0 hfr (Or.inr ⟨rfl, bad⟩)
        · exact absurd rfl h
    · have hlt : fr < b := by
        rcases Nat.lt_or_ge fr b with z | z
        · exact z
        · exact absurd (nI_le z (by omega)) h
      refine n_iconst (v := 1) hC dX12_isNumber_35 (by decide) ?_
      refine n_goto (tgt := 40) hC dX12_isNumber_36 (by decide) ?_
      refine n_istore_n hC dX12_isNumber_40 rfl (Nat.le_of_ble_eq_true rfl) ?_
      refine n_iload_n hC dX12_isNumber_41 rfl rfl ?_
      refine n_istore_n hC dX12_isNumber_42 rfl (Nat.le_of_ble_eq_true rfl) ?_
      exact loop fr hfr hlt (b - fr) fr (by omega) (Nat.le_refl _) (fun i u1 u2 => by omega)
  refine n_aload_n hC dX12_isNumber_0 rfl rfl ?_
  refine n_aload_n hC dX12_isNumber_1 rfl rfl ?_
  refine gm_wordAt hC wfX12_241 dX12_isNumber_2 ?_
  rw [ha]
  refine n_callV hC (x_byteOf (d + 1) a B τ hB (by omega)) (Nat.le_refl _) (by decide) (by first | exact rfl | with_reducible assumption) rfl rfl rfl ⟨wmX12_233, wi_yX12_byteOf, wv_yX12_byteOf, wzX12, wc_yX12_byteOf⟩ hy_yX12_byteOf rfl (Nat.le_of_ble_eq_true rfl) dX12_isNumber_5 (fun rv σ' hpo => ?_)
  obtain ⟨rfl, hσ⟩ := hpo
  rw [hσ]
  refine n_bipush (v := 45) hC dX12_isNumber_8 (by decide) ?_
  refine n_icmp_ne (tgt := 22) hC dX12_isNumber_10 (by decide) (fun h => ?_) (fun h => ?_)
  · refine n_aload_n hC dX12_isNumber_22 rfl rfl ?_
    refine gm_wordAt hC wfX12_241 dX12_isNumber_23 ?_
    rw [ha]
    exact at26 a (by unfold p_from; rw [if_neg h]) (by omega)
  · refine n_aload_n hC dX12_isNumber_13 rfl rfl ?_
    refine gm_wordAt hC wfX12_241 dX12_isNumber_14 ?_
    rw [ha]
    refine n_iconst (v := 1) hC dX12_isNumber_17 (by decide) ?_
    refine n_iadd hC dX12_isNumber_18 ?_
    refine n_goto (tgt := 26) hC dX12_isNumber_19 (by decide) ?_
    rw [nI_1]
    exact at26 (a + 1) (by unfold p_from; rw [if_pos h]) (by omega)
end RP4
