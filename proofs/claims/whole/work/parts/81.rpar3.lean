section LCMP
variable {St : Type} {p : Program} {l : Launch} {e : Env} {s : State} {m : MethodId} {args : Array Value} {below : List Frame} {meth : Method} {c : Code} {w : n_Wd St} {d : Nat} {Po : Option Value → St → Prop} {cc : ByteArray} {nL : Nat} {own : String} {ret : Option FieldType}
variable {pc : Nat} {ls : List (Option Value)} {rest : List Value} {σ : St}
theorem n_lcmp (hC : n_C p s m args meth c w cc nL own ret) {x y : Int64} (hdg : decode cc pc = .ok (.lcmp, 1)) (k : n_W p l e s m args below meth c w d Po (pc + 1) ls (.int (lg_cmp x y) :: rest) σ) : n_W p l e s m args below meth c w d Po pc ls (.long y :: .long x :: rest) σ := fun H locs la z1 z2 z3 => W.lcmp hC.1 hC.2.1 hdg (k H locs la z1 z2 z3)
end LCMP
theorem pkN_cong {f g : Nat → Nat} : ∀ {n : Nat}, (∀ i, i < n → f i = g i) → pkN f n = pkN g n
  | 0, _ => rfl
  | n + 1, h => by
    show pkN f n * 256 + f n = pkN g n * 256 + g n
    rw [pkN_cong (n := n) (fun i hi => h i (by omega)), h n (by omega)]
theorem i64_ofNat {a b : Nat} (ha : a < 2 ^ 63) (hb : b < 2 ^ 63) (h : Int64.ofNat a = Int64.ofNat b) : a = b := by
  have h1 : (Int64.ofNat a).toBitVec.toNat = (Int64.ofNat b).toBitVec.toNat := by rw [h]
  rw [Int64.toBitVec_ofNat', Int64.toBitVec_ofNat', BitVec.toNat_ofNat, BitVec.toNat_ofNat] at h1
  omega
theorem nI_64 : ∀ b, b < 256 → (nI b).toInt64 = Int64.ofNat b := by decide +kernel
theorem pack1 {V b : Nat} (hV : V < 2 ^ 48) (hb : b < 256) : Int64.ofNat V <<< ((8 : Int32).toInt64 &&& 63) ||| (nI b).toInt64 = Int64.ofNat (V * 256 + b) := by
  rw [nI_64 b hb, show (8 : Int32).toInt64 &&& 63 = 8 from by decide]
  apply Int64.toBitVec_inj.mp
  rw [Int64.toBitVec_or, Int64.toBitVec_ofNat', Int64.toBitVec_ofNat', Int64.toBitVec_shiftLeft, Int64.toBitVec_ofNat']
  have e8 : (Int64.toBitVec 8).smod 64 = 8#64 := by decide
  rw [e8]
  apply BitVec.eq_of_toNat_eq
  rw [BitVec.toNat_or, BitVec.toNat_ofNat, BitVec.toNat_ofNat]
  have h1 : (BitVec.ofNat 64 V <<< 8#64).toNat = V <<< 8 := by
    show (BitVec.ofNat 64 V <<< (8#64).toNat).toNat = V <<< 8
    rw [BitVec.toNat_shiftLeft, BitVec.toNat_ofNat, show (8#64).toNat = 8 from rfl, Nat.mod_eq_of_lt (show V < 2 ^ 64 by omega), Nat.shiftLeft_eq, Nat.mod_eq_of_lt (by omega)]
  rw [h1, Nat.mod_eq_of_lt (show b < 2 ^ 64 by omega), ← Nat.shiftLeft_add_eq_or_of_lt (show b < 2 ^ 8 by omega), Nat.shiftLeft_eq, Nat.mod_eq_of_lt (by omega)]
section RP3
variable {l : Launch} {D : va_G} {ca : Nat → ClassId} {ad : Nat → Nat → Nat} {Ex : State → Heap → Prop}
theorem x_operation (d s0 n : Nat) (B : List Int32) (τ : n_S) (hB : TB B τ) (hle : s0 + n ≤ B.length) : n_Ct l (rw D ca ad Ex) (d + 1) yX12_operation cX12_operation 8 (some .int) [.ref (ad 0 0), .int (nI s0), .int (nI n)] τ (fun rv τ' => ((∃ k, p_opc B s0 n k ∧ rv = some (.int (nI (r_op (k + 1))))) ∨ ((¬ ∃ k, p_opc B s0 n k) ∧ rv = some (.int (-1)))) ∧ τ' = τ) := by
  have hlen := hB.2.1
  have hf : ∀ i, i < n → b_at B (s0 + i) = nI (b_at B (s0 + i)).toNatClampNeg ∧ (b_at B (s0 + i)).toNatClampNeg < 256 := by
    intro i hi
    obtain ⟨b, hb, e⟩ := b_at_nat (B := B) (k := s0 + i) (by omega)
    rw [e, nI_clamp (by omega)]
    exact ⟨rfl, hb⟩
  generalize hfe : (fun i => (b_at B (s0 + i)).toNatClampNeg) = f at *
  have hf1 : ∀ i, i < n → b_at B (s0 + i) = nI (f i) ∧ f i < 256 := by
    intro i hi
    rw [← hfe]
    exact hf i hi
  -- a place of the table that the word's packed bytes equal, and an instruction's text
  have toOp : ∀ j, j < 42 → n < 8 → (∀ i, i < n → f i ≠ 0) → rw_wo.getD j 0 = Int64.ofNat (pkN f n) → p_opc B s0 n (r_inv.getD j 0) ∧ nI (r_op (r_inv.getD j 0 + 1)) = nI (j + 1) := by
    intro j hj hn8 hnz he
    obtain ⟨v1, v2, v3⟩ := r_inv_ok j hj
    obtain ⟨t1, t2, t3, t4, t5, t6⟩ := p_tx_ok _ v1 v2
    rw [v3, Nat.add_sub_cancel, he] at t4
    have l1 : pkN f n < 256 ^ n := pkN_lt (fun i hi => (hf1 i hi).2)
    have l2 : pkN (fun i => (p_tx (r_inv.getD j 0)).getD i 0) (p_tx (r_inv.getD j 0)).length < 256 ^ (p_tx (r_inv.getD j 0)).length := pkN_lt (fun i hi => by have := (p_tx_b v1 v2 hi).2; omega)
    have p1 : (256 : Nat) ^ n ≤ 256 ^ 7 := Nat.pow_le_pow_right (by omega) (by omega)
    have p2 : (256 : Nat) ^ (p_tx (r_inv.getD j 0)).length ≤ 256 ^ 7 := Nat.pow_le_pow_right (by omega) (by omega)
    have e := i64_ofNat (by omega) (by omega) t4
    obtain ⟨e1, e2⟩ := pkN_inj (fun i hi => ⟨hnz i hi, (hf1 i hi).2⟩) (fun i hi => by have := p_tx_b v1 v2 hi; exact ⟨this.1, by omega⟩) e
    exact ⟨⟨v1, v2, e1, fun i hi => by rw [(hf1 i hi).1, e2 i hi]⟩, by rw [v3]⟩
  have ofOp : ∀ k, p_opc B s0 n k → n < 8 ∧ (∀ i, i < n → f i ≠ 0) ∧ ∃ j, j < 42 ∧ rw_wo.getD j 0 = Int64.ofNat (pkN f n) := by
    rintro k ⟨k1, k2, k3, k4⟩
    obtain ⟨t1, t2, t3, t4, t5, t6⟩ := p_tx_ok k k1 k2
    have ef : ∀ i, i < n → f i = (p_tx k).getD i 0 := by
      intro i hi
      have h1 := (hf1 i hi).1.symm.trans (k4 i hi)
      have h2 := p_tx_b k1 k2 (i := i) (by omega)
      have h3 := (hf1 i hi).2
      exact (nI_eq (by omega) (by omega)).mp h1
    refine ⟨by omega, fun i hi => ?_, r_op (k + 1) - 1, by omega, ?_⟩
    · rw [ef i hi]
      exact (p_tx_b k1 k2 (by omega)).1
    · rw [t4, pkN_cong ef, ← k3]
  refine n_ofW (by decide) (Nat.le_of_ble_eq_true rfl) ?_
  intro p e s m below meth c hC
  have loop2 : ∀ (v : Int64) (pl : Int32), ((n < 8 ∧ v = Int64.ofNat (pkN f n) ∧ ((pl = 1 ∧ ∀ i, i < n → f i ≠ 0) ∨ (pl = 0 ∧ ¬ ∀ i, i < n → f i ≠ 0))) ∨ (¬ n < 8 ∧ (pl = 0 ∨ pl = 1))) → ∀ (t j : Nat) (fd : Int32), t + j = 42 → ((fd = -1 ∧ ∀ i, i < j → ¬ (pl = 1 ∧ n < 8 ∧ rw_wo.getD i 0 = v)) ∨ (∃ i, i < j ∧ (pl = 1 ∧ n < 8 ∧ rw_wo.getD i 0 = v) ∧ fd = nI (i + 1))) → n_W p l e s m [Value.ref (ad 0 0), Value.int (nI s0), Value.int (nI n)].toArray below meth c (rw D ca ad Ex) (d + 1) (fun rv τ' => ((∃ k, p_opc B s0 n k ∧ rv = some (.int (nI (r_op (k + 1))))) ∨ ((¬ ∃ k, p_opc B s0 n k) ∧ rv = some (.int (-1)))) ∧ τ' = τ) 70 [some (.ref (ad 0 0)), some (.int (nI s0)), some (.int (nI n)), some (.long v), none, some (.int pl), some (.int fd), some (.int (nI j))] [] τ := by
    intro v pl hv t
    induction t with
    | zero =>
      intro j fd hj hfd
      have : j = 42 := by omega
      subst this
      refine n_iload hC dX12_operation_70 rfl ?_
      refine n_bipush (v := 42) hC dX12_operation_72 (by decide) ?_
      refine n_icmp_ge (tgt := 117) hC dX12_operation_74 (by decide) (fun h => ?_) (fun h => ?_)
      · refine n_iload hC dX12_operation_117 rfl ?_
        refine n_iret hC dX12_operation_119 ?_
        refine ⟨?_, rfl⟩
        rcases hfd with ⟨rfl, hno⟩ | ⟨i, hi, ⟨q1, q2, q3⟩, rfl⟩
        · refine Or.inr ⟨fun ⟨k, hk⟩ => ?_, rfl⟩
          obtain ⟨o1, o2, j, o3, o4⟩ := ofOp k hk
          rcases hv with ⟨_, e2, ⟨e3, _⟩ | ⟨_, e3⟩⟩ | ⟨e2, _⟩
          · exact hno j o3 ⟨e3, o1, by rw [o4, e2]⟩
          · exact e3 o2
          · exact e2 o1
        · rcases hv with ⟨e1, e2, ⟨e3, e4⟩ | ⟨e3, _⟩⟩ | ⟨e2, _⟩
          · rw [e2] at q3
            obtain ⟨a, b⟩ := toOp i hi e1 e4 q3
            exact Or.inl ⟨_, a, by rw [b]⟩
          · rw [e3] at q1
            exact absurd q1 (by decide)
          · exact absurd q2 e2
      · exact absurd (by decide) h
    | succ t ih =>
      intro j fd hj hfd
      have no : ¬ (pl = 1 ∧ n < 8 ∧ rw_wo.getD j 0 = v) → n_W p l e s m [Value.ref (ad 0 0), Value.int (nI s0), Value.int (nI n)].toArray below meth c (rw D ca ad Ex) (d + 1) (fun rv τ' => ((∃ k, p_opc B s0 n k ∧ rv = some (.int (nI (r_op (k + 1))))) ∨ ((¬ ∃ k, p_opc B s0 n k) ∧ rv = some (.int (-1)))) ∧ τ' = τ) 107 [some (.ref (ad 0 0)), some (.int (nI s0)), some (.int (nI n)), some (.long v), none, some (.int pl), some (.int fd), some (.int (nI j))] [] τ := by
        intro hn
        refine n_iload hC dX12_operation_107 rfl ?_
        refine n_istore hC dX12_operation_109 (Nat.le_of_ble_eq_true rfl) ?_
        refine n_iinc hC dX12_operation_111 rfl (show _ + Int32.ofInt 1 = _ + 1 from rfl) ?_
        refine n_goto (tgt := 70) hC dX12_operation_114 (by decide) ?_
        rw [nI_1]
        refine ih (j + 1) fd (by omega) ?_
        rcases hfd with ⟨e1, h1⟩ | ⟨i, h1, h2, h3⟩
        · refine Or.inl ⟨e1, fun i hi => ?_⟩
          by_cases z : i = j
          · rw [z]; exact hn
          · exact h1 i (by omega)
        · exact Or.inr ⟨i, by omega, h2, h3⟩
      have hpl : pl = 0 ∨ pl = 1 := by
        rcases hv with ⟨_, _, ⟨z, _⟩ | ⟨z, _⟩⟩ | ⟨_, z⟩
        · exact Or.inr z
        · exact Or.inl z
        · exact z
      refine n_iload hC dX12_operation_70 rfl ?_
      refine n_bipush (v := 42) hC dX12_operation_72 (by decide) ?_
      refine n_icmp_ge (tgt := 117) hC dX12_operation_74 (by decide) (fun h => ?_) (fun h => ?_)
      · exact absurd h (nI_ge (b := 42) (by omega) (by decide))
      · clear h
        refine n_iload hC dX12_operation_77 rfl ?_
        refine n_if_eq (tgt := 107) hC dX12_operation_79 (by decide) (fun h => ?_) (fun h => ?_)
        · exact no (fun z => by rw [h] at z; exact absurd z.1 (by decide))
        · have hp1 : pl = 1 := hpl.resolve_left h
          clear h
          refine n_iload_n hC dX12_operation_82 rfl rfl ?_
          refine n_bipush (v := 8) hC dX12_operation_83 (by decide) ?_
          refine n_icmp_ge (tgt := 107) hC dX12_operation_85 (by decide) (fun h => ?_) (fun h => ?_)
          · refine no (fun z => ?_)
            have := (nI_leI (a := 8) (by omega) (by omega)).mp h
            omega
          · have hn8 : n < 8 := by
              rcases Nat.lt_or_ge n 8 with z | z
              · exact z
              · exact absurd (nI_le (a := 8) z (by omega)) h
            clear h
            refine n_aload_n hC dX12_operation_88 rfl rfl ?_
            refine gm_words hC wfX12_97 dX12_operation_89 ?_
            refine n_iload hC dX12_operation_92 rfl ?_
            refine r_words hC (by first | exact vp_in_nI (by omega) (by decide) | with_reducible assumption) dX12_operation_94 ?_
            rw [nI_clamp (by omega)]
            refine n_lload_n hC dX12_operation_95 rfl rfl ?_
            refine n_lcmp hC dX12_operation_96 ?_
            refine n_if_ne (tgt := 107) hC dX12_operation_97 (by decide) (fun h => ?_) (fun h => ?_)
            · exact no (fun z => h ((lg_cmp_eq _ _).mpr z.2.2))
            · have he := (lg_cmp_eq _ _).mp h
              refine n_iload hC dX12_operation_100 rfl ?_
              refine n_iconst (v := 1) hC dX12_operation_102 (by decide) ?_
              refine n_iadd hC dX12_operation_103 ?_
              refine n_goto (tgt := 109) hC dX12_operation_104 (by decide) ?_
              rw [nI_1]
              refine n_istore hC dX12_operation_109 (Nat.le_of_ble_eq_true rfl) ?_
              refine n_iinc hC dX12_operation_111 rfl (show _ + Int32.ofInt 1 = _ + 1 from rfl) ?_
              refine n_goto (tgt := 70) hC dX12_operation_114 (by decide) ?_
              rw [nI_1]
              exact ih (j + 1) _ (by omega) (Or.inr ⟨j, by omega, ⟨hp1, hn8, he⟩, rfl⟩)
  have at64 : ∀ (v : Int64) (pl : Int32) (w6 : Option Value), ((n < 8 ∧ v = Int64.ofNat (pkN f n) ∧ ((pl = 1 ∧ ∀ i, i < n → f i ≠ 0) ∨ (pl = 0 ∧ ¬ ∀ i, i < n → f i ≠ 0))) ∨ (¬ n < 8 ∧ (pl = 0 ∨ pl = 1))) → n_W p l e s m [Value.ref (ad 0 0), Value.int (nI s0), Value.int (nI n)].toArray below meth c (rw D ca ad Ex) (d + 1) (fun rv τ' => ((∃ k, p_opc B s0 n k ∧ rv = some (.int (nI (r_op (k + 1))))) ∨ ((¬ ∃ k, p_opc B s0 n k) ∧ rv = some (.int (-1)))) ∧ τ' = τ) 64 [some (.ref (ad 0 0)), some (.int (nI s0)), some (.int (nI n)), some (.long v), none, some (.int pl), w6, none] [] τ := by
    intro v pl w6 hv
    refine n_iconst (v := -1) hC dX12_operation_64 (by decide) ?_
    refine n_istore hC dX12_operation_65 (Nat.le_of_ble_eq_true rfl) ?_
    refine n_iconst (v := 0) hC dX12_operation_67 (by decide) ?_
    refine n_istore hC dX12_operation_68 (Nat.le_of_ble_eq_true rfl) ?_
    exact loop2 v pl hv 42 0 (-1) rfl (Or.inl ⟨rfl, fun i hi => by omega⟩)
  have loop1 : ∀ (t i : Nat) (pl : Int32), t + i = n → n < 8 → ((pl = 1 ∧ ∀ i', i' < i → f i' ≠ 0) ∨ (pl = 0 ∧ ¬ ∀ i', i' < i → f i' ≠ 0)) → n_W p l e s m [Value.ref (ad 0 0), Value.int (nI s0), Value.int (nI n)].toArray below meth c (rw D ca ad Ex) (d + 1) (fun rv τ' => ((∃ k, p_opc B s0 n k ∧ rv = some (.int (nI (r_op (k + 1))))) ∨ ((¬ ∃ k, p_opc B s0 n k) ∧ rv = some (.int (-1)))) ∧ τ' = τ) 8 [some (.ref (ad 0 0)), some (.int (nI s0)), some (.int (nI n)), some (.long (Int64.ofNat (pkN f i))), none, some (.int pl), some (.int (nI i)), none] [] τ := by
    intro t
    induction t with
    | zero =>
      intro i pl hi hn8 hpl
      have : i = n := by omega
      subst this
      refine n_iload hC dX12_operation_8 rfl ?_
      refine n_iload_n hC dX12_operation_10 rfl rfl ?_
      refine n_icmp_ge (tgt := 64) hC dX12_operation_11 (by decide) (fun h => ?_) (fun h => ?_)
      · exact at64 _ pl _ (Or.inl ⟨hn8, rfl, hpl⟩)
      · exact absurd (Int32.le_refl _) h
    | succ t ih =>
      intro i pl hi hn8 hpl
      obtain ⟨fb, fl⟩ := hf1 i (by omega)
      have hV : pkN f i < 2 ^ 48 := by
        have l1 : pkN f i < 256 ^ i := pkN_lt (fun i' hi' => (hf1 i' (by omega)).2)
        have p1 : (256 : Nat) ^ i ≤ 256 ^ 6 := Nat.pow_le_pow_right (by omega) (by omega)
        omega
      have at56 : ∀ pl' : Int32, ((pl' = 1 ∧ ∀ i', i' < i + 1 → f i' ≠ 0) ∨ (pl' = 0 ∧ ¬ ∀ i', i' < i + 1 → f i' ≠ 0)) → n_W p l e s m [Value.ref (ad 0 0), Value.int (nI s0), Value.int (nI n)].toArray below meth c (rw D ca ad Ex) (d + 1) (fun rv τ' => ((∃ k, p_opc B s0 n k ∧ rv = some (.int (nI (r_op (k + 1))))) ∨ ((¬ ∃ k, p_opc B s0 n k) ∧ rv = some (.int (-1)))) ∧ τ' = τ) 56 [some (.ref (ad 0 0)), some (.int (nI s0)), some (.int (nI n)), some (.long (Int64.ofNat (pkN f (i + 1)))), none, some (.int pl), some (.int (nI i)), none] [.int pl'] τ := by
        intro pl' hpl'
        refine n_istore hC dX12_operation_56 (Nat.le_of_ble_eq_true rfl) ?_
        refine n_iinc hC dX12_operation_58 rfl (show _ + Int32.ofInt 1 = _ + 1 from rfl) ?_
        refine n_goto (tgt := 8) hC dX12_operation_61 (by decide) ?_
        rw [nI_1]
        exact ih (i + 1) pl' (by omega) hn8 hpl'
      refine n_iload hC dX12_operation_8 rfl ?_
      refine n_iload_n hC dX12_operation_10 rfl rfl ?_
      refine n_icmp_ge (tgt := 64) hC dX12_operation_11 (by decide) (fun h => ?_) (fun h => ?_)
      · exact absurd h (nI_ge (by omega) (by omega))
      · clear h
        refine n_iload_n hC dX12_operation_14 rfl rfl ?_
        refine n_bipush (v := 8) hC dX12_operation_15 (by decide) ?_
        refine n_icmp_ge (tgt := 64) hC dX12_operation_17 (by decide) (fun h => ?_) (fun h => ?_)
        · have := (nI_leI (a := 8) (by omega) (by omega)).mp h
          omega
        · clear h
          refine n_lload_n hC dX12_operation_20 rfl rfl ?_
          refine n_bipush (v := 8) hC dX12_operation_21 (by decide) ?_
          refine n_lshl hC dX12_operation_23 rfl ?_
          refine n_aload_n hC dX12_operation_24 rfl rfl ?_
          refine n_iload_n hC dX12_operation_25 rfl rfl ?_
          refine n_iload hC dX12_operation_26 rfl ?_
          refine n_iadd hC dX12_operation_28 ?_
          rw [nI_add]
          refine n_callV hC (x_byteOf d (s0 + i) B τ hB (by omega)) (Nat.le_refl _) (by decide) (by first | exact rfl | with_reducible assumption) rfl rfl rfl ⟨wmX12_233, wi_yX12_byteOf, wv_yX12_byteOf, wzX12, wc_yX12_byteOf⟩ hy_yX12_byteOf rfl (Nat.le_of_ble_eq_true rfl) dX12_operation_29 (fun rv σ' hpo => ?_)
          obtain ⟨rfl, hσ⟩ := hpo
          rw [hσ, fb]
          refine n_i2l hC dX12_operation_32 rfl ?_
          refine n_lor hC dX12_operation_33 ?_
          rw [pack1 hV fl]
          refine n_lstore_n hC dX12_operation_34 rfl (Nat.le_of_ble_eq_true rfl) ?_
          refine n_iload hC dX12_operation_35 rfl ?_
          refine n_if_eq (tgt := 55) hC dX12_operation_37 (by decide) (fun h => ?_) (fun h => ?_)
          · rcases hpl with ⟨z, _⟩ | ⟨_, z⟩
            · rw [z] at h
              exact absurd h (by decide)
            · refine n_iconst (v := 0) hC dX12_operation_55 (by decide) ?_
              exact at56 0 (Or.inr ⟨rfl, fun w => z (fun i' hi' => w i' (by omega))⟩)
          · have hall : ∀ i', i' < i → f i' ≠ 0 := by
              rcases hpl with ⟨_, z⟩ | ⟨z, _⟩
              · exact z
              · exact absurd z h
            clear h
            refine n_aload_n hC dX12_operation_40 rfl rfl ?_
            refine n_iload_n hC dX12_operation_41 rfl rfl ?_
            refine n_iload hC dX12_operation_42 rfl ?_
            refine n_iadd hC dX12_operation_44 ?_
            rw [nI_add]
            refine n_callV hC (x_byteOf d (s0 + i) B τ hB (by omega)) (Nat.le_refl _) (by decide) (by first | exact rfl | with_reducible assumption) rfl rfl rfl ⟨wmX12_233, wi_yX12_byteOf, wv_yX12_byteOf, wzX12, wc_yX12_byteOf⟩ hy_yX12_byteOf rfl (Nat.le_of_ble_eq_true rfl) dX12_operation_45 (fun rv σ' hpo => ?_)
            obtain ⟨rfl, hσ⟩ := hpo
            rw [hσ, fb]
            refine n_if_eq (tgt := 55) hC dX12_operation_48 (by decide) (fun h => ?_) (fun h => ?_)
            · refine n_iconst (v := 0) hC dX12_operation_55 (by decide) ?_
              refine at56 0 (Or.inr ⟨rfl, fun w => w i (by omega) ?_⟩)
              exact (nI_eq (b := 0) (by omega) (by omega)).mp h
            · refine n_iconst (v := 1) hC dX12_operation_51 (by decide) ?_
              refine n_goto (tgt := 56) hC dX12_operation_52 (by decide) ?_
              refine at56 1 (Or.inl ⟨rfl, fun i' hi' => ?_⟩)
              by_cases z : i' = i
              · rw [z]
                exact fun w => h (by rw [w]; rfl)
              · exact hall i' (by omega)
  refine n_lconst (v := 0) hC dX12_operation_0 (by decide) ?_
  refine n_lstore_n hC dX12_operation_1 rfl (Nat.le_of_ble_eq_true rfl) ?_
  refine n_iconst (v := 1) hC dX12_operation_2 (by decide) ?_
  refine n_istore hC dX12_operation_3 (Nat.le_of_ble_eq_true rfl) ?_
  refine n_iconst (v := 0) hC dX12_operation_5 (by decide) ?_
  refine n_istore hC dX12_operation_6 (Nat.le_of_ble_eq_true rfl) ?_
  by_cases hn8 : n < 8
  · exact loop1 n 0 1 (by omega) hn8 (Or.inl ⟨rfl, fun i hi => by omega⟩)
  · refine n_iload hC dX12_operation_8 rfl ?_
    refine n_iload_n hC dX12_operation_10 rfl rfl ?_
    refine n_icmp_ge (tgt := 64) hC dX12_operation_11 (by decide) (fun h => ?_) (fun h => ?_)
    · have := (nI_leI (b := 0) (by omega) (by omega)).mp h
      omega
    · clear h
      refine n_iload_n hC dX12_operation_14 rfl rfl ?_
      refine n_bipush (v := 8) hC dX12_operation_15 (by decide) ?_
      refine n_icmp_ge (tgt := 64) hC dX12_operation_17 (by decide) (fun h => ?_) (fun h => ?_)
      · exact at64 0 1 _ (Or.inr ⟨hn8, Or.inr rfl⟩)
      · exact absurd (nI_le (a := 8) (by omega) (by omega)) h
end RP3
