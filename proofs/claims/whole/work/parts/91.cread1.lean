theorem wkX6_87 : Cond.constantLong "ShareMonitor$Reader" 87 9000000000 ∈ n_tb := n_in (by decide +kernel) rfl
theorem wkX6_135 : Cond.constantLong "ShareMonitor$Reader" 135 10 ∈ n_tb := n_in (by decide +kernel) rfl
theorem wkX6_137 : Cond.constantLong "ShareMonitor$Reader" 137 2147483649 ∈ n_tb := n_in (by decide +kernel) rfl
theorem wkX6_145 : Cond.constantLong "ShareMonitor$Reader" 145 2147483648 ∈ n_tb := n_in (by decide +kernel) rfl
theorem nu_o {σ : n_S} {κ i k κ' i' k' : Nat} {v : Int32} (h : ¬ (κ' = κ ∧ i' = i ∧ k' = k)) : n_up σ κ i k v κ' i' k' = σ κ' i' k' := by rw [n_up_k, if_neg h]
theorem nu_e (σ : n_S) (κ i k : Nat) (v : Int32) : n_up σ κ i k v κ i k = v := by rw [n_up_k, if_pos ⟨rfl, rfl, rfl⟩]
/-- finding a word writes start and stop alone -/
def CW (σ σ' : n_S) : Prop := ∀ κ y x, ¬ (κ = 3 ∧ y = 0 ∧ (x = 7 ∨ x = 8)) → σ' κ y x = σ κ y x
theorem CT.mv {B : List Int32} {σ σ' : n_S} (h : CT B σ) (ht : ∀ κ y x, (κ = 1 ∨ κ = 2) → σ' κ y x = σ κ y x) : CT B σ' := ⟨(ht 1 0 1 (by omega)).trans h.1, h.2.1, fun j hj => (ht 2 0 j (by omega)).trans (h.2.2 j hj)⟩
theorem CT.cw {B : List Int32} {σ σ' : n_S} (h : CT B σ) (ht : CW σ σ') : CT B σ' := h.mv (fun κ y x u => ht κ y x (by omega))
theorem p_sk_n (B : List Int32) {n k : Nat} {c : Bool} (h : b_at B k = 10) : p_sk B c (n + 1) k = p_sk B false n (k + 1) := by rw [p_sk, if_pos h]
theorem p_sk_h (B : List Int32) {n k : Nat} {c : Bool} (h : b_at B k = 35) : p_sk B c (n + 1) k = p_sk B true n (k + 1) := by rw [p_sk, if_neg (by rw [h]; decide), if_pos h]
theorem p_sk_w (B : List Int32) {n k : Nat} (h : b_at B k ≠ 10) (h2 : b_at B k ≠ 35) (h3 : ¬ p_bl (b_at B k)) : p_sk B false (n + 1) k = k := by rw [p_sk, if_neg h, if_neg h2, if_pos ⟨rfl, h3⟩]
theorem p_sk_g (B : List Int32) {n k : Nat} {c : Bool} (h : b_at B k ≠ 10) (h2 : b_at B k ≠ 35) (h3 : c = true ∨ p_bl (b_at B k)) : p_sk B c (n + 1) k = p_sk B c n (k + 1) := by
  rw [p_sk, if_neg h, if_neg h2, if_neg (fun z => by
    rcases h3 with h3 | h3
    · rw [h3] at z
      exact absurd z.1 (by decide)
    · exact z.2 h3)]
section CR1
variable {l : Launch} {D : va_G} {ca : Nat → ClassId} {ad : Nat → Nat → Nat} {ae sk sv : Nat → Nat} {ta sf ts : Nat} {Ex : State → Heap → Prop}
theorem c_blame (d : Nat) (f pl : Int32) (σ : n_S) : n_Ct l (cw D ca ad ae Ex) d yX6_blame cX6_blame 3 none [.ref (ad 3 0), .int f, .int pl] σ (fun rv σ' => rv = none ∧ σ' = n_up (n_up σ 3 0 9 f) 3 0 10 pl) := by
  refine n_ofW (by decide) (Nat.le_of_ble_eq_true rfl) ?_
  intro p e s m below meth c hC
  refine n_aload_n hC dX6_blame_0 rfl rfl ?_
  refine n_iload_n hC dX6_blame_1 rfl rfl ?_
  refine p3_fault hC (by first | exact rfl | with_reducible assumption) wfX6_43 dX6_blame_2 ?_
  refine n_aload_n hC dX6_blame_5 rfl rfl ?_
  refine n_iload_n hC dX6_blame_6 rfl rfl ?_
  refine p3_faultPlace hC (by first | exact rfl | with_reducible assumption) wfX6_46 dX6_blame_7 ?_
  refine n_vret hC dX6_blame_10 ?_
  exact ⟨rfl, rfl⟩
theorem c_pbb (d k0 : Nat) (B : List Int32) (σ : n_S) (hB : CT B σ) (hk0 : k0 ≤ B.length) : n_Ct l (cw D ca ad ae Ex) (d + 1) yX6_placeBehindBlanks cX6_placeBehindBlanks 5 (some .int) [.ref (ad 3 0), .int (nI k0)] σ (fun rv σ' => rv = some (.int (nI (p_skip B k0))) ∧ σ' = σ) := by
  have hlen := hB.2.1
  refine n_ofW (by decide) (Nat.le_of_ble_eq_true rfl) ?_
  intro p e s m below meth c hC
  have loop : ∀ (t k : Nat) (cm : Int32) (cb : Bool) (w : Option Value), t + k = B.length → ((cm = 0 ∧ cb = false) ∨ (cm = 1 ∧ cb = true)) → p_sk B cb t k = p_skip B k0 → n_W p l e s m [Value.ref (ad 3 0), Value.int (nI k0)].toArray below meth c (cw D ca ad ae Ex) (d + 1) (fun rv σ' => rv = some (.int (nI (p_skip B k0))) ∧ σ' = σ) 4 [some (.ref (ad 3 0)), some (.int (nI k0)), some (.int cm), some (.int (nI k)), w] [] σ := by
    intro t
    induction t with
    | zero =>
      intro k cm cb w hk hc he
      have hkl : k = B.length := by omega
      have he : k = p_skip B k0 := he
      refine n_iload_n hC dX6_placeBehindBlanks_4 rfl rfl ?_
      refine n_aload_n hC dX6_placeBehindBlanks_5 rfl rfl ?_
      refine g3_tape hC (by first | exact rfl | with_reducible assumption) wfX6_27 dX6_placeBehindBlanks_6 ?_
      refine g1_length hC (by first | exact rfl | with_reducible assumption) wfX6_60 dX6_placeBehindBlanks_9 ?_
      rw [hB.1]
      refine n_icmp_ge (tgt := 69) hC dX6_placeBehindBlanks_12 (by decide) (fun h => ?_) (fun h => ?_)
      · refine n_aload_n hC dX6_placeBehindBlanks_69 rfl rfl ?_
        refine g3_tape hC (by first | exact rfl | with_reducible assumption) wfX6_27 dX6_placeBehindBlanks_70 ?_
        refine g1_length hC (by first | exact rfl | with_reducible assumption) wfX6_60 dX6_placeBehindBlanks_73 ?_
        rw [hB.1]
        refine n_iret hC dX6_placeBehindBlanks_76 ?_
        rw [← he, hkl]
        exact ⟨rfl, rfl⟩
      · exact absurd (nI_le (by omega) (by omega)) h
    | succ t ih =>
      intro k cm cb w hk hc he
      refine n_iload_n hC dX6_placeBehindBlanks_4 rfl rfl ?_
      refine n_aload_n hC dX6_placeBehindBlanks_5 rfl rfl ?_
      refine g3_tape hC (by first | exact rfl | with_reducible assumption) wfX6_27 dX6_placeBehindBlanks_6 ?_
      refine g1_length hC (by first | exact rfl | with_reducible assumption) wfX6_60 dX6_placeBehindBlanks_9 ?_
      rw [hB.1]
      refine n_icmp_ge (tgt := 69) hC dX6_placeBehindBlanks_12 (by decide) (fun h => ?_) (fun h => ?_)
      · exact absurd h (nI_ge (by omega) (by omega))
      · clear h
        refine n_aload_n hC dX6_placeBehindBlanks_15 rfl rfl ?_
        refine g3_tape hC (by first | exact rfl | with_reducible assumption) wfX6_27 dX6_placeBehindBlanks_16 ?_
        refine n_iload_n hC dX6_placeBehindBlanks_19 rfl rfl ?_
        refine n_callV hC (c_at d k B σ hB (by omega)) (Nat.le_refl _) (by decide) (by first | exact rfl | with_reducible assumption) rfl rfl rfl ⟨wmX6_76, wi_yX8_at, wv_yX8_at, wzX8, wc_yX8_at⟩ hy_yX8_at rfl (Nat.le_of_ble_eq_true rfl) dX6_placeBehindBlanks_20 (fun rv σ' hpo => ?_)
        obtain ⟨rfl, hσ⟩ := hpo
        rw [hσ]
        refine n_istore hC dX6_placeBehindBlanks_23 (Nat.le_of_ble_eq_true rfl) ?_
        refine n_iload hC dX6_placeBehindBlanks_25 rfl ?_
        refine n_bipush (v := 10) hC dX6_placeBehindBlanks_27 (by decide) ?_
        refine n_icmp_ne (tgt := 37) hC dX6_placeBehindBlanks_29 (by decide) (fun h => ?_) (fun h => ?_)
        · have h10 := h
          clear h
          refine n_iload hC dX6_placeBehindBlanks_37 rfl ?_
          refine n_bipush (v := 35) hC dX6_placeBehindBlanks_39 (by decide) ?_
          refine n_icmp_ne (tgt := 49) hC dX6_placeBehindBlanks_41 (by decide) (fun h => ?_) (fun h => ?_)
          · have h35 := h
            clear h
            refine n_iload_n hC dX6_placeBehindBlanks_49 rfl rfl ?_
            refine n_if_ne (tgt := 63) hC dX6_placeBehindBlanks_50 (by decide) (fun h => ?_) (fun h => ?_)
            · have hcb : cb = true := by
                rcases hc with ⟨q, _⟩ | ⟨_, q⟩
                · exact absurd q h
                · exact q
              refine n_iinc hC dX6_placeBehindBlanks_63 rfl (show _ + Int32.ofInt 1 = _ + 1 from rfl) ?_
              refine n_goto (tgt := 4) hC dX6_placeBehindBlanks_66 (by decide) ?_
              rw [nI_1]
              exact ih (k + 1) cm cb _ (by omega) hc (by rw [p_sk_g B h10 h35 (Or.inl hcb)] at he; exact he)
            · have hcb : cb = false := by
                rcases hc with ⟨_, q⟩ | ⟨q, _⟩
                · exact q
                · rw [q] at h; exact absurd h (by decide)
              clear h
              refine n_iload hC dX6_placeBehindBlanks_53 rfl ?_
              refine n_callS hC (c6_isBlank d (b_at B k) σ) (Nat.le_refl _) (by decide) ⟨wmX6_79, ws_yX6_isBlank, wzX6, wc_yX6_isBlank⟩ hy_yX6_isBlank rfl (Nat.le_of_ble_eq_true rfl) dX6_placeBehindBlanks_55 (fun rv σ' hpo => ?_)
              obtain ⟨hpo, hσ⟩ := hpo
              rw [hσ]
              rcases hpo with ⟨q, rfl⟩ | ⟨q, rfl⟩
              · refine n_if_ne (tgt := 63) hC dX6_placeBehindBlanks_58 (by decide) (fun h => ?_) (fun h => ?_)
                · refine n_iinc hC dX6_placeBehindBlanks_63 rfl (show _ + Int32.ofInt 1 = _ + 1 from rfl) ?_
                  refine n_goto (tgt := 4) hC dX6_placeBehindBlanks_66 (by decide) ?_
                  rw [nI_1]
                  exact ih (k + 1) cm cb _ (by omega) hc (by rw [p_sk_g B h10 h35 (Or.inr q)] at he; exact he)
                · exact absurd h (by decide)
              · refine n_if_ne (tgt := 63) hC dX6_placeBehindBlanks_58 (by decide) (fun h => ?_) (fun h => ?_)
                · exact absurd rfl h
                · rw [hcb, p_sk_w B h10 h35 q] at he
                  refine n_iload_n hC dX6_placeBehindBlanks_61 rfl rfl ?_
                  refine n_iret hC dX6_placeBehindBlanks_62 ?_
                  rw [he]
                  exact ⟨rfl, rfl⟩
          · rw [p_sk_h B h] at he
            clear h
            refine n_iconst (v := 1) hC dX6_placeBehindBlanks_44 (by decide) ?_
            refine n_istore_n hC dX6_placeBehindBlanks_45 rfl (Nat.le_of_ble_eq_true rfl) ?_
            refine n_goto (tgt := 63) hC dX6_placeBehindBlanks_46 (by decide) ?_
            refine n_iinc hC dX6_placeBehindBlanks_63 rfl (show _ + Int32.ofInt 1 = _ + 1 from rfl) ?_
            refine n_goto (tgt := 4) hC dX6_placeBehindBlanks_66 (by decide) ?_
            rw [nI_1]
            exact ih (k + 1) 1 true _ (by omega) (Or.inr ⟨rfl, rfl⟩) he
        · rw [p_sk_n B h] at he
          clear h
          refine n_iconst (v := 0) hC dX6_placeBehindBlanks_32 (by decide) ?_
          refine n_istore_n hC dX6_placeBehindBlanks_33 rfl (Nat.le_of_ble_eq_true rfl) ?_
          refine n_goto (tgt := 63) hC dX6_placeBehindBlanks_34 (by decide) ?_
          refine n_iinc hC dX6_placeBehindBlanks_63 rfl (show _ + Int32.ofInt 1 = _ + 1 from rfl) ?_
          refine n_goto (tgt := 4) hC dX6_placeBehindBlanks_66 (by decide) ?_
          rw [nI_1]
          exact ih (k + 1) 0 false _ (by omega) (Or.inl ⟨rfl, rfl⟩) he
  refine n_iconst (v := 0) hC dX6_placeBehindBlanks_0 (by decide) ?_
  refine n_istore_n hC dX6_placeBehindBlanks_1 rfl (Nat.le_of_ble_eq_true rfl) ?_
  refine n_iload_n hC dX6_placeBehindBlanks_2 rfl rfl ?_
  refine n_istore_n hC dX6_placeBehindBlanks_3 rfl (Nat.le_of_ble_eq_true rfl) ?_
  exact loop (B.length - k0) k0 0 false none (by omega) (Or.inl ⟨rfl, rfl⟩) rfl
theorem c_findWord (d k0 : Nat) (B : List Int32) (σ : n_S) (hB : CT B σ) (hk0 : k0 ≤ B.length) (h8 : σ 3 0 8 = nI k0) : n_Ct l (cw D ca ad ae Ex) (d + 2) yX6_findWord cX6_findWord 1 (some .boolean) [.ref (ad 3 0)] σ (fun rv σ' => ((p_skip B k0 < p_wend B (p_skip B k0) ∧ rv = some (.int 1)) ∨ (¬ p_skip B k0 < p_wend B (p_skip B k0) ∧ rv = some (.int 0))) ∧ CW σ σ' ∧ σ' 3 0 7 = nI (p_skip B k0) ∧ σ' 3 0 8 = nI (p_wend B (p_skip B k0))) := by
  have hlen := hB.2.1
  have s1 := p_skip_le hk0
  have s2 := p_wend_le s1.2
  refine n_ofW (by decide) (Nat.le_of_ble_eq_true rfl) ?_
  intro p e s m below meth c hC
  have fin : ∀ (σ1 : n_S), CW σ σ1 → σ1 3 0 7 = nI (p_skip B k0) → σ1 3 0 8 = nI (p_wend B (p_skip B k0)) → n_W p l e s m [Value.ref (ad 3 0)].toArray below meth c (cw D ca ad ae Ex) (d + 2) (fun rv σ' => ((p_skip B k0 < p_wend B (p_skip B k0) ∧ rv = some (.int 1)) ∨ (¬ p_skip B k0 < p_wend B (p_skip B k0) ∧ rv = some (.int 0))) ∧ CW σ σ' ∧ σ' 3 0 7 = nI (p_skip B k0) ∧ σ' 3 0 8 = nI (p_wend B (p_skip B k0))) 64 [some (.ref (ad 3 0))] [] σ1 := by
    intro σ1 f1 f7 f8
    refine n_aload_n hC dX6_findWord_64 rfl rfl ?_
    refine g3_stop hC (by first | exact rfl | with_reducible assumption) wfX6_40 dX6_findWord_65 ?_
    rw [f8]
    refine n_aload_n hC dX6_findWord_68 rfl rfl ?_
    refine g3_start hC (by first | exact rfl | with_reducible assumption) wfX6_73 dX6_findWord_69 ?_
    rw [f7]
    refine n_icmp_le (tgt := 79) hC dX6_findWord_72 (by decide) (fun h => ?_) (fun h => ?_)
    · refine n_iconst (v := 0) hC dX6_findWord_79 (by decide) ?_
      refine n_zret hC dX6_findWord_80 rfl ?_
      refine ⟨Or.inr ⟨fun z => ?_, rfl⟩, f1, f7, f8⟩
      have := (nI_leI (by omega) (by omega)).mp h
      omega
    · refine n_iconst (v := 1) hC dX6_findWord_75 (by decide) ?_
      refine n_goto (tgt := 80) hC dX6_findWord_76 (by decide) ?_
      refine n_zret hC dX6_findWord_80 rfl ?_
      refine ⟨Or.inl ⟨?_, rfl⟩, f1, f7, f8⟩
      rcases Nat.lt_or_ge (p_skip B k0) (p_wend B (p_skip B k0)) with z | z
      · exact z
      · exact absurd (nI_le z (by omega)) h
  have loop : ∀ (t k : Nat) (σ1 : n_S), t + k = B.length → p_we B t k = p_wend B (p_skip B k0) → CW σ σ1 → σ1 3 0 7 = nI (p_skip B k0) → σ1 3 0 8 = nI k → n_W p l e s m [Value.ref (ad 3 0)].toArray below meth c (cw D ca ad ae Ex) (d + 2) (fun rv σ' => ((p_skip B k0 < p_wend B (p_skip B k0) ∧ rv = some (.int 1)) ∨ (¬ p_skip B k0 < p_wend B (p_skip B k0) ∧ rv = some (.int 0))) ∧ CW σ σ' ∧ σ' 3 0 7 = nI (p_skip B k0) ∧ σ' 3 0 8 = nI (p_wend B (p_skip B k0))) 20 [some (.ref (ad 3 0))] [] σ1 := by
    intro t
    induction t with
    | zero =>
      intro k σ1 hk he f1 f7 f8
      have he : k = p_wend B (p_skip B k0) := he
      refine n_aload_n hC dX6_findWord_20 rfl rfl ?_
      refine g3_stop hC (by first | exact rfl | with_reducible assumption) wfX6_40 dX6_findWord_21 ?_
      rw [f8]
      refine n_aload_n hC dX6_findWord_24 rfl rfl ?_
      refine g3_tape hC (by first | exact rfl | with_reducible assumption) wfX6_27 dX6_findWord_25 ?_
      refine g1_length hC (by first | exact rfl | with_reducible assumption) wfX6_60 dX6_findWord_28 ?_
      rw [(hB.cw f1).1]
      refine n_icmp_ge (tgt := 64) hC dX6_findWord_31 (by decide) (fun h => ?_) (fun h => ?_)
      · exact fin σ1 f1 f7 (by rw [f8, ← he])
      · exact absurd (nI_le (by omega) (by omega)) h
    | succ t ih =>
      intro k σ1 hk he f1 f7 f8
      unfold p_we at he
      refine n_aload_n hC dX6_findWord_20 rfl rfl ?_
      refine g3_stop hC (by first | exact rfl | with_reducible assumption) wfX6_40 dX6_findWord_21 ?_
      rw [f8]
      refine n_aload_n hC dX6_findWord_24 rfl rfl ?_
      refine g3_tape hC (by first | exact rfl | with_reducible assumption) wfX6_27 dX6_findWord_25 ?_
      refine g1_length hC (by first | exact rfl | with_reducible assumption) wfX6_60 dX6_findWord_28 ?_
      rw [(hB.cw f1).1]
      refine n_icmp_ge (tgt := 64) hC dX6_findWord_31 (by decide) (fun h => ?_) (fun h => ?_)
      · exact absurd h (nI_ge (by omega) (by omega))
      · clear h
        refine n_aload_n hC dX6_findWord_34 rfl rfl ?_
        refine g3_tape hC (by first | exact rfl | with_reducible assumption) wfX6_27 dX6_findWord_35 ?_
        refine n_aload_n hC dX6_findWord_38 rfl rfl ?_
        refine g3_stop hC (by first | exact rfl | with_reducible assumption) wfX6_40 dX6_findWord_39 ?_
        rw [f8]
        refine n_callV hC (c_at (d + 1) k B σ1 (hB.cw f1) (by omega)) (Nat.le_refl _) (by decide) (by first | exact rfl | with_reducible assumption) rfl rfl rfl ⟨wmX6_76, wi_yX8_at, wv_yX8_at, wzX8, wc_yX8_at⟩ hy_yX8_at rfl (Nat.le_of_ble_eq_true rfl) dX6_findWord_42 (fun rv σ' hpo => ?_)
        obtain ⟨rfl, hσ⟩ := hpo
        rw [hσ]
        refine n_callS hC (c6_isBlank (d + 1) (b_at B k) σ1) (Nat.le_refl _) (by decide) ⟨wmX6_79, ws_yX6_isBlank, wzX6, wc_yX6_isBlank⟩ hy_yX6_isBlank rfl (Nat.le_of_ble_eq_true rfl) dX6_findWord_45 (fun rv σ' hpo => ?_)
        obtain ⟨hpo, hσ⟩ := hpo
        rw [hσ]
        rcases hpo with ⟨q, rfl⟩ | ⟨q, rfl⟩
        · rw [if_pos q] at he
          refine n_if_ne (tgt := 64) hC dX6_findWord_48 (by decide) (fun h => ?_) (fun h => ?_)
          · exact fin σ1 f1 f7 (by rw [f8, ← he])
          · exact absurd h (by decide)
        · rw [if_neg q] at he
          refine n_if_ne (tgt := 64) hC dX6_findWord_48 (by decide) (fun h => ?_) (fun h => ?_)
          · exact absurd rfl h
          · refine n_aload_n hC dX6_findWord_51 rfl rfl ?_
            refine n_dup hC dX6_findWord_52 rfl ?_
            refine g3_stop hC (by first | exact rfl | with_reducible assumption) wfX6_40 dX6_findWord_53 ?_
            rw [f8]
            refine n_iconst (v := 1) hC dX6_findWord_56 (by decide) ?_
            refine n_iadd hC dX6_findWord_57 ?_
            rw [nI_1]
            refine p3_stop hC (by first | exact rfl | with_reducible assumption) wfX6_40 dX6_findWord_58 ?_
            refine n_goto (tgt := 20) hC dX6_findWord_61 (by decide) ?_
            exact ih (k + 1) _ (by omega) he (fun κ y x u => (nu_o (by omega)).trans (f1 κ y x u)) ((nu_o (by omega)).trans f7) (nu_e _ _ _ _ _)
  refine n_aload_n hC dX6_findWord_0 rfl rfl ?_
  refine n_aload_n hC dX6_findWord_1 rfl rfl ?_
  refine n_aload_n hC dX6_findWord_2 rfl rfl ?_
  refine g3_stop hC (by first | exact rfl | with_reducible assumption) wfX6_40 dX6_findWord_3 ?_
  rw [h8]
  refine n_callV hC (c_pbb d k0 B σ hB hk0) (Nat.le_refl _) (by decide) (by first | exact rfl | with_reducible assumption) rfl rfl rfl ⟨wmX6_69, wi_yX6_placeBehindBlanks, wv_yX6_placeBehindBlanks, wzX6, wc_yX6_placeBehindBlanks⟩ hy_yX6_placeBehindBlanks rfl (Nat.le_of_ble_eq_true rfl) dX6_findWord_6 (fun rv σ' hpo => ?_)
  obtain ⟨rfl, hσ⟩ := hpo
  rw [hσ]
  refine p3_start hC (by first | exact rfl | with_reducible assumption) wfX6_73 dX6_findWord_9 ?_
  refine n_aload_n hC dX6_findWord_12 rfl rfl ?_
  refine n_aload_n hC dX6_findWord_13 rfl rfl ?_
  refine g3_start hC (by first | exact rfl | with_reducible assumption) wfX6_73 dX6_findWord_14 ?_
  rw [nu_e]
  refine p3_stop hC (by first | exact rfl | with_reducible assumption) wfX6_40 dX6_findWord_17 ?_
  exact loop (B.length - p_skip B k0) (p_skip B k0) _ (by omega) rfl (fun κ y x u => (nu_o (by omega)).trans (nu_o (by omega))) ((nu_o (by omega)).trans (nu_e _ _ _ _ _)) (nu_e _ _ _ _ _)
theorem c6_isName (hS : ∀ U H, Ex U H → sX ad ae sk sv ta sf U H) (d s0 e0 : Nat) (B : List Int32) (σ : n_S) (hB : CT B σ) (hY : BY B) (hse : s0 ≤ e0) (he : e0 ≤ B.length) : n_Ct l (cw D ca ad ae Ex) (d + 6) yX6_isName cX6_isName 4 (some .boolean) [.ref (ad 3 0), .int (nI s0), .int (nI e0)] σ (fun rv σ' => ((p_nm B s0 (e0 - s0) ∧ rv = some (.int 1)) ∨ (¬ p_nm B s0 (e0 - s0) ∧ rv = some (.int 0))) ∧ σ' = σ) := by
  have hlen := hB.2.1
  refine n_ofW (by decide) (Nat.le_of_ble_eq_true rfl) ?_
  intro p e s m below meth c hC
  have no29 : ∀ w : Option Value, ¬ p_nm B s0 (e0 - s0) → n_W p l e s m [Value.ref (ad 3 0), Value.int (nI s0), Value.int (nI e0)].toArray below meth c (cw D ca ad ae Ex) (d + 6) (fun rv σ' => ((p_nm B s0 (e0 - s0) ∧ rv = some (.int 1)) ∨ (¬ p_nm B s0 (e0 - s0) ∧ rv = some (.int 0))) ∧ σ' = σ) 29 [some (.ref (ad 3 0)), some (.int (nI s0)), some (.int (nI e0)), w] [] σ := by
    intro w hn
    refine n_iconst (v := 0) hC dX6_isName_29 (by decide) ?_
    refine n_zret hC dX6_isName_30 rfl ?_
    exact ⟨Or.inr ⟨hn, rfl⟩, rfl⟩
  have loop : 1 ≤ e0 - s0 → e0 - s0 ≤ 12 → p_lt (b_at B s0) → ∀ (t k : Nat), t + k = e0 → s0 + 1 ≤ k → (∀ i', 1 ≤ i' → i' < k - s0 → p_lt (b_at B (s0 + i')) ∨ p_dg (b_at B (s0 + i'))) → n_W p l e s m [Value.ref (ad 3 0), Value.int (nI s0), Value.int (nI e0)].toArray below meth c (cw D ca ad ae Ex) (d + 6) (fun rv σ' => ((p_nm B s0 (e0 - s0) ∧ rv = some (.int 1)) ∨ (¬ p_nm B s0 (e0 - s0) ∧ rv = some (.int 0))) ∧ σ' = σ) 35 [some (.ref (ad 3 0)), some (.int (nI s0)), some (.int (nI e0)), some (.int (nI k))] [] σ := by
    intro n1 n12 hlt t
    induction t with
    | zero =>
      intro k hk hk1 hall
      have : k = e0 := by omega
      subst this
      refine n_iload_n hC dX6_isName_35 rfl rfl ?_
      refine n_iload_n hC dX6_isName_36 rfl rfl ?_
      refine n_icmp_ge (tgt := 76) hC dX6_isName_37 (by decide) (fun h => ?_) (fun h => ?_)
      · clear h
        refine n_aload_n hC dX6_isName_76 rfl rfl ?_
        refine g3_tape hC (by first | exact rfl | with_reducible assumption) wfX6_27 dX6_isName_77 ?_
        refine n_iload_n hC dX6_isName_80 rfl rfl ?_
        refine n_iload_n hC dX6_isName_81 rfl rfl ?_
        refine n_callS hC (c_written hS d s0 k B σ hB hY (by omega) he) (Nat.le_refl _) (by decide) ⟨wmX6_99, ws_yX4_written, wzX4, wc_yX4_written⟩ hy_yX4_written rfl (Nat.le_of_ble_eq_true rfl) dX6_isName_82 (fun rv σ' hpo => ?_)
        obtain ⟨hpo, hσ⟩ := hpo
        rw [hσ]
        rcases hpo with ⟨q, hq, rfl⟩ | ⟨hq, rfl⟩
        · first | refine n_ifnonnull (tgt := 92) hC dX6_isName_85 (by decide) ?_ | refine n_ifnonnullN hC dX6_isName_85 ?_
          refine n_iconst (v := 0) hC dX6_isName_92 (by decide) ?_
          refine n_zret hC dX6_isName_93 rfl ?_
          exact ⟨Or.inr ⟨fun z => z.2.2.2.2 ⟨q, hq⟩, rfl⟩, rfl⟩
        · first | refine n_ifnonnull (tgt := 92) hC dX6_isName_85 (by decide) ?_ | refine n_ifnonnullN hC dX6_isName_85 ?_
          refine n_iconst (v := 1) hC dX6_isName_88 (by decide) ?_
          refine n_goto (tgt := 93) hC dX6_isName_89 (by decide) ?_
          refine n_zret hC dX6_isName_93 rfl ?_
          exact ⟨Or.inl ⟨⟨n1, n12, hlt, hall, hq⟩, rfl⟩, rfl⟩
      · exact absurd (Int32.le_refl _) h
    | succ t ih =>
      intro k hk hk1 hall
      have yes : (p_lt (b_at B k) ∨ p_dg (b_at B k)) → n_W p l e s m [Value.ref (ad 3 0), Value.int (nI s0), Value.int (nI e0)].toArray below meth c (cw D ca ad ae Ex) (d + 6) (fun rv σ' => ((p_nm B s0 (e0 - s0) ∧ rv = some (.int 1)) ∨ (¬ p_nm B s0 (e0 - s0) ∧ rv = some (.int 0))) ∧ σ' = σ) 70 [some (.ref (ad 3 0)), some (.int (nI s0)), some (.int (nI e0)), some (.int (nI k))] [] σ := by
        intro hy
        refine n_iinc hC dX6_isName_70 rfl (show _ + Int32.ofInt 1 = _ + 1 from rfl) ?_
        refine n_goto (tgt := 35) hC dX6_isName_73 (by decide) ?_
        rw [nI_1]
        refine ih (k + 1) (by omega) (by omega) (fun i' q1 q2 => ?_)
        by_cases z : s0 + i' = k
        · rw [z]; exact hy
        · exact hall i' q1 (by omega)
      refine n_iload_n hC dX6_isName_35 rfl rfl ?_
      refine n_iload_n hC dX6_isName_36 rfl rfl ?_
      refine n_icmp_ge (tgt := 76) hC dX6_isName_37 (by decide) (fun h => ?_) (fun h => ?_)
      · exact absurd h (nI_ge (by omega) (by omega))
      · clear h
        refine n_aload_n hC dX6_isName_40 rfl rfl ?_
        refine g3_tape hC (by first | exact rfl | with_reducible assumption) wfX6_27 dX6_isName_41 ?_
        refine n_iload_n hC dX6_isName_44 rfl rfl ?_
        refine n_callV hC (c_at (d + 5) k B σ hB (by omega)) (Nat.le_refl _) (by decide) (by first | exact rfl | with_reducible assumption) rfl rfl rfl ⟨wmX6_76, wi_yX8_at, wv_yX8_at, wzX8, wc_yX8_at⟩ hy_yX8_at rfl (Nat.le_of_ble_eq_true rfl) dX6_isName_45 (fun rv σ' hpo => ?_)
        obtain ⟨rfl, hσ⟩ := hpo
        rw [hσ]
        refine n_callS hC (c6_isLetter (d + 5) (b_at B k) σ) (Nat.le_refl _) (by decide) ⟨wmX6_147, ws_yX6_isLetter, wzX6, wc_yX6_isLetter⟩ hy_yX6_isLetter rfl (Nat.le_of_ble_eq_true rfl) dX6_isName_48 (fun rv σ' hpo => ?_)
        obtain ⟨hpo, hσ⟩ := hpo
        rw [hσ]
        rcases hpo with ⟨q, rfl⟩ | ⟨q, rfl⟩
        · refine n_if_ne (tgt := 70) hC dX6_isName_51 (by decide) (fun h => ?_) (fun h => ?_)
          · exact yes (Or.inl q)
          · exact absurd h (by decide)
        · refine n_if_ne (tgt := 70) hC dX6_isName_51 (by decide) (fun h => ?_) (fun h => ?_)
          · exact absurd rfl h
          · clear h
            refine n_aload_n hC dX6_isName_54 rfl rfl ?_
            refine g3_tape hC (by first | exact rfl | with_reducible assumption) wfX6_27 dX6_isName_55 ?_
            refine n_iload_n hC dX6_isName_58 rfl rfl ?_
            refine n_callV hC (c_at (d + 5) k B σ hB (by omega)) (Nat.le_refl _) (by decide) (by first | exact rfl | with_reducible assumption) rfl rfl rfl ⟨wmX6_76, wi_yX8_at, wv_yX8_at, wzX8, wc_yX8_at⟩ hy_yX8_at rfl (Nat.le_of_ble_eq_true rfl) dX6_isName_59 (fun rv σ' hpo => ?_)
            obtain ⟨rfl, hσ⟩ := hpo
            rw [hσ]
            refine n_callS hC (c6_isDigit (d + 5) (b_at B k) σ) (Nat.le_refl _) (by decide) ⟨wmX6_132, ws_yX6_isDigit, wzX6, wc_yX6_isDigit⟩ hy_yX6_isDigit rfl (Nat.le_of_ble_eq_true rfl) dX6_isName_62 (fun rv σ' hpo => ?_)
            obtain ⟨hpo, hσ⟩ := hpo
            rw [hσ]
            rcases hpo with ⟨q2, rfl⟩ | ⟨q2, rfl⟩
            · refine n_if_ne (tgt := 70) hC dX6_isName_65 (by decide) (fun h => ?_) (fun h => ?_)
              · exact yes (Or.inr q2)
              · exact absurd h (by decide)
            · refine n_if_ne (tgt := 70) hC dX6_isName_65 (by decide) (fun h => ?_) (fun h => ?_)
              · exact absurd rfl h
              · refine n_iconst (v := 0) hC dX6_isName_68 (by decide) ?_
                refine n_zret hC dX6_isName_69 rfl ?_
                refine ⟨Or.inr ⟨fun z => ?_, rfl⟩, rfl⟩
                have := z.2.2.2.1 (k - s0) (by omega) (by omega)
                rw [show s0 + (k - s0) = k by omega] at this
                exact this.elim q q2
  refine n_iload_n hC dX6_isName_0 rfl rfl ?_
  refine n_iload_n hC dX6_isName_1 rfl rfl ?_
  refine n_isub hC dX6_isName_2 ?_
  rw [nI_subL hse]
  refine n_iconst (v := 1) hC dX6_isName_3 (by decide) ?_
  refine n_icmp_lt (tgt := 29) hC dX6_isName_4 (by decide) (fun h => ?_) (fun h => ?_)
  · refine no29 _ (fun z => ?_)
    exact absurd (nI_le (a := 1) z.1 (by omega)) (Int32.not_le.mpr h)
  · have n1 : 1 ≤ e0 - s0 := (nI_leI (a := 1) (by omega) (by omega)).mp (Int32.not_lt.mp h)
    clear h
    refine n_iload_n hC dX6_isName_7 rfl rfl ?_
    refine n_iload_n hC dX6_isName_8 rfl rfl ?_
    refine n_isub hC dX6_isName_9 ?_
    rw [nI_subL hse]
    refine n_bipush (v := 12) hC dX6_isName_10 (by decide) ?_
    refine n_icmp_gt (tgt := 29) hC dX6_isName_12 (by decide) (fun h => ?_) (fun h => ?_)
    · refine no29 _ (fun z => ?_)
      exact absurd (nI_le (b := 12) z.2.1 (by omega)) (Int32.not_le.mpr h)
    · have n12 : e0 - s0 ≤ 12 := (nI_leI (b := 12) (by omega) (by omega)).mp (Int32.not_lt.mp h)
      clear h
      refine n_aload_n hC dX6_isName_15 rfl rfl ?_
      refine g3_tape hC (by first | exact rfl | with_reducible assumption) wfX6_27 dX6_isName_16 ?_
      refine n_iload_n hC dX6_isName_19 rfl rfl ?_
      refine n_callV hC (c_at (d + 5) s0 B σ hB (by omega)) (Nat.le_refl _) (by decide) (by first | exact rfl | with_reducible assumption) rfl rfl rfl ⟨wmX6_76, wi_yX8_at, wv_yX8_at, wzX8, wc_yX8_at⟩ hy_yX8_at rfl (Nat.le_of_ble_eq_true rfl) dX6_isName_20 (fun rv σ' hpo => ?_)
      obtain ⟨rfl, hσ⟩ := hpo
      rw [hσ]
      refine n_callS hC (c6_isLetter (d + 5) (b_at B s0) σ) (Nat.le_refl _) (by decide) ⟨wmX6_147, ws_yX6_isLetter, wzX6, wc_yX6_isLetter⟩ hy_yX6_isLetter rfl (Nat.le_of_ble_eq_true rfl) dX6_isName_23 (fun rv σ' hpo => ?_)
      obtain ⟨hpo, hσ⟩ := hpo
      rw [hσ]
      rcases hpo with ⟨q, rfl⟩ | ⟨q, rfl⟩
      · refine n_if_ne (tgt := 31) hC dX6_isName_26 (by decide) (fun h => ?_) (fun h => ?_)
        · refine n_iload_n hC dX6_isName_31 rfl rfl ?_
          refine n_iconst (v := 1) hC dX6_isName_32 (by decide) ?_
          refine n_iadd hC dX6_isName_33 ?_
          rw [nI_1]
          refine n_istore_n hC dX6_isName_34 rfl (Nat.le_of_ble_eq_true rfl) ?_
          exact loop n1 n12 q (e0 - (s0 + 1)) (s0 + 1) (by omega) (Nat.le_refl _) (fun i' u1 u2 => by omega)
        · exact absurd h (by decide)
      · refine n_if_ne (tgt := 31) hC dX6_isName_26 (by decide) (fun h => ?_) (fun h => ?_)
        · exact absurd rfl h
        · exact no29 _ (fun z => q z.2.2.1)
theorem dg_sub : ∀ x, x < 256 → 48 ≤ x → (nI x - 48).toInt64 = Int64.ofNat (x - 48) := by decide +kernel
theorem i64_step2 {S x : Nat} : Int64.ofNat S * 10 + Int64.ofNat x = Int64.ofNat (S * 10 + x) := by
  rw [Int64.ofNat_add, Int64.ofNat_mul]
  rfl
theorem c_numberHere (d a b : Nat) (B : List Int32) (σ : n_S) (hB : CT B σ) (hab : a < b) (hb : b ≤ B.length) (h7 : σ 3 0 7 = nI a) (h8 : σ 3 0 8 = nI b) : n_Ct l (cw D ca ad ae Ex) (d + 1) yX6_numberHere cX6_numberHere 7 (some .long) [.ref (ad 3 0)] σ (fun rv σ' => ((p_isn B a b ∧ rv = some (.long (p_nl B a b))) ∨ (¬ p_isn B a b ∧ rv = some (.long 9000000000))) ∧ σ' = σ) := by
  have hlen := hB.2.1
  refine n_ofW (by decide) (Nat.le_of_ble_eq_true rfl) ?_
  intro p e s m below meth c hC
  have no130 : ∀ (w1 w2 w3 w4 w5 w6 : Option Value), ¬ p_isn B a b → n_W p l e s m [Value.ref (ad 3 0)].toArray below meth c (cw D ca ad ae Ex) (d + 1) (fun rv σ' => ((p_isn B a b ∧ rv = some (.long (p_nl B a b))) ∨ (¬ p_isn B a b ∧ rv = some (.long 9000000000))) ∧ σ' = σ) 130 [some (.ref (ad 3 0)), w1, w2, w3, w4, w5, w6] [] σ := by
    intro w1 w2 w3 w4 w5 w6 hn
    refine n_ldc2 hC wkX6_87 dX6_numberHere_130 ?_
    refine n_lret hC dX6_numberHere_133 ?_
    exact ⟨Or.inr ⟨hn, rfl⟩, rfl⟩
  have main : ∀ (ls : Int32) (fr : Nat), fr = p_from B a → fr ≤ b → ((b_at B a = 45 ∧ ls = 1) ∨ (b_at B a ≠ 45 ∧ ls = 0)) → ∀ (t k S : Nat) (w : Option Value), t + k = b → fr ≤ k → (∀ i, fr ≤ i → i < k → p_dg (b_at B i)) → S = min (p_dec B fr (k - fr)) 2147483649 → n_W p l e s m [Value.ref (ad 3 0)].toArray below meth c (cw D ca ad ae Ex) (d + 1) (fun rv σ' => ((p_isn B a b ∧ rv = some (.long (p_nl B a b))) ∨ (¬ p_isn B a b ∧ rv = some (.long 9000000000))) ∧ σ' = σ) 45 [some (.ref (ad 3 0)), some (.int ls), some (.int (nI fr)), some (.long (Int64.ofNat S)), none, some (.int (nI k)), w] [] σ := by
    intro ls fr hfr hfb hls t
    induction t with
    | zero =>
      intro k S w hk hfk hall hSe
      have : k = b := by omega
      subst this
      have hN : S = min (p_N B a k) 2147483649 := by
        unfold p_N
        rw [← hfr]
        exact hSe
      refine n_iload hC dX6_numberHere_45 rfl ?_
      refine n_aload_n hC dX6_numberHere_47 rfl rfl ?_
      refine g3_stop hC (by first | exact rfl | with_reducible assumption) wfX6_40 dX6_numberHere_48 ?_
      rw [h8]
      refine n_icmp_ge (tgt := 102) hC dX6_numberHere_51 (by decide) (fun h => ?_) (fun h => ?_)
      · clear h
        refine n_iload_n hC dX6_numberHere_102 rfl rfl ?_
        refine n_aload_n hC dX6_numberHere_103 rfl rfl ?_
        refine g3_stop hC (by first | exact rfl | with_reducible assumption) wfX6_40 dX6_numberHere_104 ?_
        rw [h8]
        refine n_icmp_eq (tgt := 130) hC dX6_numberHere_107 (by decide) (fun h => ?_) (fun h => ?_)
        · have : fr = k := (nI_eq (by omega) (by omega)).mp h
          refine no130 _ _ _ _ _ _ (fun z => ?_)
          have := z.1
          omega
        · have hlt : fr < k := by
            rcases Nat.lt_or_ge fr k with z | z
            · exact z
            · exact absurd (by rw [show fr = k by omega]) h
          clear h
          refine n_lload_n hC dX6_numberHere_110 rfl rfl ?_
          refine n_ldc2 hC wkX6_145 dX6_numberHere_111 ?_
          refine n_lcmp hC dX6_numberHere_114 ?_
          refine n_if_gt (tgt := 130) hC dX6_numberHere_115 (by decide) (fun h => ?_) (fun h => ?_)
          · have hgt := (lg_cmp_gt _ _).mp h
            refine no130 _ _ _ _ _ _ (fun z => ?_)
            have h2 : S ≤ 2147483648 := by
              rcases z.2.2 with ⟨_, q⟩ | ⟨_, q⟩ <;> omega
            exact absurd hgt (Int64.not_lt.mpr ((i64_le (b := 2147483648) (by omega) (by omega)).mpr h2))
          · have hle : S ≤ 2147483648 := by
              have h2 : Int64.ofNat S ≤ Int64.ofNat 2147483648 := Int64.not_lt.mp (fun z => h ((lg_cmp_gt _ _).mpr z))
              exact (i64_le (by omega) (by omega)).mp h2
            have hSN : S = p_N B a k := by omega
            clear h
            refine n_iload_n hC dX6_numberHere_118 rfl rfl ?_
            refine n_if_ne (tgt := 134) hC dX6_numberHere_119 (by decide) (fun h => ?_) (fun h => ?_)
            · have hz : b_at B a = 45 := by
                rcases hls with ⟨q, _⟩ | ⟨_, q⟩
                · exact q
                · exact absurd q h
              refine n_iload_n hC dX6_numberHere_134 rfl rfl ?_
              refine n_if_eq (tgt := 143) hC dX6_numberHere_135 (by decide) (fun h => ?_) (fun h => ?_)
              · rcases hls with ⟨_, q⟩ | ⟨q, _⟩
                · exact absurd (h.symm.trans q) (by decide)
                · exact absurd hz q
              · refine n_lload_n hC dX6_numberHere_138 rfl rfl ?_
                refine n_lneg hC dX6_numberHere_139 ?_
                refine n_goto (tgt := 144) hC dX6_numberHere_140 (by decide) ?_
                refine n_lret hC dX6_numberHere_144 ?_
                refine ⟨Or.inl ⟨⟨by rw [← hfr]; exact hlt, by rw [← hfr]; exact hall, Or.inl ⟨hz, by omega⟩⟩, ?_⟩, rfl⟩
                unfold p_nl
                rw [if_pos hz, hSN]
            · have hls0 := h
              have hz : b_at B a ≠ 45 := by
                rcases hls with ⟨_, q⟩ | ⟨q, _⟩
                · rw [q] at h; exact absurd h (by decide)
                · exact q
              clear h
              refine n_lload_n hC dX6_numberHere_122 rfl rfl ?_
              refine n_ldc2 hC wkX6_145 dX6_numberHere_123 ?_
              refine n_lcmp hC dX6_numberHere_126 ?_
              refine n_if_ne (tgt := 134) hC dX6_numberHere_127 (by decide) (fun h => ?_) (fun h => ?_)
              · have hne : S ≠ 2147483648 := fun z => h ((lg_cmp_eq _ _).mpr (by rw [z]; rfl))
                clear h
                refine n_iload_n hC dX6_numberHere_134 rfl rfl ?_
                refine n_if_eq (tgt := 143) hC dX6_numberHere_135 (by decide) (fun h => ?_) (fun h => ?_)
                · refine n_lload_n hC dX6_numberHere_143 rfl rfl ?_
                  refine n_lret hC dX6_numberHere_144 ?_
                  refine ⟨Or.inl ⟨⟨by rw [← hfr]; exact hlt, by rw [← hfr]; exact hall, Or.inr ⟨hz, by omega⟩⟩, ?_⟩, rfl⟩
                  unfold p_nl
                  rw [if_neg hz, hSN]
                · exact absurd hls0 h
              · have he : S = 2147483648 := i64_ofNat (by omega) (by omega) ((lg_cmp_eq _ _).mp h)
                refine no130 _ _ _ _ _ _ (fun z => ?_)
                rcases z.2.2 with ⟨q, _⟩ | ⟨_, q⟩
                · exact hz q
                · omega
      · exact absurd (Int32.le_refl _) h
    | succ t ih =>
      intro k S w hk hfk hall hSe
      have edec : p_dec B fr (k + 1 - fr) = p_dec B fr (k - fr) * 10 + ((b_at B k).toNatClampNeg - 48) := by
        rw [show k + 1 - fr = (k - fr) + 1 by omega]
        rw [p_dec_s, show fr + (k - fr) = k by omega]
      refine n_iload hC dX6_numberHere_45 rfl ?_
      refine n_aload_n hC dX6_numberHere_47 rfl rfl ?_
      refine g3_stop hC (by first | exact rfl | with_reducible assumption) wfX6_40 dX6_numberHere_48 ?_
      rw [h8]
      refine n_icmp_ge (tgt := 102) hC dX6_numberHere_51 (by decide) (fun h => ?_) (fun h => ?_)
      · exact absurd h (nI_ge (by omega) (by omega))
      · clear h
        refine n_aload_n hC dX6_numberHere_54 rfl rfl ?_
        refine g3_tape hC (by first | exact rfl | with_reducible assumption) wfX6_27 dX6_numberHere_55 ?_
        refine n_iload hC dX6_numberHere_58 rfl ?_
        refine n_callV hC (c_at d k B σ hB (by omega)) (Nat.le_refl _) (by decide) (by first | exact rfl | with_reducible assumption) rfl rfl rfl ⟨wmX6_76, wi_yX8_at, wv_yX8_at, wzX8, wc_yX8_at⟩ hy_yX8_at rfl (Nat.le_of_ble_eq_true rfl) dX6_numberHere_60 (fun rv σ' hpo => ?_)
        obtain ⟨rfl, hσ⟩ := hpo
        rw [hσ]
        refine n_istore hC dX6_numberHere_63 (Nat.le_of_ble_eq_true rfl) ?_
        refine n_iload hC dX6_numberHere_65 rfl ?_
        refine n_callS hC (c6_isDigit d (b_at B k) σ) (Nat.le_refl _) (by decide) ⟨wmX6_132, ws_yX6_isDigit, wzX6, wc_yX6_isDigit⟩ hy_yX6_isDigit rfl (Nat.le_of_ble_eq_true rfl) dX6_numberHere_67 (fun rv σ' hpo => ?_)
        obtain ⟨hpo, hσ⟩ := hpo
        rw [hσ]
        rcases hpo with ⟨q, rfl⟩ | ⟨q, rfl⟩
        · obtain ⟨x, x1, x2, x3⟩ := p_dg_b q
          refine n_if_ne (tgt := 77) hC dX6_numberHere_70 (by decide) (fun h => ?_) (fun h => ?_)
          · clear h
            refine n_lload_n hC dX6_numberHere_77 rfl rfl ?_
            refine n_ldc2 hC wkX6_135 dX6_numberHere_78 ?_
            refine n_lmul hC dX6_numberHere_81 ?_
            refine n_iload hC dX6_numberHere_82 rfl ?_
            refine n_bipush (v := 48) hC dX6_numberHere_84 (by decide) ?_
            refine n_isub hC dX6_numberHere_86 ?_
            refine n_i2l (v := Int64.ofNat (x - 48)) hC dX6_numberHere_87 (by rw [x3]; exact dg_sub x x1 x2) ?_
            refine n_ladd hC dX6_numberHere_88 ?_
            rw [i64_step2]
            refine n_ldc2 hC wkX6_137 dX6_numberHere_89 ?_
            refine n_lmin hC wmX6_139 (Nat.le_of_ble_eq_true rfl) dX6_numberHere_92 ?_
            have emin : (if (2147483649 : Int64) < Int64.ofNat (S * 10 + (x - 48)) then (2147483649 : Int64) else Int64.ofNat (S * 10 + (x - 48))) = Int64.ofNat (min (S * 10 + (x - 48)) 2147483649) := by
              have hbound : S * 10 + (x - 48) < 2 ^ 63 := by omega
              rw [show (2147483649 : Int64) = Int64.ofNat 2147483649 from rfl]
              by_cases z : S * 10 + (x - 48) ≤ 2147483649
              · rw [if_neg (Int64.not_lt.mpr ((i64_le (b := 2147483649) hbound (by omega)).mpr z)), Nat.min_eq_left z]
              · rw [if_pos (Int64.not_le.mp (fun w => z ((i64_le (b := 2147483649) hbound (by omega)).mp w))), Nat.min_eq_right (by omega)]
            rw [emin]
            refine n_lstore_n hC dX6_numberHere_95 rfl (Nat.le_of_ble_eq_true rfl) ?_
            refine n_iinc hC dX6_numberHere_96 rfl (show _ + Int32.ofInt 1 = _ + 1 from rfl) ?_
            refine n_goto (tgt := 45) hC dX6_numberHere_99 (by decide) ?_
            rw [nI_1]
            refine ih (k + 1) _ _ (by omega) (by omega) (fun i u1 u2 => ?_) ?_
            · by_cases z : i = k
              · rw [z]; exact q
              · exact hall i u1 (by omega)
            · rw [edec, x3, nI_clamp (by omega)]
              omega
          · exact absurd h (by decide)
        · refine n_if_ne (tgt := 77) hC dX6_numberHere_70 (by decide) (fun h => ?_) (fun h => ?_)
          · exact absurd rfl h
          · refine n_ldc2 hC wkX6_87 dX6_numberHere_73 ?_
            refine n_lret hC dX6_numberHere_76 ?_
            refine ⟨Or.inr ⟨fun z => q (z.2.1 k (by rw [← hfr]; exact hfk) (by omega)), rfl⟩, rfl⟩
  have at39 : ∀ (ls : Int32) (fr : Nat), fr = p_from B a → fr ≤ b → ((b_at B a = 45 ∧ ls = 1) ∨ (b_at B a ≠ 45 ∧ ls = 0)) → n_W p l e s m [Value.ref (ad 3 0)].toArray below meth c (cw D ca ad ae Ex) (d + 1) (fun rv σ' => ((p_isn B a b ∧ rv = some (.long (p_nl B a b))) ∨ (¬ p_isn B a b ∧ rv = some (.long 9000000000))) ∧ σ' = σ) 39 [some (.ref (ad 3 0)), some (.int ls), none, none, none, none, none] [.int (nI fr)] σ := by
    intro ls fr hfr hfb hls
    refine n_istore_n hC dX6_numberHere_39 rfl (Nat.le_of_ble_eq_true rfl) ?_
    refine n_lconst (v := 0) hC dX6_numberHere_40 (by decide) ?_
    refine n_lstore_n hC dX6_numberHere_41 rfl (Nat.le_of_ble_eq_true rfl) ?_
    refine n_iload_n hC dX6_numberHere_42 rfl rfl ?_
    refine n_istore hC dX6_numberHere_43 (Nat.le_of_ble_eq_true rfl) ?_
    exact main ls fr hfr hfb hls (b - fr) fr 0 none (by omega) (Nat.le_refl _) (fun i u1 u2 => by omega) (by rw [Nat.sub_self]; rfl)
  refine n_aload_n hC dX6_numberHere_0 rfl rfl ?_
  refine g3_tape hC (by first | exact rfl | with_reducible assumption) wfX6_27 dX6_numberHere_1 ?_
  refine n_aload_n hC dX6_numberHere_4 rfl rfl ?_
  refine g3_start hC (by first | exact rfl | with_reducible assumption) wfX6_73 dX6_numberHere_5 ?_
  rw [h7]
  refine n_callV hC (c_at d a B σ hB (by omega)) (Nat.le_refl _) (by decide) (by first | exact rfl | with_reducible assumption) rfl rfl rfl ⟨wmX6_76, wi_yX8_at, wv_yX8_at, wzX8, wc_yX8_at⟩ hy_yX8_at rfl (Nat.le_of_ble_eq_true rfl) dX6_numberHere_8 (fun rv σ' hpo => ?_)
  obtain ⟨rfl, hσ⟩ := hpo
  rw [hσ]
  refine n_bipush (v := 45) hC dX6_numberHere_11 (by decide) ?_
  refine n_icmp_ne (tgt := 20) hC dX6_numberHere_13 (by decide) (fun h => ?_) (fun h => ?_)
  · have hz := h
    clear h
    refine n_iconst (v := 0) hC dX6_numberHere_20 (by decide) ?_
    refine n_istore_n hC dX6_numberHere_21 rfl (Nat.le_of_ble_eq_true rfl) ?_
    refine n_iload_n hC dX6_numberHere_22 rfl rfl ?_
    refine n_if_eq (tgt := 35) hC dX6_numberHere_23 (by decide) (fun h => ?_) (fun h => ?_)
    · refine n_aload_n hC dX6_numberHere_35 rfl rfl ?_
      refine g3_start hC (by first | exact rfl | with_reducible assumption) wfX6_73 dX6_numberHere_36 ?_
      rw [h7]
      exact at39 0 a (by unfold p_from; rw [if_neg hz]) (by omega) (Or.inr ⟨hz, rfl⟩)
    · exact absurd rfl h
  · have hz := h
    clear h
    refine n_iconst (v := 1) hC dX6_numberHere_16 (by decide) ?_
    refine n_goto (tgt := 21) hC dX6_numberHere_17 (by decide) ?_
    refine n_istore_n hC dX6_numberHere_21 rfl (Nat.le_of_ble_eq_true rfl) ?_
    refine n_iload_n hC dX6_numberHere_22 rfl rfl ?_
    refine n_if_eq (tgt := 35) hC dX6_numberHere_23 (by decide) (fun h => ?_) (fun h => ?_)
    · exact absurd h (by decide)
    · refine n_aload_n hC dX6_numberHere_26 rfl rfl ?_
      refine g3_start hC (by first | exact rfl | with_reducible assumption) wfX6_73 dX6_numberHere_27 ?_
      rw [h7]
      refine n_iconst (v := 1) hC dX6_numberHere_30 (by decide) ?_
      refine n_iadd hC dX6_numberHere_31 ?_
      refine n_goto (tgt := 39) hC dX6_numberHere_32 (by decide) ?_
      rw [nI_1]
      exact at39 1 (a + 1) (by unfold p_from; rw [if_pos hz]) (by omega) (Or.inl ⟨hz, rfl⟩)
end CR1
