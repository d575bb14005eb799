def b_at (B : List Int32) (k : Nat) : Int32 := if k < B.length then B.getD k 0 &&& 255 else -1
abbrev p_bl (c : Int32) : Prop := c = 9 ∨ c = 10 ∨ c = 13 ∨ c = 32
abbrev p_dg (c : Int32) : Prop := 48 ≤ c ∧ c ≤ 57
abbrev p_lt (c : Int32) : Prop := 97 ≤ c ∧ c ≤ 122
/-- behind blanks and remarks -/
def p_sk (B : List Int32) : Bool → Nat → Nat → Nat
  | _, 0, k => k
  | c, n + 1, k => if b_at B k = 10 then p_sk B false n (k + 1) else if b_at B k = 35 then p_sk B true n (k + 1) else if c = false ∧ ¬ p_bl (b_at B k) then k else p_sk B c n (k + 1)
def p_skip (B : List Int32) (k : Nat) : Nat := p_sk B false (B.length - k) k
def p_we (B : List Int32) : Nat → Nat → Nat
  | 0, k => k
  | n + 1, k => if p_bl (b_at B k) then k else p_we B n (k + 1)
def p_wend (B : List Int32) (k : Nat) : Nat := p_we B (B.length - k) k
theorem p_sk_le (B : List Int32) : ∀ (n : Nat) (c : Bool) (k : Nat), k ≤ p_sk B c n k ∧ p_sk B c n k ≤ k + n
  | 0, c, k => by simp [p_sk]
  | n + 1, c, k => by
    have h1 := p_sk_le B n false (k + 1)
    have h2 := p_sk_le B n true (k + 1)
    have h3 := p_sk_le B n c (k + 1)
    unfold p_sk
    split
    · omega
    · split
      · omega
      · split <;> omega
theorem p_we_le (B : List Int32) : ∀ (n : Nat) (k : Nat), k ≤ p_we B n k ∧ p_we B n k ≤ k + n
  | 0, k => by simp [p_we]
  | n + 1, k => by
    have h1 := p_we_le B n (k + 1)
    unfold p_we
    split <;> omega
theorem p_skip_le {B : List Int32} {k : Nat} (h : k ≤ B.length) : k ≤ p_skip B k ∧ p_skip B k ≤ B.length := by
  have := p_sk_le B (B.length - k) false k
  unfold p_skip
  omega
theorem p_wend_le {B : List Int32} {k : Nat} (h : k ≤ B.length) : k ≤ p_wend B k ∧ p_wend B k ≤ B.length := by
  have := p_we_le B (B.length - k) k
  unfold p_wend
  omega
theorem b_at_lt {B : List Int32} {k : Nat} (h : k < B.length) : b_at B k = B.getD k 0 &&& 255 := if_pos h
theorem b_at_ge {B : List Int32} {k : Nat} (h : ¬ k < B.length) : b_at B k = -1 := if_neg h
theorem and255 (x : Int32) : ¬ x &&& 255 < 0 := by
  intro h
  have h2 := Int32.lt_iff_toInt_lt.mp h
  have h3 : (x &&& 255).toInt = (x &&& 255).toBitVec.toInt := rfl
  have h4 : (x &&& 255).toBitVec = x.toBitVec &&& 255#32 := rfl
  rw [h3, h4] at h2
  have h5 : (x.toBitVec &&& 255#32).toNat ≤ 255 := by
    rw [BitVec.toNat_and]
    exact Nat.and_le_right
  have h6 : (x.toBitVec &&& 255#32).toInt = ((x.toBitVec &&& 255#32).toNat : Int) := BitVec.toInt_eq_toNat_of_lt (by omega)
  rw [h6] at h2
  have h7 : ((0 : Int32).toInt) = 0 := rfl
  omega
theorem b_at_m1 {B : List Int32} {k : Nat} : b_at B k = -1 ↔ ¬ k < B.length := by
  constructor
  · intro h z
    rw [b_at_lt z] at h
    exact and255 (B.getD k 0) (by rw [h]; decide)
  · exact b_at_ge
/-- the reference's tape -/
def TB (B : List Int32) (τ : n_S) : Prop := τ 0 0 4 = nI B.length ∧ B.length ≤ 8192 ∧ ∀ j, j < B.length → τ 4 0 j = B.getD j 0
section RPR
variable {l : Launch} {D : va_G} {ca : Nat → ClassId} {ad : Nat → Nat → Nat} {Ex : State → Heap → Prop}
theorem x_byteOf (d k : Nat) (B : List Int32) (τ : n_S) (hB : TB B τ) (hk : k < 2 ^ 31) : n_Ct l (rw D ca ad Ex) d yX12_byteOf cX12_byteOf 2 (some .int) [.ref (ad 0 0), .int (nI k)] τ (fun rv τ' => rv = some (.int (b_at B k)) ∧ τ' = τ) := by
  obtain ⟨e1, h1, h3⟩ := hB
  refine n_ofW (by decide) (Nat.le_of_ble_eq_true rfl) ?_
  intro p e s m below meth c hC
  refine n_iload_n hC dX12_byteOf_0 rfl rfl ?_
  refine n_aload_n hC dX12_byteOf_1 rfl rfl ?_
  refine gm_size hC wfX12_227 dX12_byteOf_2 ?_
  rw [e1]
  refine n_icmp_ge (tgt := 21) hC dX12_byteOf_5 (by decide) (fun h => ?_) (fun h => ?_)
  · have hge : ¬ k < B.length := by
      have := (nI_leI (by omega) hk).mp h
      omega
    rw [b_at_ge hge]
    refine n_iconst (v := -1) hC dX12_byteOf_21 (by decide) ?_
    refine n_iret hC dX12_byteOf_22 ?_
    exact ⟨rfl, rfl⟩
  · have hlt : k < B.length := by
      rcases Nat.lt_or_ge k B.length with z | z
      · exact z
      · exact absurd (nI_le z hk) h
    rw [b_at_lt hlt]
    refine n_aload_n hC dX12_byteOf_8 rfl rfl ?_
    refine gm_tape hC wfX12_105 dX12_byteOf_9 ?_
    refine n_iload_n hC dX12_byteOf_12 rfl rfl ?_
    first | refine r_ldb hC rfl (fun _ => rfl) (by decide) (by first | omega | with_reducible assumption) dX12_byteOf_13 ?_ | refine r_ldz hC rfl (fun _ => rfl) (by decide) (by first | omega | with_reducible assumption) dX12_byteOf_13 ?_
    rw [h3 k hlt]
    refine n_sipush (v := 255) hC dX12_byteOf_14 (by decide) ?_
    refine n_iand hC dX12_byteOf_17 ?_
    refine n_goto (tgt := 22) hC dX12_byteOf_18 (by decide) ?_
    refine n_iret hC dX12_byteOf_22 ?_
    exact ⟨rfl, rfl⟩
theorem x_isBlank (d : Nat) (x : Int32) (τ : n_S) : n_Ct l (rw D ca ad Ex) d yX12_isBlank cX12_isBlank 1 (some .boolean) [.int x] τ (fun rv τ' => ((p_bl x ∧ rv = some (.int 1)) ∨ (¬ p_bl x ∧ rv = some (.int 0))) ∧ τ' = τ) := by
  refine n_ofW (by decide) (Nat.le_of_ble_eq_true rfl) ?_
  intro p e s m below meth c hC
  have yes : p_bl x → n_W p l e s m [Value.int x].toArray below meth c (rw D ca ad Ex) d (fun rv τ' => ((p_bl x ∧ rv = some (.int 1)) ∨ (¬ p_bl x ∧ rv = some (.int 0))) ∧ τ' = τ) 24 [some (.int x)] [] τ := by
    intro hb
    refine n_iconst (v := 1) hC dX12_isBlank_24 (by decide) ?_
    refine n_goto (tgt := 29) hC dX12_isBlank_25 (by decide) ?_
    refine n_zret hC dX12_isBlank_29 rfl ?_
    exact ⟨Or.inl ⟨hb, rfl⟩, rfl⟩
  refine n_iload_n hC dX12_isBlank_0 rfl rfl ?_
  refine n_bipush (v := 9) hC dX12_isBlank_1 (by decide) ?_
  refine n_icmp_eq (tgt := 24) hC dX12_isBlank_3 (by decide) (fun h => ?_) (fun h => ?_)
  · exact yes (Or.inl h)
  · have h9 := h
    clear h
    refine n_iload_n hC dX12_isBlank_6 rfl rfl ?_
    refine n_bipush (v := 10) hC dX12_isBlank_7 (by decide) ?_
    refine n_icmp_eq (tgt := 24) hC dX12_isBlank_9 (by decide) (fun h => ?_) (fun h => ?_)
    · exact yes (Or.inr (Or.inl h))
    · have h10 := h
      clear h
      refine n_iload_n hC dX12_isBlank_12 rfl rfl ?_
      refine n_bipush (v := 13) hC dX12_isBlank_13 (by decide) ?_
      refine n_icmp_eq (tgt := 24) hC dX12_isBlank_15 (by decide) (fun h => ?_) (fun h => ?_)
      · exact yes (Or.inr (Or.inr (Or.inl h)))
      · have h13 := h
        clear h
        refine n_iload_n hC dX12_isBlank_18 rfl rfl ?_
        refine n_bipush (v := 32) hC dX12_isBlank_19 (by decide) ?_
        refine n_icmp_ne (tgt := 28) hC dX12_isBlank_21 (by decide) (fun h => ?_) (fun h => ?_)
        · refine n_iconst (v := 0) hC dX12_isBlank_28 (by decide) ?_
          refine n_zret hC dX12_isBlank_29 rfl ?_
          refine ⟨Or.inr ⟨fun z => ?_, rfl⟩, rfl⟩
          rcases z with z | z | z | z
          · exact h9 z
          · exact h10 z
          · exact h13 z
          · exact h z
        · exact yes (Or.inr (Or.inr (Or.inr h)))
theorem x_isDigit (d : Nat) (x : Int32) (τ : n_S) : n_Ct l (rw D ca ad Ex) d yX12_isDigit cX12_isDigit 1 (some .boolean) [.int x] τ (fun rv τ' => ((p_dg x ∧ rv = some (.int 1)) ∨ (¬ p_dg x ∧ rv = some (.int 0))) ∧ τ' = τ) := by
  refine n_ofW (by decide) (Nat.le_of_ble_eq_true rfl) ?_
  intro p e s m below meth c hC
  refine n_iload_n hC dX12_isDigit_0 rfl rfl ?_
  refine n_bipush (v := 48) hC dX12_isDigit_1 (by decide) ?_
  refine n_icmp_lt (tgt := 16) hC dX12_isDigit_3 (by decide) (fun h => ?_) (fun h => ?_)
  · refine n_iconst (v := 0) hC dX12_isDigit_16 (by decide) ?_
    refine n_zret hC dX12_isDigit_17 rfl ?_
    exact ⟨Or.inr ⟨fun z => absurd z.1 (Int32.not_le.mpr h), rfl⟩, rfl⟩
  · have h0 := Int32.not_lt.mp h
    clear h
    refine n_iload_n hC dX12_isDigit_6 rfl rfl ?_
    refine n_bipush (v := 57) hC dX12_isDigit_7 (by decide) ?_
    refine n_icmp_gt (tgt := 16) hC dX12_isDigit_9 (by decide) (fun h => ?_) (fun h => ?_)
    · refine n_iconst (v := 0) hC dX12_isDigit_16 (by decide) ?_
      refine n_zret hC dX12_isDigit_17 rfl ?_
      exact ⟨Or.inr ⟨fun z => absurd z.2 (Int32.not_le.mpr h), rfl⟩, rfl⟩
    · refine n_iconst (v := 1) hC dX12_isDigit_12 (by decide) ?_
      refine n_goto (tgt := 17) hC dX12_isDigit_13 (by decide) ?_
      refine n_zret hC dX12_isDigit_17 rfl ?_
      exact ⟨Or.inl ⟨⟨h0, Int32.not_lt.mp h⟩, rfl⟩, rfl⟩
theorem x_isLetter (d : Nat) (x : Int32) (τ : n_S) : n_Ct l (rw D ca ad Ex) d yX12_isLetter cX12_isLetter 1 (some .boolean) [.int x] τ (fun rv τ' => ((p_lt x ∧ rv = some (.int 1)) ∨ (¬ p_lt x ∧ rv = some (.int 0))) ∧ τ' = τ) := by
  refine n_ofW (by decide) (Nat.le_of_ble_eq_true rfl) ?_
  intro p e s m below meth c hC
  refine n_iload_n hC dX12_isLetter_0 rfl rfl ?_
  refine n_bipush (v := 97) hC dX12_isLetter_1 (by decide) ?_
  refine n_icmp_lt (tgt := 16) hC dX12_isLetter_3 (by decide) (fun h => ?_) (fun h => ?_)
  · refine n_iconst (v := 0) hC dX12_isLetter_16 (by decide) ?_
    refine n_zret hC dX12_isLetter_17 rfl ?_
    exact ⟨Or.inr ⟨fun z => absurd z.1 (Int32.not_le.mpr h), rfl⟩, rfl⟩
  · have h0 := Int32.not_lt.mp h
    clear h
    refine n_iload_n hC dX12_isLetter_6 rfl rfl ?_
    refine n_bipush (v := 122) hC dX12_isLetter_7 (by decide) ?_
    refine n_icmp_gt (tgt := 16) hC dX12_isLetter_9 (by decide) (fun h => ?_) (fun h => ?_)
    · refine n_iconst (v := 0) hC dX12_isLetter_16 (by decide) ?_
      refine n_zret hC dX12_isLetter_17 rfl ?_
      exact ⟨Or.inr ⟨fun z => absurd z.2 (Int32.not_le.mpr h), rfl⟩, rfl⟩
    · refine n_iconst (v := 1) hC dX12_isLetter_12 (by decide) ?_
      refine n_goto (tgt := 17) hC dX12_isLetter_13 (by decide) ?_
      refine n_zret hC dX12_isLetter_17 rfl ?_
      exact ⟨Or.inl ⟨⟨h0, Int32.not_lt.mp h⟩, rfl⟩, rfl⟩
theorem x_takeWord (d k0 : Nat) (B : List Int32) (τ : n_S) (hB : TB B τ) (hk0 : k0 ≤ B.length) (hw : τ 0 0 18 = nI k0) : n_Ct l (rw D ca ad Ex) (d + 1) yX12_takeWord cX12_takeWord 2 none [.ref (ad 0 0)] τ (fun rv τ' => rv = none ∧ τ' = n_up (n_up τ 0 0 17 (nI (p_skip B k0))) 0 0 18 (nI (p_wend B (p_skip B k0)))) := by
  have hlen := hB.2.1
  refine n_ofW (by decide) (Nat.le_of_ble_eq_true rfl) ?_
  intro p e s m below meth c hC
  have third : ∀ (t k : Nat), t + k = B.length → p_we B (B.length - k) k = p_wend B (p_skip B k0) → n_W p l e s m [Value.ref (ad 0 0)].toArray below meth c (rw D ca ad Ex) (d + 1) (fun rv τ' => rv = none ∧ τ' = n_up (n_up τ 0 0 17 (nI (p_skip B k0))) 0 0 18 (nI (p_wend B (p_skip B k0)))) 72 [some (.ref (ad 0 0)), some (.int (nI k))] [] (n_up τ 0 0 17 (nI (p_skip B k0))) := by
    have hB1 : TB B (n_up τ 0 0 17 (nI (p_skip B k0))) := ⟨(n_up_o (by omega)).trans hB.1, hB.2.1, fun j hj => (n_up_o (by omega)).trans (hB.2.2 j hj)⟩
    intro t
    induction t with
    | zero =>
      intro k ht he
      have hk : k = B.length := by omega
      have he2 : k = p_wend B (p_skip B k0) := by
        rw [← he, hk, Nat.sub_self]
        rfl
      refine n_aload_n hC dX12_takeWord_72 rfl rfl ?_
      refine n_iload_n hC dX12_takeWord_73 rfl rfl ?_
      refine n_callV hC (x_byteOf d k B _ hB1 (by omega)) (Nat.le_refl _) (by decide) (by first | exact rfl | with_reducible assumption) rfl rfl rfl ⟨wmX12_233, wi_yX12_byteOf, wv_yX12_byteOf, wzX12, wc_yX12_byteOf⟩ hy_yX12_byteOf rfl (Nat.le_of_ble_eq_true rfl) dX12_takeWord_74 (fun rv σ' hpo => ?_)
      obtain ⟨rfl, hσ⟩ := hpo
      rw [hσ, b_at_ge (by omega)]
      refine n_iconst (v := -1) hC dX12_takeWord_77 (by decide) ?_
      refine n_icmp_eq (tgt := 98) hC dX12_takeWord_78 (by decide) (fun h => ?_) (fun h => ?_)
      · refine n_aload_n hC dX12_takeWord_98 rfl rfl ?_
        refine n_iload_n hC dX12_takeWord_99 rfl rfl ?_
        refine pm_wordEnd hC wfX12_230 dX12_takeWord_100 ?_
        refine n_vret hC dX12_takeWord_103 ?_
        rw [he2]
        exact ⟨rfl, rfl⟩
      · exact absurd rfl h
    | succ t ih =>
      intro k ht he
      have hkl : k < B.length := by omega
      rw [show B.length - k = (B.length - (k + 1)) + 1 by omega] at he
      unfold p_we at he
      refine n_aload_n hC dX12_takeWord_72 rfl rfl ?_
      refine n_iload_n hC dX12_takeWord_73 rfl rfl ?_
      refine n_callV hC (x_byteOf d k B _ hB1 (by omega)) (Nat.le_refl _) (by decide) (by first | exact rfl | with_reducible assumption) rfl rfl rfl ⟨wmX12_233, wi_yX12_byteOf, wv_yX12_byteOf, wzX12, wc_yX12_byteOf⟩ hy_yX12_byteOf rfl (Nat.le_of_ble_eq_true rfl) dX12_takeWord_74 (fun rv σ' hpo => ?_)
      obtain ⟨rfl, hσ⟩ := hpo
      rw [hσ]
      refine n_iconst (v := -1) hC dX12_takeWord_77 (by decide) ?_
      refine n_icmp_eq (tgt := 98) hC dX12_takeWord_78 (by decide) (fun h => ?_) (fun h => ?_)
      · exact absurd hkl (b_at_m1.mp h)
      · clear h
        refine n_aload_n hC dX12_takeWord_81 rfl rfl ?_
        refine n_iload_n hC dX12_takeWord_82 rfl rfl ?_
        refine n_callV hC (x_byteOf d k B _ hB1 (by omega)) (Nat.le_refl _) (by decide) (by first | exact rfl | with_reducible assumption) rfl rfl rfl ⟨wmX12_233, wi_yX12_byteOf, wv_yX12_byteOf, wzX12, wc_yX12_byteOf⟩ hy_yX12_byteOf rfl (Nat.le_of_ble_eq_true rfl) dX12_takeWord_83 (fun rv σ' hpo => ?_)
        obtain ⟨rfl, hσ⟩ := hpo
        rw [hσ]
        refine n_callS hC (x_isBlank d (b_at B k) _) (Nat.le_refl _) (by decide) ⟨wmX12_237, ws_yX12_isBlank, wzX12, wc_yX12_isBlank⟩ hy_yX12_isBlank rfl (Nat.le_of_ble_eq_true rfl) dX12_takeWord_86 (fun rv σ' hpo => ?_)
        obtain ⟨hpo, hσ⟩ := hpo
        rw [hσ]
        rcases hpo with ⟨hb, rfl⟩ | ⟨hb, rfl⟩
        · rw [if_pos hb] at he
          refine n_if_ne (tgt := 98) hC dX12_takeWord_89 (by decide) (fun h => ?_) (fun h => ?_)
          · refine n_aload_n hC dX12_takeWord_98 rfl rfl ?_
            refine n_iload_n hC dX12_takeWord_99 rfl rfl ?_
            refine pm_wordEnd hC wfX12_230 dX12_takeWord_100 ?_
            refine n_vret hC dX12_takeWord_103 ?_
            rw [he]
            exact ⟨rfl, rfl⟩
          · exact absurd h (by decide)
        · rw [if_neg hb] at he
          refine n_if_ne (tgt := 98) hC dX12_takeWord_89 (by decide) (fun h => ?_) (fun h => ?_)
          · exact absurd rfl h
          · refine n_iinc hC dX12_takeWord_92 rfl (show _ + Int32.ofInt 1 = _ + 1 from rfl) ?_
            refine n_goto (tgt := 72) hC dX12_takeWord_95 (by decide) ?_
            rw [nI_1]
            exact ih (k + 1) (by omega) he
  have outer : ∀ (t k : Nat), B.length - k ≤ t → k ≤ B.length → p_sk B false (B.length - k) k = p_skip B k0 → n_W p l e s m [Value.ref (ad 0 0)].toArray below meth c (rw D ca ad Ex) (d + 1) (fun rv τ' => rv = none ∧ τ' = n_up (n_up τ 0 0 17 (nI (p_skip B k0))) 0 0 18 (nI (p_wend B (p_skip B k0)))) 5 [some (.ref (ad 0 0)), some (.int (nI k))] [] τ := by
    have found : ∀ k, k ≤ B.length → k = p_skip B k0 → n_W p l e s m [Value.ref (ad 0 0)].toArray below meth c (rw D ca ad Ex) (d + 1) (fun rv τ' => rv = none ∧ τ' = n_up (n_up τ 0 0 17 (nI (p_skip B k0))) 0 0 18 (nI (p_wend B (p_skip B k0)))) 67 [some (.ref (ad 0 0)), some (.int (nI k))] [] τ := by
      intro k hk he
      refine n_aload_n hC dX12_takeWord_67 rfl rfl ?_
      refine n_iload_n hC dX12_takeWord_68 rfl rfl ?_
      refine pm_wordAt hC wfX12_241 dX12_takeWord_69 ?_
      rw [he]
      refine third (B.length - p_skip B k0) (p_skip B k0) (by omega) rfl
    intro t
    induction t with
    | zero =>
      intro k ht hk he
      have hkl : ¬ k < B.length := by omega
      refine n_aload_n hC dX12_takeWord_5 rfl rfl ?_
      refine n_iload_n hC dX12_takeWord_6 rfl rfl ?_
      refine n_callV hC (x_byteOf d k B _ hB (by omega)) (Nat.le_refl _) (by decide) (by first | exact rfl | with_reducible assumption) rfl rfl rfl ⟨wmX12_233, wi_yX12_byteOf, wv_yX12_byteOf, wzX12, wc_yX12_byteOf⟩ hy_yX12_byteOf rfl (Nat.le_of_ble_eq_true rfl) dX12_takeWord_7 (fun rv σ' hpo => ?_)
      obtain ⟨rfl, hσ⟩ := hpo
      rw [hσ, b_at_ge hkl]
      refine n_callS hC (x_isBlank d (-1) _) (Nat.le_refl _) (by decide) ⟨wmX12_237, ws_yX12_isBlank, wzX12, wc_yX12_isBlank⟩ hy_yX12_isBlank rfl (Nat.le_of_ble_eq_true rfl) dX12_takeWord_10 (fun rv σ' hpo => ?_)
      obtain ⟨hpo, hσ⟩ := hpo
      rw [hσ]
      rcases hpo with ⟨hb, rfl⟩ | ⟨hb, rfl⟩
      · exact absurd hb (by decide)
      · refine n_if_ne (tgt := 26) hC dX12_takeWord_13 (by decide) (fun h => ?_) (fun h => ?_)
        · exact absurd rfl h
        · clear h
          refine n_aload_n hC dX12_takeWord_16 rfl rfl ?_
          refine n_iload_n hC dX12_takeWord_17 rfl rfl ?_
          refine n_callV hC (x_byteOf d k B _ hB (by omega)) (Nat.le_refl _) (by decide) (by first | exact rfl | with_reducible assumption) rfl rfl rfl ⟨wmX12_233, wi_yX12_byteOf, wv_yX12_byteOf, wzX12, wc_yX12_byteOf⟩ hy_yX12_byteOf rfl (Nat.le_of_ble_eq_true rfl) dX12_takeWord_18 (fun rv σ' hpo => ?_)
          obtain ⟨rfl, hσ⟩ := hpo
          rw [hσ, b_at_ge hkl]
          refine n_bipush (v := 35) hC dX12_takeWord_21 (by decide) ?_
          refine n_icmp_ne (tgt := 67) hC dX12_takeWord_23 (by decide) (fun h => ?_) (fun h => ?_)
          · refine found k hk ?_
            rw [← he, show B.length - k = 0 by omega]
            rfl
          · exact absurd h (by decide)
    | succ t ih =>
      intro k ht hk he
      by_cases hkl : k < B.length
      · have he' := he
        rw [show B.length - k = (B.length - (k + 1)) + 1 by omega] at he
        unfold p_sk at he
        have inner : ∀ (t' k' : Nat), t' + k' = B.length → k ≤ k' → (k' = k → b_at B k = 35) → p_sk B true (B.length - k') k' = p_skip B k0 → n_W p l e s m [Value.ref (ad 0 0)].toArray below meth c (rw D ca ad Ex) (d + 1) (fun rv τ' => rv = none ∧ τ' = n_up (n_up τ 0 0 17 (nI (p_skip B k0))) 0 0 18 (nI (p_wend B (p_skip B k0)))) 36 [some (.ref (ad 0 0)), some (.int (nI k'))] [] τ := by
          intro t'
          induction t' with
          | zero =>
            intro k' ht' hkk h35 hs
            have hk' : ¬ k' < B.length := by omega
            refine n_aload_n hC dX12_takeWord_36 rfl rfl ?_
            refine n_iload_n hC dX12_takeWord_37 rfl rfl ?_
            refine n_callV hC (x_byteOf d k' B _ hB (by omega)) (Nat.le_refl _) (by decide) (by first | exact rfl | with_reducible assumption) rfl rfl rfl ⟨wmX12_233, wi_yX12_byteOf, wv_yX12_byteOf, wzX12, wc_yX12_byteOf⟩ hy_yX12_byteOf rfl (Nat.le_of_ble_eq_true rfl) dX12_takeWord_38 (fun rv σ' hpo => ?_)
            obtain ⟨rfl, hσ⟩ := hpo
            rw [hσ, b_at_ge hk']
            refine n_iconst (v := -1) hC dX12_takeWord_41 (by decide) ?_
            refine n_icmp_eq (tgt := 5) hC dX12_takeWord_42 (by decide) (fun h => ?_) (fun h => ?_)
            · refine ih k' (by omega) (by omega) ?_
              rw [← hs, show B.length - k' = 0 by omega]
              rfl
            · exact absurd rfl h
          | succ t' ih' =>
            intro k' ht' hkk h35 hs
            have hk' : k' < B.length := by omega
            rw [show B.length - k' = (B.length - (k' + 1)) + 1 by omega] at hs
            unfold p_sk at hs
            refine n_aload_n hC dX12_takeWord_36 rfl rfl ?_
            refine n_iload_n hC dX12_takeWord_37 rfl rfl ?_
            refine n_callV hC (x_byteOf d k' B _ hB (by omega)) (Nat.le_refl _) (by decide) (by first | exact rfl | with_reducible assumption) rfl rfl rfl ⟨wmX12_233, wi_yX12_byteOf, wv_yX12_byteOf, wzX12, wc_yX12_byteOf⟩ hy_yX12_byteOf rfl (Nat.le_of_ble_eq_true rfl) dX12_takeWord_38 (fun rv σ' hpo => ?_)
            obtain ⟨rfl, hσ⟩ := hpo
            rw [hσ]
            refine n_iconst (v := -1) hC dX12_takeWord_41 (by decide) ?_
            refine n_icmp_eq (tgt := 5) hC dX12_takeWord_42 (by decide) (fun h => ?_) (fun h => ?_)
            · exact absurd hk' (b_at_m1.mp h)
            · clear h
              refine n_aload_n hC dX12_takeWord_45 rfl rfl ?_
              refine n_iload_n hC dX12_takeWord_46 rfl rfl ?_
              refine n_callV hC (x_byteOf d k' B _ hB (by omega)) (Nat.le_refl _) (by decide) (by first | exact rfl | with_reducible assumption) rfl rfl rfl ⟨wmX12_233, wi_yX12_byteOf, wv_yX12_byteOf, wzX12, wc_yX12_byteOf⟩ hy_yX12_byteOf rfl (Nat.le_of_ble_eq_true rfl) dX12_takeWord_47 (fun rv σ' hpo => ?_)
              obtain ⟨rfl, hσ⟩ := hpo
              rw [hσ]
              refine n_bipush (v := 10) hC dX12_takeWord_50 (by decide) ?_
              refine n_icmp_eq (tgt := 5) hC dX12_takeWord_52 (by decide) (fun h => ?_) (fun h => ?_)
              · have hkk2 : k < k' := by
                  rcases Nat.lt_or_ge k k' with z | z
                  · exact z
                  · have : k' = k := by omega
                    have h2 := h35 this
                    rw [← this, h] at h2
                    exact absurd h2 (by decide)
                refine ih k' (by omega) (by omega) ?_
                rw [show B.length - k' = (B.length - (k' + 1)) + 1 by omega]
                unfold p_sk
                rw [if_pos h] at hs ⊢
                exact hs
              · refine n_iinc hC dX12_takeWord_55 rfl (show _ + Int32.ofInt 1 = _ + 1 from rfl) ?_
                refine n_goto (tgt := 36) hC dX12_takeWord_58 (by decide) ?_
                rw [nI_1]
                refine ih' (k' + 1) (by omega) (by omega) (fun z => by omega) ?_
                rw [if_neg h] at hs
                by_cases z : b_at B k' = 35
                · rw [if_pos z] at hs
                  exact hs
                · rw [if_neg z, if_neg (by simp)] at hs
                  exact hs
        have at26 : (p_bl (b_at B k) ∨ b_at B k = 35) → n_W p l e s m [Value.ref (ad 0 0)].toArray below meth c (rw D ca ad Ex) (d + 1) (fun rv τ' => rv = none ∧ τ' = n_up (n_up τ 0 0 17 (nI (p_skip B k0))) 0 0 18 (nI (p_wend B (p_skip B k0)))) 26 [some (.ref (ad 0 0)), some (.int (nI k))] [] τ := by
          intro hbl
          refine n_aload_n hC dX12_takeWord_26 rfl rfl ?_
          refine n_iload_n hC dX12_takeWord_27 rfl rfl ?_
          refine n_callV hC (x_byteOf d k B _ hB (by omega)) (Nat.le_refl _) (by decide) (by first | exact rfl | with_reducible assumption) rfl rfl rfl ⟨wmX12_233, wi_yX12_byteOf, wv_yX12_byteOf, wzX12, wc_yX12_byteOf⟩ hy_yX12_byteOf rfl (Nat.le_of_ble_eq_true rfl) dX12_takeWord_28 (fun rv σ' hpo => ?_)
          obtain ⟨rfl, hσ⟩ := hpo
          rw [hσ]
          refine n_bipush (v := 35) hC dX12_takeWord_31 (by decide) ?_
          refine n_icmp_ne (tgt := 61) hC dX12_takeWord_33 (by decide) (fun h => ?_) (fun h => ?_)
          · have hb : p_bl (b_at B k) := hbl.resolve_right h
            refine n_iinc hC dX12_takeWord_61 rfl (show _ + Int32.ofInt 1 = _ + 1 from rfl) ?_
            refine n_goto (tgt := 5) hC dX12_takeWord_64 (by decide) ?_
            rw [nI_1]
            refine ih (k + 1) (by omega) (by omega) ?_
            by_cases z : b_at B k = 10
            · rw [if_pos z] at he
              exact he
            · rw [if_neg z, if_neg h, if_neg (fun w => w.2 hb)] at he
              exact he
          · refine inner (B.length - k) k (by omega) (Nat.le_refl _) (fun _ => h) ?_
            rw [show B.length - k = (B.length - (k + 1)) + 1 by omega]
            unfold p_sk
            rw [if_neg (by rw [h]; decide), if_pos h] at he ⊢
            exact he
        refine n_aload_n hC dX12_takeWord_5 rfl rfl ?_
        refine n_iload_n hC dX12_takeWord_6 rfl rfl ?_
        refine n_callV hC (x_byteOf d k B _ hB (by omega)) (Nat.le_refl _) (by decide) (by first | exact rfl | with_reducible assumption) rfl rfl rfl ⟨wmX12_233, wi_yX12_byteOf, wv_yX12_byteOf, wzX12, wc_yX12_byteOf⟩ hy_yX12_byteOf rfl (Nat.le_of_ble_eq_true rfl) dX12_takeWord_7 (fun rv σ' hpo => ?_)
        obtain ⟨rfl, hσ⟩ := hpo
        rw [hσ]
        refine n_callS hC (x_isBlank d (b_at B k) _) (Nat.le_refl _) (by decide) ⟨wmX12_237, ws_yX12_isBlank, wzX12, wc_yX12_isBlank⟩ hy_yX12_isBlank rfl (Nat.le_of_ble_eq_true rfl) dX12_takeWord_10 (fun rv σ' hpo => ?_)
        obtain ⟨hpo, hσ⟩ := hpo
        rw [hσ]
        rcases hpo with ⟨hb, rfl⟩ | ⟨hb, rfl⟩
        · refine n_if_ne (tgt := 26) hC dX12_takeWord_13 (by decide) (fun h => ?_) (fun h => ?_)
          · exact at26 (Or.inl hb)
          · exact absurd h (by decide)
        · refine n_if_ne (tgt := 26) hC dX12_takeWord_13 (by decide) (fun h => ?_) (fun h => ?_)
          · exact absurd rfl h
          · clear h
            refine n_aload_n hC dX12_takeWord_16 rfl rfl ?_
            refine n_iload_n hC dX12_takeWord_17 rfl rfl ?_
            refine n_callV hC (x_byteOf d k B _ hB (by omega)) (Nat.le_refl _) (by decide) (by first | exact rfl | with_reducible assumption) rfl rfl rfl ⟨wmX12_233, wi_yX12_byteOf, wv_yX12_byteOf, wzX12, wc_yX12_byteOf⟩ hy_yX12_byteOf rfl (Nat.le_of_ble_eq_true rfl) dX12_takeWord_18 (fun rv σ' hpo => ?_)
            obtain ⟨rfl, hσ⟩ := hpo
            rw [hσ]
            refine n_bipush (v := 35) hC dX12_takeWord_21 (by decide) ?_
            refine n_icmp_ne (tgt := 67) hC dX12_takeWord_23 (by decide) (fun h => ?_) (fun h => ?_)
            · refine found k hk ?_
              rw [if_neg (fun z => hb (Or.inr (Or.inl z))), if_neg h, if_pos ⟨rfl, hb⟩] at he
              exact he
            · exact at26 (Or.inr h)
      · exact ih k (by omega) hk he
  refine n_aload_n hC dX12_takeWord_0 rfl rfl ?_
  refine gm_wordEnd hC wfX12_230 dX12_takeWord_1 ?_
  rw [hw]
  refine n_istore_n hC dX12_takeWord_4 rfl (Nat.le_of_ble_eq_true rfl) ?_
  exact outer (B.length - k0) k0 (Nat.le_refl _) hk0 rfl
theorem x_flaw (d : Nat) (f pl : Int32) (τ : n_S) : n_Ct l (rw D ca ad Ex) d yX12_flaw cX12_flaw 3 none [.ref (ad 0 0), .int f, .int pl] τ (fun rv τ' => rv = none ∧ τ' = if τ 0 0 5 = 0 then n_up (n_up τ 0 0 5 f) 0 0 6 pl else τ) := by
  refine n_ofW (by decide) (Nat.le_of_ble_eq_true rfl) ?_
  intro p e s m below meth c hC
  refine n_aload_n hC dX12_flaw_0 rfl rfl ?_
  refine gm_fault hC wfX12_271 dX12_flaw_1 ?_
  refine n_if_ne (tgt := 17) hC dX12_flaw_4 (by decide) (fun h => ?_) (fun h => ?_)
  · refine n_vret hC dX12_flaw_17 ?_
    rw [if_neg h]
    exact ⟨rfl, rfl⟩
  · refine n_aload_n hC dX12_flaw_7 rfl rfl ?_
    refine n_iload_n hC dX12_flaw_8 rfl rfl ?_
    refine pm_fault hC wfX12_271 dX12_flaw_9 ?_
    refine n_aload_n hC dX12_flaw_12 rfl rfl ?_
    refine n_iload_n hC dX12_flaw_13 rfl rfl ?_
    refine pm_place hC wfX12_274 dX12_flaw_14 ?_
    refine n_vret hC dX12_flaw_17 ?_
    rw [if_pos h]
    exact ⟨rfl, rfl⟩
end RPR
