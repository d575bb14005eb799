theorem RepC.box {M : n_M} {σ : n_S} (h : RepC M σ) {j : Nat} (hj : 2 ≤ j ∧ j ≤ 25) : (M.2 3 j).length = (M.2 2 j).length := by
  obtain ⟨a1, a2, -⟩ := h.2 2 j hj
  obtain ⟨b1, b2, -⟩ := h.2 3 j hj
  have a1 : (M.2 2 j).length ≤ 8 := a1
  have b1 : (M.2 3 j).length ≤ 8 := b1
  have e : nI (M.2 3 j).length = nI (M.2 2 j).length := b2.symm.trans a2
  exact (nI_eq (by omega) (by omega)).mp e
def n_sh (l : List Int32) (k : Nat) (f : Nat → Int32) : Prop := (∀ q, q < k → f q = l.getD (q + 1) 0) ∧ ∀ q, k ≤ q → q < l.length → f q = l.getD q 0
theorem n_sh_0 {l : List Int32} {f : Nat → Int32} (h : n_h f l) : n_sh l 0 f := ⟨fun q hq => by omega, fun q _ hq => h q hq⟩
theorem n_sh_1 {l : List Int32} {k : Nat} {f : Nat → Int32} (h : n_sh l k f) (hk : k + 1 < l.length) : n_sh l (k + 1) (upd f k (f (k + 1))) := by
  refine ⟨fun q hq => ?_, fun q a b => ?_⟩
  · by_cases e : q = k
    · subst e
      simp only [upd, if_true]
      exact h.2 _ (by omega) hk
    · simp only [upd, if_neg e]
      exact h.1 q (by omega)
  · simp only [upd, if_neg (show ¬ q = k by omega)]
    exact h.2 q (by omega) b
theorem n_sh_e {l : List Int32} {k : Nat} {f : Nat → Int32} (h : n_sh l k f) (hk : l.length ≤ k + 1) : n_h f l.tail := by
  intro q hq
  rw [List.length_tail] at hq
  rw [h.1 q (by omega)]
  cases l with
  | nil => simp at hq
  | cons a l => simp
section BX1
variable {l : Launch} {D : va_G} {ca : Nat → ClassId} {ad : Nat → Nat → Nat} {ae : Nat → Nat} {Ex : State → Heap → Prop}
theorem c_bput (d j : Nat) (x y : Int32) (M : n_M) (σ : n_S) (hM : RepC M σ) (hj : 2 ≤ j ∧ j ≤ 25) : n_Ct l (cw D ca ad ae Ex) d yX1_put cX1_put 3 (some .boolean) [.ref (ad 24 j), .int x, .int y] σ (fun rv σ' => (8 ≤ (M.2 2 j).length ∧ rv = some (.int 0) ∧ RepC M σ') ∨ ((M.2 2 j).length < 8 ∧ rv = some (.int 1) ∧ RepC (m_l (m_l M 2 j (M.2 2 j ++ [x])) 3 j (M.2 3 j ++ [y])) σ')) := by
  obtain ⟨h1, h2, h3⟩ := hM.2 2 j hj
  obtain ⟨i1, i2, i3⟩ := hM.2 3 j hj
  have h1 : (M.2 2 j).length ≤ 8 := h1
  have hll := hM.box hj
  have e1 : σ 24 j 2 = nI (M.2 2 j).length := h2
  refine n_ofW (by decide) (Nat.le_of_ble_eq_true rfl) ?_
  intro p e s m below meth c hC
  have hd : cw_dom 24 j := hj
  have hd2 : cw_dom 26 j := hj
  have hd3 : cw_dom 27 j := hj
  have e2 : (nI (M.2 2 j).length).toNatClampNeg = (M.2 2 j).length := nI_clamp (by omega)
  refine n_aload_n hC dX1_put_0 rfl rfl ?_
  refine g24_size hC (by first | assumption | exact rfl) wfX1_18 dX1_put_1 ?_
  refine n_bipush (v := 8) hC dX1_put_4 (by decide) ?_
  refine n_icmp_lt (tgt := 11) hC dX1_put_6 (by decide) (fun h => ?_) (fun h => ?_)
  · rw [e1] at h
    have hlt : (M.2 2 j).length < 8 := (nI_ltI (b := 8) (by omega) (by decide)).mp h
    refine n_aload_n hC dX1_put_11 rfl rfl ?_
    refine g24_numbers hC (by first | assumption | exact rfl) wfX1_9 dX1_put_12 ?_
    refine n_aload_n hC dX1_put_15 rfl rfl ?_
    refine g24_size hC (by first | assumption | exact rfl) wfX1_18 dX1_put_16 ?_
    refine n_iload_n hC dX1_put_19 rfl rfl ?_
    rw [e1]
    refine c_iast hC (by first | assumption | exact rfl) (fun _ => rfl) (by first | assumption | exact vp_in_nI (by omega) (by decide)) dX1_put_20 ?_
    refine n_aload_n hC dX1_put_21 rfl rfl ?_
    refine g24_senders hC (by first | assumption | exact rfl) wfX1_15 dX1_put_22 ?_
    refine n_aload_n hC dX1_put_25 rfl rfl ?_
    refine g24_size hC (by first | assumption | exact rfl) wfX1_18 dX1_put_26 ?_
    refine n_iload_n hC dX1_put_29 rfl rfl ?_
    rw [n_up_k, if_neg (by omega), e1]
    refine c_iast hC (by first | assumption | exact rfl) (fun _ => rfl) (by first | assumption | exact vp_in_nI (by omega) (by decide)) dX1_put_30 ?_
    refine n_aload_n hC dX1_put_31 rfl rfl ?_
    refine n_dup hC dX1_put_32 rfl ?_
    refine g24_size hC (by first | assumption | exact rfl) wfX1_18 dX1_put_33 ?_
    refine n_iconst (v := 1) hC dX1_put_36 (by decide) ?_
    refine n_iadd hC dX1_put_37 ?_
    refine p24_size hC (by first | assumption | exact rfl) wfX1_18 dX1_put_38 ?_
    refine n_iconst (v := 1) hC dX1_put_41 (by decide) ?_
    refine n_zret hC dX1_put_42 rfl ?_
    refine Or.inr ⟨hlt, rfl, ?_⟩
    rw [e2]
    refine cl_2 hM hj (fun κ i k a b c => ?_) ?_ ?_ ?_ ?_ ?_ ?_
    · simp only [n_up_k]
      repeat (first | rfl | rw [if_neg (by omega)])
    · simp only [n_up_k]
      simp [e1, nI_succ]
    · simp; omega
    · simp only [n_up]
      simp
      exact n_h_push h3
    · simp; omega
    · simp only [n_up]
      simp
      rw [← hll]
      exact n_h_push i3
    · simp; omega
  · rw [e1] at h
    have hlt : 8 ≤ (M.2 2 j).length := Nat.le_of_not_lt fun q => h ((nI_ltI (b := 8) (by omega) (by decide)).mpr q)
    refine n_iconst (v := 0) hC dX1_put_9 (by decide) ?_
    refine n_zret hC dX1_put_10 rfl ?_
    exact Or.inl ⟨hlt, rfl, hM⟩
theorem c_bdrop (d j : Nat) (M : n_M) (σ : n_S) (hM : RepC M σ) (hj : 2 ≤ j ∧ j ≤ 25) : n_Ct l (cw D ca ad ae Ex) d yX1_dropFirst cX1_dropFirst 2 none [.ref (ad 24 j)] σ (fun rv σ' => rv = none ∧ RepC (m_l (m_l M 2 j (M.2 2 j).tail) 3 j (M.2 3 j).tail) σ') := by
  obtain ⟨h1, h2, h3⟩ := hM.2 2 j hj
  obtain ⟨i1, i2, i3⟩ := hM.2 3 j hj
  have h1 : (M.2 2 j).length ≤ 8 := h1
  have hll := hM.box hj
  have e1 : σ 24 j 2 = nI (M.2 2 j).length := h2
  refine n_ofW (by decide) (Nat.le_of_ble_eq_true rfl) ?_
  intro p e s m below meth c hC
  have hd : cw_dom 24 j := hj
  have hd2 : cw_dom 26 j := hj
  have hd3 : cw_dom 27 j := hj
  have loop : ∀ (n k : Nat) (σ1 : n_S), (M.2 2 j).length ≤ n + k + 1 → k ≤ (M.2 2 j).length → (∀ κ i q, ¬ (κ = 26 ∧ i = j) → ¬ (κ = 27 ∧ i = j) → σ1 κ i q = σ κ i q) → n_sh (M.2 2 j) k (σ1 26 j) → n_sh (M.2 3 j) k (σ1 27 j) →
      n_W p l e s m [Value.ref (ad 24 j)].toArray below meth c (cw D ca ad ae Ex) d (fun rv σ' => rv = none ∧ RepC (m_l (m_l M 2 j (M.2 2 j).tail) 3 j (M.2 3 j).tail) σ') 2 [some (.ref (ad 24 j)), some (.int (nI (k + 1)))] [] σ1 := by
    intro n
    induction n with
    | zero =>
      intro k σ1 hn hkl hf s2 s3
      have e2 : σ1 24 j 2 = nI (M.2 2 j).length := by rw [hf 24 j 2 (by omega) (by omega)]; exact e1
      refine n_iload_n hC dX1_dropFirst_2 rfl rfl ?_
      refine n_aload_n hC dX1_dropFirst_3 rfl rfl ?_
      refine g24_size hC (by first | assumption | exact rfl) wfX1_18 dX1_dropFirst_4 ?_
      refine n_icmp_ge (tgt := 44) hC dX1_dropFirst_7 (by decide) (fun h => ?_) (fun h => ?_)
      · refine n_aload_n hC dX1_dropFirst_44 rfl rfl ?_
        refine g24_size hC (by first | assumption | exact rfl) wfX1_18 dX1_dropFirst_45 ?_
        refine n_if_le (tgt := 61) hC dX1_dropFirst_48 (by decide) (fun h => ?_) (fun h => ?_)
        · refine n_vret hC dX1_dropFirst_61 ?_
          rw [e2] at h
          have h0 : (M.2 2 j).length = 0 := by
            have := (nI_leI (b := 0) (by omega) (by decide)).mp h
            omega
          refine ⟨rfl, cl_2 hM hj (fun κ i k a b c => hf κ i k b c) ?_ ?_ (n_sh_e s2 (by omega)) ?_ (n_sh_e s3 (by omega)) ?_⟩
          · rw [e2, List.length_tail, h0]
          · rw [List.length_tail]; omega
          · rw [List.length_tail]; omega
          · rw [List.length_tail, List.length_tail]; omega
        · refine n_aload_n hC dX1_dropFirst_51 rfl rfl ?_
          refine n_dup hC dX1_dropFirst_52 rfl ?_
          refine g24_size hC (by first | assumption | exact rfl) wfX1_18 dX1_dropFirst_53 ?_
          refine n_iconst (v := 1) hC dX1_dropFirst_56 (by decide) ?_
          refine n_isub hC dX1_dropFirst_57 ?_
          refine p24_size hC (by first | assumption | exact rfl) wfX1_18 dX1_dropFirst_58 ?_
          refine n_vret hC dX1_dropFirst_61 ?_
          rw [e2] at h
          have h0 : 0 < (M.2 2 j).length := Nat.pos_of_ne_zero fun q => h (by rw [q]; exact Int32.le_refl _)
          refine ⟨rfl, cl_2 hM hj (fun κ i k a b c => ?_) ?_ ?_ ?_ ?_ ?_ ?_⟩
          · rw [n_up_k, if_neg (by omega)]
            exact hf κ i k b c
          · rw [n_up_k, if_pos ⟨rfl, rfl, rfl⟩, e2, List.length_tail]
            exact pk_sub h0
          · rw [List.length_tail]; omega
          · rw [n_up_ne (by omega)]
            exact n_sh_e s2 (by omega)
          · rw [List.length_tail]; omega
          · rw [n_up_ne (by omega)]
            exact n_sh_e s3 (by omega)
          · rw [List.length_tail, List.length_tail]; omega
      · rw [e2] at h
        exact absurd (nI_le (by omega) (by omega)) h
    | succ n ih =>
      intro k σ1 hn hkl hf s2 s3
      by_cases hlast : (M.2 2 j).length ≤ n + k + 1
      · exact ih k σ1 hlast hkl hf s2 s3
      · have e2 : σ1 24 j 2 = nI (M.2 2 j).length := by rw [hf 24 j 2 (by omega) (by omega)]; exact e1
        have hk1 : k + 1 < (M.2 2 j).length := by omega
        have e4 : (nI (k + 1)).toNatClampNeg = k + 1 := nI_clamp (by omega)
        have e5 : (nI k).toNatClampNeg = k := nI_clamp (by omega)
        refine n_iload_n hC dX1_dropFirst_2 rfl rfl ?_
        refine n_aload_n hC dX1_dropFirst_3 rfl rfl ?_
        refine g24_size hC (by first | assumption | exact rfl) wfX1_18 dX1_dropFirst_4 ?_
        refine n_icmp_ge (tgt := 44) hC dX1_dropFirst_7 (by decide) (fun h => ?_) (fun h => ?_)
        · rw [e2] at h
          exact absurd h (nI_ge hk1 (by omega))
        · refine n_aload_n hC dX1_dropFirst_10 rfl rfl ?_
          refine g24_numbers hC (by first | assumption | exact rfl) wfX1_9 dX1_dropFirst_11 ?_
          refine n_iload_n hC dX1_dropFirst_14 rfl rfl ?_
          refine n_iconst (v := 1) hC dX1_dropFirst_15 (by decide) ?_
          refine n_isub hC dX1_dropFirst_16 ?_
          rw [nI_pred]
          refine n_aload_n hC dX1_dropFirst_17 rfl rfl ?_
          refine g24_numbers hC (by first | assumption | exact rfl) wfX1_9 dX1_dropFirst_18 ?_
          refine n_iload_n hC dX1_dropFirst_21 rfl rfl ?_
          refine c_iald hC (by first | assumption | exact rfl) (fun _ => rfl) (by first | assumption | exact vp_in_nI (by omega) (by decide)) dX1_dropFirst_22 ?_
          refine c_iast hC (by first | assumption | exact rfl) (fun _ => rfl) (by first | assumption | exact vp_in_nI (by omega) (by decide)) dX1_dropFirst_23 ?_
          refine n_aload_n hC dX1_dropFirst_24 rfl rfl ?_
          refine g24_senders hC (by first | assumption | exact rfl) wfX1_15 dX1_dropFirst_25 ?_
          refine n_iload_n hC dX1_dropFirst_28 rfl rfl ?_
          refine n_iconst (v := 1) hC dX1_dropFirst_29 (by decide) ?_
          refine n_isub hC dX1_dropFirst_30 ?_
          rw [nI_pred]
          refine n_aload_n hC dX1_dropFirst_31 rfl rfl ?_
          refine g24_senders hC (by first | assumption | exact rfl) wfX1_15 dX1_dropFirst_32 ?_
          refine n_iload_n hC dX1_dropFirst_35 rfl rfl ?_
          refine c_iald hC (by first | assumption | exact rfl) (fun _ => rfl) (by first | assumption | exact vp_in_nI (by omega) (by decide)) dX1_dropFirst_36 ?_
          refine c_iast hC (by first | assumption | exact rfl) (fun _ => rfl) (by first | assumption | exact vp_in_nI (by omega) (by decide)) dX1_dropFirst_37 ?_
          refine n_iinc hC dX1_dropFirst_38 rfl (show _ + Int32.ofInt 1 = _ + 1 from rfl) ?_
          refine n_goto (tgt := 2) hC dX1_dropFirst_41 (by decide) ?_
          rw [nI_1, e4, e5]
          refine ih (k + 1) _ (by omega) (by omega) (fun κ i q a b => ?_) ?_ ?_
          · rw [n_up_k, if_neg (by omega), n_up_k, if_neg (by omega)]
            exact hf κ i q a b
          · rw [n_up_ne (by omega), n_up_at]
            exact n_sh_1 s2 hk1
          · rw [n_up_at, n_up_ne (by omega)]
            exact n_sh_1 s3 (by omega)
  refine n_iconst (v := 1) hC dX1_dropFirst_0 (by decide) ?_
  refine n_istore_n hC dX1_dropFirst_1 rfl (Nat.le_of_ble_eq_true rfl) ?_
  exact loop (M.2 2 j).length 0 σ (by omega) (by omega) (fun _ _ _ _ _ => rfl) (n_sh_0 h3) (n_sh_0 i3)
end BX1
