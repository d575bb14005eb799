def p_wr (i κ x : Nat) : Prop := (κ = 0 ∧ (x = 5 ∨ x = 6 ∨ x = 14 ∨ x = 17 ∨ x = 18)) ∨ κ = 12 ∨ κ = 13 ∨ κ = 14 ∨ κ = 16 ∨ κ = 17 ∨ ((κ = 8 ∨ κ = 9) ∧ 256 * i ≤ x ∧ x < 256 * i + 256) ∨ (κ = 10 ∧ x = i)
/-- what reading into program i leaves alone -/
def XF (i : Nat) (τ τ' : n_S) : Prop := ∀ κ x, ¬ p_wr i κ x → τ' κ 0 x = τ κ 0 x
theorem XF.refl (i : Nat) (τ : n_S) : XF i τ τ := fun _ _ _ => rfl
theorem XF.trans {i : Nat} {τ τ1 τ2 : n_S} (h : XF i τ τ1) (h' : XF i τ1 τ2) : XF i τ τ2 := fun κ x hn => (h' κ x hn).trans (h κ x hn)
theorem XF.up {i : Nat} {τ τ1 : n_S} {κ x : Nat} {v : Int32} (h : XF i τ τ1) (hw : p_wr i κ x) : XF i τ (n_up τ1 κ 0 x v) := fun κ' x' hn => (n_up_o (fun z => hn (by rw [z.1, z.2]; exact hw))).trans (h κ' x' hn)
theorem TB.mv {B : List Int32} {i : Nat} {τ τ' : n_S} (h : TB B τ) (hf : XF i τ τ') : TB B τ' := ⟨(hf 0 4 (by unfold p_wr; omega)).trans h.1, h.2.1, fun j hj => (hf 4 j (by unfold p_wr; omega)).trans (h.2.2 j hj)⟩
def XL (P : p_P) (τ : n_S) : Prop := τ 0 0 14 = nI P.lab.length ∧ ∀ j, j < P.lab.length → τ 12 0 j = nI (P.lab.getD j (0, 0, 0)).1 ∧ τ 13 0 j = nI (P.lab.getD j (0, 0, 0)).2.1 ∧ τ 14 0 j = nI (P.lab.getD j (0, 0, 0)).2.2
def XC (i : Nat) (P : p_P) (τ : n_S) : Prop := τ 10 0 i = nI P.op.length ∧ ∀ j, j < P.op.length → τ 8 0 (256 * i + j) = nI (r_op (P.op.getD j 0 + 1)) ∧ τ 9 0 (256 * i + j) = P.nu.getD j 0 ∧ (p_hn (P.op.getD j 0) → τ 16 0 j = nI (P.na.getD j (0, 0)).1 ∧ τ 17 0 j = nI (P.na.getD j (0, 0)).2)
theorem XL.mv {P P' : p_P} {τ τ' : n_S} (h : XL P τ) (hp : P'.lab = P.lab) (ht : ∀ κ x, (κ = 12 ∨ κ = 13 ∨ κ = 14 ∨ (κ = 0 ∧ x = 14)) → τ' κ 0 x = τ κ 0 x) : XL P' τ' := by
  unfold XL
  rw [hp]
  exact ⟨(ht 0 14 (by omega)).trans h.1, fun j hj => ⟨(ht 12 j (by omega)).trans (h.2 j hj).1, (ht 13 j (by omega)).trans (h.2 j hj).2.1, (ht 14 j (by omega)).trans (h.2 j hj).2.2⟩⟩
theorem XC.mv {i : Nat} {P P' : p_P} {τ τ' : n_S} (h : XC i P τ) (h1 : P'.op = P.op) (h2 : P'.nu = P.nu) (h3 : P'.na = P.na) (ht : ∀ κ x, (κ = 10 ∨ κ = 8 ∨ κ = 9 ∨ κ = 16 ∨ κ = 17) → τ' κ 0 x = τ κ 0 x) : XC i P' τ' := by
  unfold XC
  rw [h1, h2, h3]
  exact ⟨(ht 10 i (by omega)).trans h.1, fun j hj => ⟨(ht 8 _ (by omega)).trans (h.2 j hj).1, (ht 9 _ (by omega)).trans (h.2 j hj).2.1, fun hn => ⟨(ht 16 _ (by omega)).trans ((h.2 j hj).2.2 hn).1, (ht 17 _ (by omega)).trans ((h.2 j hj).2.2 hn).2⟩⟩⟩
theorem XC_put {i k : Nat} {P : p_P} {v : Int32} {x : Nat × Nat} {τ τ' : n_S} (h : XC i P τ) (hnu : P.nu.length = P.op.length) (hna : P.na.length = P.op.length) (e1 : τ' 10 0 i = nI (P.op.length + 1)) (e2 : τ' 8 0 (256 * i + P.op.length) = nI (r_op (k + 1))) (e3 : τ' 9 0 (256 * i + P.op.length) = v) (e4 : p_hn k → τ' 16 0 P.op.length = nI x.1 ∧ τ' 17 0 P.op.length = nI x.2) (f : ∀ j, j < P.op.length → τ' 8 0 (256 * i + j) = τ 8 0 (256 * i + j) ∧ τ' 9 0 (256 * i + j) = τ 9 0 (256 * i + j) ∧ τ' 16 0 j = τ 16 0 j ∧ τ' 17 0 j = τ 17 0 j) : XC i (p_put P k v x) τ' := by
  refine ⟨by rw [e1]; simp [p_put, pP2], fun j hj => ?_⟩
  have hj : j < P.op.length + 1 := by simpa [p_put, pP2] using hj
  show τ' 8 0 (256 * i + j) = nI (r_op ((P.op ++ [k]).getD j 0 + 1)) ∧ τ' 9 0 (256 * i + j) = (P.nu ++ [v]).getD j 0 ∧ (p_hn ((P.op ++ [k]).getD j 0) → τ' 16 0 j = nI ((P.na ++ [x]).getD j (0, 0)).1 ∧ τ' 17 0 j = nI ((P.na ++ [x]).getD j (0, 0)).2)
  by_cases z : j = P.op.length
  · rw [z, getD_sn_e]
    have e5 : (P.nu ++ [v]).getD P.op.length 0 = v := by rw [← hnu]; exact getD_sn_e _ _ _
    have e6 : (P.na ++ [x]).getD P.op.length (0, 0) = x := by rw [← hna]; exact getD_sn_e _ _ _
    rw [e5, e6]
    exact ⟨e2, e3, e4⟩
  · obtain ⟨f1, f2, f3, f4⟩ := f j (by omega)
    rw [getD_sn_l _ _ _ (show j < P.op.length by omega), getD_sn_l _ _ _ (show j < P.nu.length by omega), getD_sn_l _ _ _ (show j < P.na.length by omega), f1, f2, f3, f4]
    exact h.2 j (by omega)
section RP5
variable {l : Launch} {D : va_G} {ca : Nat → ClassId} {ad : Nat → Nat → Nat} {Ex : State → Heap → Prop}
theorem x_labelOf (d a n : Nat) (B : List Int32) (P : p_P) (τ : n_S) (hB : TB B τ) (hok : p_ok B P) (hL : XL P τ) (hle : a + n ≤ B.length) : n_Ct l (rw D ca ad Ex) (d + 1) yX12_labelOf cX12_labelOf 7 (some .int) [.ref (ad 0 0), .int (nI a), .int (nI n)] τ (fun rv τ' => ((∃ j, j < P.lab.length ∧ p_lkf B P.lab a n = some (P.lab.getD j (0, 0, 0)).2.2 ∧ rv = some (.int (nI j))) ∨ (p_lkf B P.lab a n = none ∧ rv = some (.int (-1)))) ∧ τ' = τ) := by
  have hlen := hB.2.1
  obtain ⟨a1, a2, a3, a4, a5, a6, a7⟩ := hok
  obtain ⟨g1, g2⟩ := hL
  refine n_ofW (by decide) (Nat.le_of_ble_eq_true rfl) ?_
  intro p e s m below meth c hC
  have outer : ∀ (t j : Nat) (fd : Int32) (w5 w6 : Option Value), t + j = P.lab.length → ((fd = -1 ∧ ∀ j', j' < j → ¬ p_same B (P.lab.getD j' (0, 0, 0)).1 (P.lab.getD j' (0, 0, 0)).2.1 a n) ∨ (∃ j', j' < j ∧ p_same B (P.lab.getD j' (0, 0, 0)).1 (P.lab.getD j' (0, 0, 0)).2.1 a n ∧ fd = nI j')) → n_W p l e s m [Value.ref (ad 0 0), Value.int (nI a), Value.int (nI n)].toArray below meth c (rw D ca ad Ex) (d + 1) (fun rv τ' => ((∃ j, j < P.lab.length ∧ p_lkf B P.lab a n = some (P.lab.getD j (0, 0, 0)).2.2 ∧ rv = some (.int (nI j))) ∨ (p_lkf B P.lab a n = none ∧ rv = some (.int (-1)))) ∧ τ' = τ) 5 [some (.ref (ad 0 0)), some (.int (nI a)), some (.int (nI n)), some (.int fd), some (.int (nI j)), w5, w6] [] τ := by
    intro t
    induction t with
    | zero =>
      intro j fd w5 w6 hj hfd
      have : j = P.lab.length := by omega
      subst this
      refine n_iload hC dX12_labelOf_5 rfl ?_
      refine n_aload_n hC dX12_labelOf_7 rfl rfl ?_
      refine gm_labels hC wfX12_268 dX12_labelOf_8 ?_
      rw [g1]
      refine n_icmp_ge (tgt := 102) hC dX12_labelOf_11 (by decide) (fun h => ?_) (fun h => ?_)
      · refine n_iload_n hC dX12_labelOf_102 rfl rfl ?_
        refine n_iret hC dX12_labelOf_103 ?_
        refine ⟨?_, rfl⟩
        rcases hfd with ⟨rfl, hno⟩ | ⟨j', q1, q2, rfl⟩
        · exact Or.inr ⟨p_lkf_none.mpr hno, rfl⟩
        · exact Or.inl ⟨j', q1, p_lkf_at a5 q1 q2, rfl⟩
      · exact absurd (Int32.le_refl _) h
    | succ t ih =>
      intro j fd w5 w6 hj hfd
      have hj' : j < P.lab.length := by omega
      obtain ⟨l1, l2, l3⟩ := g2 j hj'
      obtain ⟨b1, b2⟩ := a6 j hj'
      have at84 : ∀ (sm : Int32) (w : Option Value), ((sm = 1 ∧ p_same B (P.lab.getD j (0, 0, 0)).1 (P.lab.getD j (0, 0, 0)).2.1 a n) ∨ (sm = 0 ∧ ¬ p_same B (P.lab.getD j (0, 0, 0)).1 (P.lab.getD j (0, 0, 0)).2.1 a n)) → n_W p l e s m [Value.ref (ad 0 0), Value.int (nI a), Value.int (nI n)].toArray below meth c (rw D ca ad Ex) (d + 1) (fun rv τ' => ((∃ j, j < P.lab.length ∧ p_lkf B P.lab a n = some (P.lab.getD j (0, 0, 0)).2.2 ∧ rv = some (.int (nI j))) ∨ (p_lkf B P.lab a n = none ∧ rv = some (.int (-1)))) ∧ τ' = τ) 84 [some (.ref (ad 0 0)), some (.int (nI a)), some (.int (nI n)), some (.int fd), some (.int (nI j)), some (.int sm), w] [] τ := by
        intro sm w hsm
        refine n_iload hC dX12_labelOf_84 rfl ?_
        refine n_if_eq (tgt := 94) hC dX12_labelOf_86 (by decide) (fun h => ?_) (fun h => ?_)
        · have hno : ¬ p_same B (P.lab.getD j (0, 0, 0)).1 (P.lab.getD j (0, 0, 0)).2.1 a n := by
            rcases hsm with ⟨q, _⟩ | ⟨_, q⟩
            · rw [q] at h; exact absurd h (by decide)
            · exact q
          refine n_iload_n hC dX12_labelOf_94 rfl rfl ?_
          refine n_istore_n hC dX12_labelOf_95 rfl (Nat.le_of_ble_eq_true rfl) ?_
          refine n_iinc hC dX12_labelOf_96 rfl (show _ + Int32.ofInt 1 = _ + 1 from rfl) ?_
          refine n_goto (tgt := 5) hC dX12_labelOf_99 (by decide) ?_
          rw [nI_1]
          refine ih (j + 1) fd _ _ (by omega) ?_
          rcases hfd with ⟨e1, h1⟩ | ⟨j', q1, q2, q3⟩
          · refine Or.inl ⟨e1, fun j' u => ?_⟩
            by_cases z : j' = j
            · rw [z]; exact hno
            · exact h1 j' (by omega)
          · exact Or.inr ⟨j', by omega, q2, q3⟩
        · have hyes : p_same B (P.lab.getD j (0, 0, 0)).1 (P.lab.getD j (0, 0, 0)).2.1 a n := by
            rcases hsm with ⟨_, q⟩ | ⟨q, _⟩
            · exact q
            · exact absurd q h
          refine n_iload hC dX12_labelOf_89 rfl ?_
          refine n_goto (tgt := 95) hC dX12_labelOf_91 (by decide) ?_
          refine n_istore_n hC dX12_labelOf_95 rfl (Nat.le_of_ble_eq_true rfl) ?_
          refine n_iinc hC dX12_labelOf_96 rfl (show _ + Int32.ofInt 1 = _ + 1 from rfl) ?_
          refine n_goto (tgt := 5) hC dX12_labelOf_99 (by decide) ?_
          rw [nI_1]
          exact ih (j + 1) _ _ _ (by omega) (Or.inr ⟨j, by omega, hyes, rfl⟩)
      have inner : (P.lab.getD j (0, 0, 0)).2.1 = n → ∀ (t' k : Nat), t' + k = n → (∀ k', k' < k → b_at B ((P.lab.getD j (0, 0, 0)).1 + k') = b_at B (a + k')) → n_W p l e s m [Value.ref (ad 0 0), Value.int (nI a), Value.int (nI n)].toArray below meth c (rw D ca ad Ex) (d + 1) (fun rv τ' => ((∃ j, j < P.lab.length ∧ p_lkf B P.lab a n = some (P.lab.getD j (0, 0, 0)).2.2 ∧ rv = some (.int (nI j))) ∨ (p_lkf B P.lab a n = none ∧ rv = some (.int (-1)))) ∧ τ' = τ) 35 [some (.ref (ad 0 0)), some (.int (nI a)), some (.int (nI n)), some (.int fd), some (.int (nI j)), some (.int 1), some (.int (nI k))] [] τ := by
        intro hsz t'
        induction t' with
        | zero =>
          intro k hk hall
          have : k = n := by omega
          subst this
          refine n_iload hC dX12_labelOf_35 rfl ?_
          refine n_iload_n hC dX12_labelOf_37 rfl rfl ?_
          refine n_icmp_ge (tgt := 84) hC dX12_labelOf_38 (by decide) (fun h => ?_) (fun h => ?_)
          · exact at84 1 _ (Or.inl ⟨rfl, hsz, fun i hi => hall i (by omega)⟩)
          · exact absurd (Int32.le_refl _) h
        | succ t' ih' =>
          intro k hk hall
          refine n_iload hC dX12_labelOf_35 rfl ?_
          refine n_iload_n hC dX12_labelOf_37 rfl rfl ?_
          refine n_icmp_ge (tgt := 84) hC dX12_labelOf_38 (by decide) (fun h => ?_) (fun h => ?_)
          · exact absurd h (nI_ge (by omega) (by omega))
          · clear h
            refine n_iload hC dX12_labelOf_41 rfl ?_
            refine n_if_eq (tgt := 84) hC dX12_labelOf_43 (by decide) (fun h => ?_) (fun h => ?_)
            · exact absurd h (by decide)
            · clear h
              refine n_aload_n hC dX12_labelOf_46 rfl rfl ?_
              refine n_aload_n hC dX12_labelOf_47 rfl rfl ?_
              refine gm_labelAt hC wfX12_122 dX12_labelOf_48 ?_
              refine n_iload hC dX12_labelOf_51 rfl ?_
              first | refine r_ld hC rfl (fun _ => rfl) (by decide) (by first | omega | with_reducible assumption) dX12_labelOf_53 ?_ | refine r_needs hC (by first | exact vp_in_nI (by omega) (by decide) | with_reducible assumption) dX12_labelOf_53 ?_
              rw [l1]
              refine n_iload hC dX12_labelOf_54 rfl ?_
              refine n_iadd hC dX12_labelOf_56 ?_
              rw [nI_add]
              refine n_callV hC (x_byteOf d ((P.lab.getD j (0, 0, 0)).1 + k) B τ hB (by omega)) (Nat.le_refl _) (by decide) (by first | exact rfl | with_reducible assumption) rfl rfl rfl ⟨wmX12_233, wi_yX12_byteOf, wv_yX12_byteOf, wzX12, wc_yX12_byteOf⟩ hy_yX12_byteOf rfl (Nat.le_of_ble_eq_true rfl) dX12_labelOf_57 (fun rv σ' hpo => ?_)
              obtain ⟨rfl, hσ⟩ := hpo
              rw [hσ]
              refine n_aload_n hC dX12_labelOf_60 rfl rfl ?_
              refine n_iload_n hC dX12_labelOf_61 rfl rfl ?_
              refine n_iload hC dX12_labelOf_62 rfl ?_
              refine n_iadd hC dX12_labelOf_64 ?_
              rw [nI_add]
              refine n_callV hC (x_byteOf d (a + k) B τ hB (by omega)) (Nat.le_refl _) (by decide) (by first | exact rfl | with_reducible assumption) rfl rfl rfl ⟨wmX12_233, wi_yX12_byteOf, wv_yX12_byteOf, wzX12, wc_yX12_byteOf⟩ hy_yX12_byteOf rfl (Nat.le_of_ble_eq_true rfl) dX12_labelOf_65 (fun rv σ' hpo => ?_)
              obtain ⟨rfl, hσ⟩ := hpo
              rw [hσ]
              refine n_icmp_ne (tgt := 75) hC dX12_labelOf_68 (by decide) (fun h => ?_) (fun h => ?_)
              · have hno : ¬ p_same B (P.lab.getD j (0, 0, 0)).1 (P.lab.getD j (0, 0, 0)).2.1 a n := fun z => h (z.2 k (by omega))
                clear h
                refine n_iconst (v := 0) hC dX12_labelOf_75 (by decide) ?_
                refine n_istore hC dX12_labelOf_76 (Nat.le_of_ble_eq_true rfl) ?_
                refine n_iinc hC dX12_labelOf_78 rfl (show _ + Int32.ofInt 1 = _ + 1 from rfl) ?_
                refine n_goto (tgt := 35) hC dX12_labelOf_81 (by decide) ?_
                refine n_iload hC dX12_labelOf_35 rfl ?_
                refine n_iload_n hC dX12_labelOf_37 rfl rfl ?_
                refine n_icmp_ge (tgt := 84) hC dX12_labelOf_38 (by decide) (fun h => ?_) (fun h => ?_)
                · exact at84 0 _ (Or.inr ⟨rfl, hno⟩)
                · refine n_iload hC dX12_labelOf_41 rfl ?_
                  refine n_if_eq (tgt := 84) hC dX12_labelOf_43 (by decide) (fun h => ?_) (fun h => ?_)
                  · exact at84 0 _ (Or.inr ⟨rfl, hno⟩)
                  · exact absurd rfl h
              · refine n_iconst (v := 1) hC dX12_labelOf_71 (by decide) ?_
                refine n_goto (tgt := 76) hC dX12_labelOf_72 (by decide) ?_
                refine n_istore hC dX12_labelOf_76 (Nat.le_of_ble_eq_true rfl) ?_
                refine n_iinc hC dX12_labelOf_78 rfl (show _ + Int32.ofInt 1 = _ + 1 from rfl) ?_
                refine n_goto (tgt := 35) hC dX12_labelOf_81 (by decide) ?_
                rw [nI_1]
                refine ih' (k + 1) (by omega) (fun k' u => ?_)
                by_cases z : k' = k
                · rw [z]; exact h
                · exact hall k' (by omega)
      refine n_iload hC dX12_labelOf_5 rfl ?_
      refine n_aload_n hC dX12_labelOf_7 rfl rfl ?_
      refine gm_labels hC wfX12_268 dX12_labelOf_8 ?_
      rw [g1]
      refine n_icmp_ge (tgt := 102) hC dX12_labelOf_11 (by decide) (fun h => ?_) (fun h => ?_)
      · exact absurd h (nI_ge (by omega) (by omega))
      · clear h
        refine n_aload_n hC dX12_labelOf_14 rfl rfl ?_
        refine gm_labelSize hC wfX12_125 dX12_labelOf_15 ?_
        refine n_iload hC dX12_labelOf_18 rfl ?_
        first | refine r_ld hC rfl (fun _ => rfl) (by decide) (by first | omega | with_reducible assumption) dX12_labelOf_20 ?_ | refine r_needs hC (by first | exact vp_in_nI (by omega) (by decide) | with_reducible assumption) dX12_labelOf_20 ?_
        rw [l2]
        refine n_iload_n hC dX12_labelOf_21 rfl rfl ?_
        refine n_icmp_ne (tgt := 29) hC dX12_labelOf_22 (by decide) (fun h => ?_) (fun h => ?_)
        · have hno : ¬ p_same B (P.lab.getD j (0, 0, 0)).1 (P.lab.getD j (0, 0, 0)).2.1 a n := fun z => h (by rw [z.1])
          clear h
          refine n_iconst (v := 0) hC dX12_labelOf_29 (by decide) ?_
          refine n_istore hC dX12_labelOf_30 (Nat.le_of_ble_eq_true rfl) ?_
          refine n_iconst (v := 0) hC dX12_labelOf_32 (by decide) ?_
          refine n_istore hC dX12_labelOf_33 (Nat.le_of_ble_eq_true rfl) ?_
          refine n_iload hC dX12_labelOf_35 rfl ?_
          refine n_iload_n hC dX12_labelOf_37 rfl rfl ?_
          refine n_icmp_ge (tgt := 84) hC dX12_labelOf_38 (by decide) (fun h => ?_) (fun h => ?_)
          · exact at84 0 _ (Or.inr ⟨rfl, hno⟩)
          · refine n_iload hC dX12_labelOf_41 rfl ?_
            refine n_if_eq (tgt := 84) hC dX12_labelOf_43 (by decide) (fun h => ?_) (fun h => ?_)
            · exact at84 0 _ (Or.inr ⟨rfl, hno⟩)
            · exact absurd rfl h
        · have hsz : (P.lab.getD j (0, 0, 0)).2.1 = n := (nI_eq (by omega) (by omega)).mp h
          clear h
          refine n_iconst (v := 1) hC dX12_labelOf_25 (by decide) ?_
          refine n_goto (tgt := 30) hC dX12_labelOf_26 (by decide) ?_
          refine n_istore hC dX12_labelOf_30 (Nat.le_of_ble_eq_true rfl) ?_
          refine n_iconst (v := 0) hC dX12_labelOf_32 (by decide) ?_
          refine n_istore hC dX12_labelOf_33 (Nat.le_of_ble_eq_true rfl) ?_
          exact inner hsz n 0 (by omega) (fun k' u => by omega)
  refine n_iconst (v := -1) hC dX12_labelOf_0 (by decide) ?_
  refine n_istore_n hC dX12_labelOf_1 rfl (Nat.le_of_ble_eq_true rfl) ?_
  refine n_iconst (v := 0) hC dX12_labelOf_2 (by decide) ?_
  refine n_istore hC dX12_labelOf_3 (Nat.le_of_ble_eq_true rfl) ?_
  exact outer P.lab.length 0 (-1) none none (by omega) (Or.inl ⟨rfl, fun j' u => by omega⟩)
theorem x_put (d i a : Nat) (o v : Int32) (P : p_P) (τ : n_S) (hi : i < 12) (hX : XC i P τ) (h5 : τ 0 0 5 = 0) (ha : τ 0 0 17 = nI a) (hlen : P.op.length ≤ 256) : n_Ct l (rw D ca ad Ex) (d + 1) yX12_put cX12_put 4 none [.ref (ad 0 0), .int (nI i), .int o, .int v] τ (fun rv τ' => rv = none ∧ ((P.op.length < 256 ∧ τ' = n_up (n_up (n_up τ 8 0 (256 * i + P.op.length) o) 9 0 (256 * i + P.op.length) v) 10 0 i (nI (P.op.length + 1))) ∨ (¬ P.op.length < 256 ∧ τ' = n_up (n_up τ 0 0 5 5) 0 0 6 (nI a)))) := by
  refine n_ofW (by decide) (Nat.le_of_ble_eq_true rfl) ?_
  intro p e s m below meth c hC
  refine n_aload_n hC dX12_put_0 rfl rfl ?_
  refine gm_lengths hC wfX12_115 dX12_put_1 ?_
  refine n_iload_n hC dX12_put_4 rfl rfl ?_
  first | refine r_ld hC rfl (fun _ => rfl) (by decide) (by first | omega | with_reducible assumption) dX12_put_5 ?_ | refine r_needs hC (by first | exact vp_in_nI (by omega) (by decide) | with_reducible assumption) dX12_put_5 ?_
  rw [hX.1]
  refine n_sipush (v := 256) hC dX12_put_6 (by decide) ?_
  refine n_icmp_ne (tgt := 22) hC dX12_put_9 (by decide) (fun h => ?_) (fun h => ?_)
  · have hlt : P.op.length < 256 := by
      rcases Nat.lt_or_ge P.op.length 256 with z | z
      · exact z
      · exact absurd (show nI P.op.length = 256 by rw [show P.op.length = 256 by omega]; rfl) h
    clear h
    refine n_aload_n hC dX12_put_22 rfl rfl ?_
    refine gm_ops hC wfX12_109 dX12_put_23 ?_
    refine n_sipush (v := 256) hC dX12_put_26 (by decide) ?_
    refine n_iload_n hC dX12_put_29 rfl rfl ?_
    refine n_imul hC dX12_put_30 ?_
    rw [show (256 : Int32) * nI i = nI (256 * i) from nI_mulL 256 i]
    refine n_aload_n hC dX12_put_31 rfl rfl ?_
    refine gm_lengths hC wfX12_115 dX12_put_32 ?_
    refine n_iload_n hC dX12_put_35 rfl rfl ?_
    first | refine r_ld hC rfl (fun _ => rfl) (by decide) (by first | omega | with_reducible assumption) dX12_put_36 ?_ | refine r_needs hC (by first | exact vp_in_nI (by omega) (by decide) | with_reducible assumption) dX12_put_36 ?_
    rw [hX.1]
    refine n_iadd hC dX12_put_37 ?_
    rw [nI_add]
    refine n_iload_n hC dX12_put_38 rfl rfl ?_
    refine r_st hC rfl (fun _ h => h) (fun _ => rfl) (by decide) (by first | omega | with_reducible assumption) dX12_put_39 ?_
    refine n_aload_n hC dX12_put_40 rfl rfl ?_
    refine gm_numbers hC wfX12_112 dX12_put_41 ?_
    refine n_sipush (v := 256) hC dX12_put_44 (by decide) ?_
    refine n_iload_n hC dX12_put_47 rfl rfl ?_
    refine n_imul hC dX12_put_48 ?_
    rw [show (256 : Int32) * nI i = nI (256 * i) from nI_mulL 256 i]
    refine n_aload_n hC dX12_put_49 rfl rfl ?_
    refine gm_lengths hC wfX12_115 dX12_put_50 ?_
    refine n_iload_n hC dX12_put_53 rfl rfl ?_
    first | refine r_ld hC rfl (fun _ => rfl) (by decide) (by first | omega | with_reducible assumption) dX12_put_54 ?_ | refine r_needs hC (by first | exact vp_in_nI (by omega) (by decide) | with_reducible assumption) dX12_put_54 ?_
    rw [n_up_o (by omega), hX.1]
    refine n_iadd hC dX12_put_55 ?_
    rw [nI_add]
    refine n_iload_n hC dX12_put_56 rfl rfl ?_
    refine r_st hC rfl (fun _ h => h) (fun _ => rfl) (by decide) (by first | omega | with_reducible assumption) dX12_put_57 ?_
    refine n_aload_n hC dX12_put_58 rfl rfl ?_
    refine gm_lengths hC wfX12_115 dX12_put_59 ?_
    refine n_iload_n hC dX12_put_62 rfl rfl ?_
    refine n_dup2_11 hC dX12_put_63 rfl rfl ?_
    first | refine r_ld hC rfl (fun _ => rfl) (by decide) (by first | omega | with_reducible assumption) dX12_put_64 ?_ | refine r_needs hC (by first | exact vp_in_nI (by omega) (by decide) | with_reducible assumption) dX12_put_64 ?_
    rw [n_up_o (by omega), n_up_o (by omega), hX.1]
    refine n_iconst (v := 1) hC dX12_put_65 (by decide) ?_
    refine n_iadd hC dX12_put_66 ?_
    rw [nI_1]
    refine r_st hC rfl (fun _ h => h) (fun _ => rfl) (by decide) (by first | omega | with_reducible assumption) dX12_put_67 ?_
    refine n_vret hC dX12_put_68 ?_
    exact ⟨rfl, Or.inl ⟨hlt, rfl⟩⟩
  · have hge : ¬ P.op.length < 256 := fun z => by
      have := (nI_eq (b := 256) (by omega) (by omega)).mp h
      omega
    clear h
    refine n_aload_n hC dX12_put_12 rfl rfl ?_
    refine n_iconst (v := 5) hC dX12_put_13 (by decide) ?_
    refine n_aload_n hC dX12_put_14 rfl rfl ?_
    refine gm_wordAt hC wfX12_241 dX12_put_15 ?_
    rw [ha]
    refine n_callV hC (x_flaw d 5 (nI a) τ) (Nat.le_refl _) (by decide) (by first | exact rfl | with_reducible assumption) rfl rfl rfl ⟨wmX12_281, wi_yX12_flaw, wv_yX12_flaw, wzX12, wc_yX12_flaw⟩ hy_yX12_flaw rfl (Nat.le_of_ble_eq_true rfl) dX12_put_18 (fun rv σ' hpo => ?_)
    obtain ⟨rfl, hσ⟩ := hpo
    rw [hσ, if_pos h5]
    refine n_vret hC dX12_put_21 ?_
    exact ⟨rfl, Or.inr ⟨hge, rfl⟩⟩
theorem x_readLabel (d i a b : Nat) (B : List Int32) (P : p_P) (τ : n_S) (hi : i < 12) (hB : TB B τ) (hok : p_ok B P) (hL : XL P τ) (hX : XC i P τ) (h5 : τ 0 0 5 = 0) (ha : τ 0 0 17 = nI a) (hw : τ 0 0 18 = nI b) (hab : a < b) (hb : b ≤ B.length) : n_Ct l (rw D ca ad Ex) (d + 3) yX12_readLabel cX12_readLabel 3 none [.ref (ad 0 0), .int (nI i)] τ (fun rv τ' => rv = none ∧ XF i τ τ' ∧ τ' 0 0 18 = nI b ∧ ((¬ p_nm B a (b - 1 - a) ∧ τ' 0 0 5 = 1 ∧ τ' 0 0 6 = nI a) ∨ (p_nm B a (b - 1 - a) ∧ p_lkf B P.lab a (b - 1 - a) ≠ none ∧ τ' 0 0 5 = 3 ∧ τ' 0 0 6 = nI a) ∨ (p_nm B a (b - 1 - a) ∧ p_lkf B P.lab a (b - 1 - a) = none ∧ ¬ P.lab.length < 32 ∧ τ' 0 0 5 = 4 ∧ τ' 0 0 6 = nI a) ∨ (p_nm B a (b - 1 - a) ∧ p_lkf B P.lab a (b - 1 - a) = none ∧ P.lab.length < 32 ∧ τ' 0 0 5 = 0 ∧ XL (P.lab ++ [(a, b - 1 - a, P.op.length)], P.op, P.nu, P.na) τ' ∧ XC i (P.lab ++ [(a, b - 1 - a, P.op.length)], P.op, P.nu, P.na) τ'))) := by
  have hlen := hB.2.1
  have a1 := hok.1
  have a2 := hok.2.1
  have en : nI b - nI a - 1 = nI (b - 1 - a) := by
    rw [nI_subL (by omega), nI_m1 (by omega), show b - a - 1 = b - 1 - a by omega]
  have flx : ∀ f : Int32, XF i τ (n_up (n_up τ 0 0 5 f) 0 0 6 (nI a)) ∧ n_up (n_up τ 0 0 5 f) 0 0 6 (nI a) 0 0 18 = nI b ∧ n_up (n_up τ 0 0 5 f) 0 0 6 (nI a) 0 0 5 = f ∧ n_up (n_up τ 0 0 5 f) 0 0 6 (nI a) 0 0 6 = nI a := fun f => ⟨((XF.refl i τ).up (by unfold p_wr; omega)).up (by unfold p_wr; omega), by rw [n_up_o (by omega), n_up_o (by omega), hw], by rw [n_up_o (by omega), n_up_e], n_up_e _ _ _ _⟩
  refine n_ofW (by decide) (Nat.le_of_ble_eq_true rfl) ?_
  intro p e s m below meth c hC
  refine n_aload_n hC dX12_readLabel_0 rfl rfl ?_
  refine gm_wordEnd hC wfX12_230 dX12_readLabel_1 ?_
  rw [hw]
  refine n_aload_n hC dX12_readLabel_4 rfl rfl ?_
  refine gm_wordAt hC wfX12_241 dX12_readLabel_5 ?_
  rw [ha]
  refine n_isub hC dX12_readLabel_8 ?_
  refine n_iconst (v := 1) hC dX12_readLabel_9 (by decide) ?_
  refine n_isub hC dX12_readLabel_10 ?_
  rw [en]
  refine n_istore_n hC dX12_readLabel_11 rfl (Nat.le_of_ble_eq_true rfl) ?_
  refine n_aload_n hC dX12_readLabel_12 rfl rfl ?_
  refine n_aload_n hC dX12_readLabel_13 rfl rfl ?_
  refine gm_wordAt hC wfX12_241 dX12_readLabel_14 ?_
  rw [ha]
  refine n_iload_n hC dX12_readLabel_17 rfl rfl ?_
  refine n_callV hC (x_isName d a (b - 1 - a) B τ hB (by omega)) (Nat.le_refl _) (by decide) (by first | exact rfl | with_reducible assumption) rfl rfl rfl ⟨wmX12_277, wi_yX12_isName, wv_yX12_isName, wzX12, wc_yX12_isName⟩ hy_yX12_isName rfl (Nat.le_of_ble_eq_true rfl) dX12_readLabel_18 (fun rv σ' hpo => ?_)
  obtain ⟨hpo, hσ⟩ := hpo
  rw [hσ]
  rcases hpo with ⟨q, rfl⟩ | ⟨q, rfl⟩
  · refine n_if_ne (tgt := 36) hC dX12_readLabel_21 (by decide) (fun h => ?_) (fun h => ?_)
    · clear h
      refine n_aload_n hC dX12_readLabel_36 rfl rfl ?_
      refine n_aload_n hC dX12_readLabel_37 rfl rfl ?_
      refine gm_wordAt hC wfX12_241 dX12_readLabel_38 ?_
      rw [ha]
      refine n_iload_n hC dX12_readLabel_41 rfl rfl ?_
      refine n_callV hC (x_labelOf (d + 1) a (b - 1 - a) B P τ hB hok hL (by omega)) (Nat.le_refl _) (by decide) (by first | exact rfl | with_reducible assumption) rfl rfl rfl ⟨wmX12_285, wi_yX12_labelOf, wv_yX12_labelOf, wzX12, wc_yX12_labelOf⟩ hy_yX12_labelOf rfl (Nat.le_of_ble_eq_true rfl) dX12_readLabel_42 (fun rv σ' hpo => ?_)
      obtain ⟨hpo, hσ⟩ := hpo
      rw [hσ]
      rcases hpo with ⟨j, q1, q2, rfl⟩ | ⟨q2, rfl⟩
      · refine n_iconst (v := -1) hC dX12_readLabel_45 (by decide) ?_
        refine n_icmp_eq (tgt := 61) hC dX12_readLabel_46 (by decide) (fun h => ?_) (fun h => ?_)
        · exact absurd h (nI_nm1 (by omega))
        · refine n_aload_n hC dX12_readLabel_49 rfl rfl ?_
          refine n_iconst (v := 3) hC dX12_readLabel_50 (by decide) ?_
          refine n_aload_n hC dX12_readLabel_51 rfl rfl ?_
          refine gm_wordAt hC wfX12_241 dX12_readLabel_52 ?_
          rw [ha]
          refine n_callV hC (x_flaw (d + 2) 3 (nI a) τ) (Nat.le_refl _) (by decide) (by first | exact rfl | with_reducible assumption) rfl rfl rfl ⟨wmX12_281, wi_yX12_flaw, wv_yX12_flaw, wzX12, wc_yX12_flaw⟩ hy_yX12_flaw rfl (Nat.le_of_ble_eq_true rfl) dX12_readLabel_55 (fun rv σ' hpo => ?_)
          obtain ⟨rfl, hσ⟩ := hpo
          rw [hσ, if_pos h5]
          refine n_goto (tgt := 130) hC dX12_readLabel_58 (by decide) ?_
          refine n_vret hC dX12_readLabel_130 ?_
          obtain ⟨f1, f2, f3, f4⟩ := flx 3
          exact ⟨rfl, f1, f2, Or.inr (Or.inl ⟨q, by rw [q2]; simp, f3, f4⟩)⟩
      · refine n_iconst (v := -1) hC dX12_readLabel_45 (by decide) ?_
        refine n_icmp_eq (tgt := 61) hC dX12_readLabel_46 (by decide) (fun h => ?_) (fun h => ?_)
        · refine n_aload_n hC dX12_readLabel_61 rfl rfl ?_
          refine gm_labels hC wfX12_268 dX12_readLabel_62 ?_
          rw [hL.1]
          refine n_bipush (v := 32) hC dX12_readLabel_65 (by decide) ?_
          refine n_icmp_ne (tgt := 82) hC dX12_readLabel_67 (by decide) (fun h => ?_) (fun h => ?_)
          · have hlt : P.lab.length < 32 := by
              rcases Nat.lt_or_ge P.lab.length 32 with z | z
              · exact z
              · exact absurd (show nI P.lab.length = 32 by rw [show P.lab.length = 32 by omega]; rfl) h
            clear h
            refine n_aload_n hC dX12_readLabel_82 rfl rfl ?_
            refine gm_labelAt hC wfX12_122 dX12_readLabel_83 ?_
            refine n_aload_n hC dX12_readLabel_86 rfl rfl ?_
            refine gm_labels hC wfX12_268 dX12_readLabel_87 ?_
            rw [hL.1]
            refine n_aload_n hC dX12_readLabel_90 rfl rfl ?_
            refine gm_wordAt hC wfX12_241 dX12_readLabel_91 ?_
            rw [ha]
            refine r_st hC rfl (fun _ h => h) (fun _ => rfl) (by decide) (by first | omega | with_reducible assumption) dX12_readLabel_94 ?_
            refine n_aload_n hC dX12_readLabel_95 rfl rfl ?_
            refine gm_labelSize hC wfX12_125 dX12_readLabel_96 ?_
            refine n_aload_n hC dX12_readLabel_99 rfl rfl ?_
            refine gm_labels hC wfX12_268 dX12_readLabel_100 ?_
            rw [n_up_o (by omega), hL.1]
            refine n_iload_n hC dX12_readLabel_103 rfl rfl ?_
            refine r_st hC rfl (fun _ h => h) (fun _ => rfl) (by decide) (by first | omega | with_reducible assumption) dX12_readLabel_104 ?_
            refine n_aload_n hC dX12_readLabel_105 rfl rfl ?_
            refine gm_labelTo hC wfX12_128 dX12_readLabel_106 ?_
            refine n_aload_n hC dX12_readLabel_109 rfl rfl ?_
            refine gm_labels hC wfX12_268 dX12_readLabel_110 ?_
            rw [n_up_o (by omega), n_up_o (by omega), hL.1]
            refine n_aload_n hC dX12_readLabel_113 rfl rfl ?_
            refine gm_lengths hC wfX12_115 dX12_readLabel_114 ?_
            refine n_iload_n hC dX12_readLabel_117 rfl rfl ?_
            first | refine r_ld hC rfl (fun _ => rfl) (by decide) (by first | omega | with_reducible assumption) dX12_readLabel_118 ?_ | refine r_needs hC (by first | exact vp_in_nI (by omega) (by decide) | with_reducible assumption) dX12_readLabel_118 ?_
            rw [n_up_o (by omega), n_up_o (by omega), hX.1]
            refine r_st hC rfl (fun _ h => h) (fun _ => rfl) (by decide) (by first | omega | with_reducible assumption) dX12_readLabel_119 ?_
            refine n_aload_n hC dX12_readLabel_120 rfl rfl ?_
            refine n_dup hC dX12_readLabel_121 rfl ?_
            refine gm_labels hC wfX12_268 dX12_readLabel_122 ?_
            rw [n_up_o (by omega), n_up_o (by omega), n_up_o (by omega), hL.1]
            refine n_iconst (v := 1) hC dX12_readLabel_125 (by decide) ?_
            refine n_iadd hC dX12_readLabel_126 ?_
            rw [nI_1]
            refine pm_labels hC wfX12_268 dX12_readLabel_127 ?_
            refine n_vret hC dX12_readLabel_130 ?_
            refine ⟨rfl, ((((XF.refl i τ).up (by unfold p_wr; omega)).up (by unfold p_wr; omega)).up (by unfold p_wr; omega)).up (by unfold p_wr; omega), ?_, Or.inr (Or.inr (Or.inr ⟨q, q2, hlt, ?_, ⟨?_, fun j hj => ?_⟩, hX.mv rfl rfl rfl (fun κ x u => ?_)⟩))⟩
            · rw [n_up_o (by omega), n_up_o (by omega), n_up_o (by omega), n_up_o (by omega), hw]
            · rw [n_up_o (by omega), n_up_o (by omega), n_up_o (by omega), n_up_o (by omega), h5]
            · rw [n_up_e]
              simp [pP1]
            · have hj : j < P.lab.length + 1 := by simpa [pP1] using hj
              rw [pP1 (P.lab ++ [(a, b - 1 - a, P.op.length)]) P.op P.nu P.na]
              by_cases z : j = P.lab.length
              · rw [z, getD_sn_e]
                refine ⟨?_, ?_, ?_⟩
                · rw [n_up_o (by omega), n_up_o (by omega), n_up_o (by omega), n_up_e]
                · rw [n_up_o (by omega), n_up_o (by omega), n_up_e]
                · rw [n_up_o (by omega), n_up_e]
              · obtain ⟨f1, f2, f3⟩ := hL.2 j (by omega)
                rw [getD_sn_l _ _ _ (show j < P.lab.length by omega)]
                refine ⟨?_, ?_, ?_⟩
                · rw [n_up_o (by omega), n_up_o (by omega), n_up_o (by omega), n_up_o (by omega), f1]
                · rw [n_up_o (by omega), n_up_o (by omega), n_up_o (by omega), n_up_o (by omega), f2]
                · rw [n_up_o (by omega), n_up_o (by omega), n_up_o (by omega), n_up_o (by omega), f3]
            · rw [n_up_o (by omega), n_up_o (by omega), n_up_o (by omega), n_up_o (by omega)]
          · have hge : ¬ P.lab.length < 32 := fun z => by
              have := (nI_eq (b := 32) (by omega) (by omega)).mp h
              omega
            clear h
            refine n_aload_n hC dX12_readLabel_70 rfl rfl ?_
            refine n_iconst (v := 4) hC dX12_readLabel_71 (by decide) ?_
            refine n_aload_n hC dX12_readLabel_72 rfl rfl ?_
            refine gm_wordAt hC wfX12_241 dX12_readLabel_73 ?_
            rw [ha]
            refine n_callV hC (x_flaw (d + 2) 4 (nI a) τ) (Nat.le_refl _) (by decide) (by first | exact rfl | with_reducible assumption) rfl rfl rfl ⟨wmX12_281, wi_yX12_flaw, wv_yX12_flaw, wzX12, wc_yX12_flaw⟩ hy_yX12_flaw rfl (Nat.le_of_ble_eq_true rfl) dX12_readLabel_76 (fun rv σ' hpo => ?_)
            obtain ⟨rfl, hσ⟩ := hpo
            rw [hσ, if_pos h5]
            refine n_goto (tgt := 130) hC dX12_readLabel_79 (by decide) ?_
            refine n_vret hC dX12_readLabel_130 ?_
            obtain ⟨f1, f2, f3, f4⟩ := flx 4
            exact ⟨rfl, f1, f2, Or.inr (Or.inr (Or.inl ⟨q, q2, hge, f3, f4⟩))⟩
        · exact absurd rfl h
    · exact absurd h (by decide)
  · refine n_if_ne (tgt := 36) hC dX12_readLabel_21 (by decide) (fun h => ?_) (fun h => ?_)
    · exact absurd rfl h
    · refine n_aload_n hC dX12_readLabel_24 rfl rfl ?_
      refine n_iconst (v := 1) hC dX12_readLabel_25 (by decide) ?_
      refine n_aload_n hC dX12_readLabel_26 rfl rfl ?_
      refine gm_wordAt hC wfX12_241 dX12_readLabel_27 ?_
      rw [ha]
      refine n_callV hC (x_flaw (d + 2) 1 (nI a) τ) (Nat.le_refl _) (by decide) (by first | exact rfl | with_reducible assumption) rfl rfl rfl ⟨wmX12_281, wi_yX12_flaw, wv_yX12_flaw, wzX12, wc_yX12_flaw⟩ hy_yX12_flaw rfl (Nat.le_of_ble_eq_true rfl) dX12_readLabel_30 (fun rv σ' hpo => ?_)
      obtain ⟨rfl, hσ⟩ := hpo
      rw [hσ, if_pos h5]
      refine n_goto (tgt := 130) hC dX12_readLabel_33 (by decide) ?_
      refine n_vret hC dX12_readLabel_130 ?_
      obtain ⟨f1, f2, f3, f4⟩ := flx 1
      exact ⟨rfl, f1, f2, Or.inl ⟨q, f3, f4⟩⟩
end RP5
