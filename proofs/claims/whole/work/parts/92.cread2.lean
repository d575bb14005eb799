def q_wr (i κ y x : Nat) : Prop := (κ = 3 ∧ y = 0 ∧ (x = 4 ∨ x = 7 ∨ x = 8 ∨ x = 9 ∨ x = 10)) ∨ (4 ≤ κ ∧ κ ≤ 8 ∧ y = 0) ∨ (κ = 28 ∧ y = i ∧ x = 2) ∨ ((κ = 29 ∨ κ = 30) ∧ y = i)
/-- what reading into program i leaves alone -/
def CF (i : Nat) (σ σ' : n_S) : Prop := ∀ κ y x, ¬ q_wr i κ y x → σ' κ y x = σ κ y x
theorem CF.refl (i : Nat) (σ : n_S) : CF i σ σ := fun _ _ _ _ => rfl
theorem CF.trans {i : Nat} {σ σ1 σ2 : n_S} (h : CF i σ σ1) (h' : CF i σ1 σ2) : CF i σ σ2 := fun κ y x hn => (h' κ y x hn).trans (h κ y x hn)
theorem CF.up {i : Nat} {σ σ1 : n_S} {κ y x : Nat} {v : Int32} (h : CF i σ σ1) (hw : q_wr i κ y x) : CF i σ (n_up σ1 κ y x v) := fun κ' y' x' hn => (nu_o (fun z => hn (by rw [z.1, z.2.1, z.2.2]; exact hw))).trans (h κ' y' x' hn)
theorem CW.cf {i : Nat} {σ σ' : n_S} (h : CW σ σ') : CF i σ σ' := fun κ y x hn => h κ y x (fun z => hn (by unfold q_wr; omega))
theorem CT.cf {B : List Int32} {i : Nat} {σ σ' : n_S} (h : CT B σ) (hf : CF i σ σ') : CT B σ' := h.mv (fun κ y x u => hf κ y x (by unfold q_wr; omega))
def CL (P : p_P) (σ : n_S) : Prop := σ 3 0 4 = nI P.lab.length ∧ ∀ j, j < P.lab.length → σ 4 0 j = nI (P.lab.getD j (0, 0, 0)).1 ∧ σ 5 0 j = nI (P.lab.getD j (0, 0, 0)).2.1 ∧ σ 6 0 j = nI (P.lab.getD j (0, 0, 0)).2.2
def CC (i : Nat) (P : p_P) (σ : n_S) : Prop := σ 28 i 2 = nI P.op.length ∧ ∀ j, j < P.op.length → σ 29 i j = nI (P.op.getD j 0 + 1) ∧ σ 30 i j = P.nu.getD j 0 ∧ σ 8 0 j = nI (P.na.getD j (0, 0)).2 ∧ (p_hn (P.op.getD j 0) → σ 7 0 j = nI (P.na.getD j (0, 0)).1)
theorem CL.mv {P P' : p_P} {σ σ' : n_S} (h : CL P σ) (hp : P'.lab = P.lab) (ht : ∀ κ x, (κ = 4 ∨ κ = 5 ∨ κ = 6 ∨ (κ = 3 ∧ x = 4)) → σ' κ 0 x = σ κ 0 x) : CL P' σ' := by
  unfold CL
  rw [hp]
  exact ⟨(ht 3 4 (by omega)).trans h.1, fun j hj => ⟨(ht 4 j (by omega)).trans (h.2 j hj).1, (ht 5 j (by omega)).trans (h.2 j hj).2.1, (ht 6 j (by omega)).trans (h.2 j hj).2.2⟩⟩
theorem CC.mv {i : Nat} {P P' : p_P} {σ σ' : n_S} (h : CC i P σ) (h1 : P'.op = P.op) (h2 : P'.nu = P.nu) (h3 : P'.na = P.na) (ht : ∀ κ y x, (κ = 28 ∨ κ = 29 ∨ κ = 30 ∨ κ = 8 ∨ κ = 7) → σ' κ y x = σ κ y x) : CC i P' σ' := by
  unfold CC
  rw [h1, h2, h3]
  exact ⟨(ht 28 i 2 (by omega)).trans h.1, fun j hj => ⟨(ht 29 _ _ (by omega)).trans (h.2 j hj).1, (ht 30 _ _ (by omega)).trans (h.2 j hj).2.1, (ht 8 _ _ (by omega)).trans (h.2 j hj).2.2.1, fun hn => (ht 7 _ _ (by omega)).trans ((h.2 j hj).2.2.2 hn)⟩⟩
theorem CC_put {i k : Nat} {P : p_P} {v : Int32} {x : Nat × Nat} {σ σ' : n_S} (h : CC i P σ) (hnu : P.nu.length = P.op.length) (hna : P.na.length = P.op.length) (e1 : σ' 28 i 2 = nI (P.op.length + 1)) (e2 : σ' 29 i P.op.length = nI (k + 1)) (e3 : σ' 30 i P.op.length = v) (e5 : σ' 8 0 P.op.length = nI x.2) (e4 : p_hn k → σ' 7 0 P.op.length = nI x.1) (f : ∀ j, j < P.op.length → σ' 29 i j = σ 29 i j ∧ σ' 30 i j = σ 30 i j ∧ σ' 8 0 j = σ 8 0 j ∧ σ' 7 0 j = σ 7 0 j) : CC i (p_put P k v x) σ' := by
  refine ⟨by rw [e1]; simp [p_put, pP2], fun j hj => ?_⟩
  have hj : j < P.op.length + 1 := by simpa [p_put, pP2] using hj
  show σ' 29 i j = nI ((P.op ++ [k]).getD j 0 + 1) ∧ σ' 30 i j = (P.nu ++ [v]).getD j 0 ∧ σ' 8 0 j = nI ((P.na ++ [x]).getD j (0, 0)).2 ∧ (p_hn ((P.op ++ [k]).getD j 0) → σ' 7 0 j = nI ((P.na ++ [x]).getD j (0, 0)).1)
  by_cases z : j = P.op.length
  · rw [z, getD_sn_e]
    have e6 : (P.nu ++ [v]).getD P.op.length 0 = v := by rw [← hnu]; exact getD_sn_e _ _ _
    have e7 : (P.na ++ [x]).getD P.op.length (0, 0) = x := by rw [← hna]; exact getD_sn_e _ _ _
    rw [e6, e7]
    exact ⟨e2, e3, e5, e4⟩
  · obtain ⟨f1, f2, f3, f4⟩ := f j (by omega)
    rw [getD_sn_l _ _ _ (show j < P.op.length by omega), getD_sn_l _ _ _ (show j < P.nu.length by omega), getD_sn_l _ _ _ (show j < P.na.length by omega), f1, f2, f3, f4]
    exact h.2 j (by omega)
theorem p_lkf_y {B : List Int32} {x : Nat × Nat × Nat} {t : List (Nat × Nat × Nat)} {a n : Nat} (h : p_same B x.1 x.2.1 a n) : p_lkf B (x :: t) a n = some x.2.2 := by rw [p_lkf, if_pos h]
theorem p_lkf_n {B : List Int32} {x : Nat × Nat × Nat} {t : List (Nat × Nat × Nat)} {a n : Nat} (h : ¬ p_same B x.1 x.2.1 a n) : p_lkf B (x :: t) a n = p_lkf B t a n := by rw [p_lkf, if_neg h]
theorem dropD {α : Type} (L : List α) (y : α) {i : Nat} (h : i < L.length) : L.drop i = L.getD i y :: L.drop (i + 1) := by
  rw [List.drop_eq_getElem_cons h, List.getD_eq_getElem?_getD, List.getElem?_eq_getElem h]
  rfl
section CR2
variable {l : Launch} {D : va_G} {ca : Nat → ClassId} {ad : Nat → Nat → Nat} {ae sk sv : Nat → Nat} {ta sf ts : Nat} {Ex : State → Heap → Prop}
theorem c_targetOf (d a n : Nat) (B : List Int32) (P : p_P) (σ : n_S) (hB : CT B σ) (hok : p_ok B P) (hL : CL P σ) (hle : a + n ≤ B.length) : n_Ct l (cw D ca ad ae Ex) (d + 2) yX6_targetOf cX6_targetOf 4 (some .int) [.ref (ad 3 0), .int (nI a), .int (nI n)] σ (fun rv σ' => ((∃ v, v ≤ 256 ∧ p_lkf B P.lab a n = some v ∧ rv = some (.int (nI v))) ∨ (p_lkf B P.lab a n = none ∧ rv = some (.int (-1)))) ∧ σ' = σ) := by
  have hlen := hB.2.1
  obtain ⟨a1, a2, a3, a4, a5, a6, a7⟩ := hok
  obtain ⟨g1, g2⟩ := hL
  refine n_ofW (by decide) (Nat.le_of_ble_eq_true rfl) ?_
  intro p e s m below meth c hC
  have loop : ∀ (t i : Nat), t + i = P.lab.length → p_lkf B P.lab a n = p_lkf B (P.lab.drop i) a n → n_W p l e s m [Value.ref (ad 3 0), Value.int (nI a), Value.int (nI n)].toArray below meth c (cw D ca ad ae Ex) (d + 2) (fun rv σ' => ((∃ v, v ≤ 256 ∧ p_lkf B P.lab a n = some v ∧ rv = some (.int (nI v))) ∨ (p_lkf B P.lab a n = none ∧ rv = some (.int (-1)))) ∧ σ' = σ) 2 [some (.ref (ad 3 0)), some (.int (nI a)), some (.int (nI n)), some (.int (nI i))] [] σ := by
    intro t
    induction t with
    | zero =>
      intro i hi he
      rw [show i = P.lab.length by omega, List.drop_length] at he
      have he : p_lkf B P.lab a n = none := he
      refine n_iload_n hC dX6_targetOf_2 rfl rfl ?_
      refine n_aload_n hC dX6_targetOf_3 rfl rfl ?_
      refine g3_labels hC (by first | exact rfl | with_reducible assumption) wfX6_37 dX6_targetOf_4 ?_
      rw [g1]
      refine n_icmp_ge (tgt := 51) hC dX6_targetOf_7 (by decide) (fun h => ?_) (fun h => ?_)
      · refine n_iconst (v := -1) hC dX6_targetOf_51 (by decide) ?_
        refine n_iret hC dX6_targetOf_52 ?_
        exact ⟨Or.inr ⟨he, rfl⟩, rfl⟩
      · exact absurd (nI_le (by omega) (by omega)) h
    | succ t ih =>
      intro i hi he
      have hil : i < P.lab.length := by omega
      obtain ⟨l1, l2, l3⟩ := g2 i hil
      obtain ⟨b1, b2⟩ := a6 i hil
      rw [dropD P.lab (0, 0, 0) hil] at he
      have no45 : ¬ p_same B (P.lab.getD i (0, 0, 0)).1 (P.lab.getD i (0, 0, 0)).2.1 a n → n_W p l e s m [Value.ref (ad 3 0), Value.int (nI a), Value.int (nI n)].toArray below meth c (cw D ca ad ae Ex) (d + 2) (fun rv σ' => ((∃ v, v ≤ 256 ∧ p_lkf B P.lab a n = some v ∧ rv = some (.int (nI v))) ∨ (p_lkf B P.lab a n = none ∧ rv = some (.int (-1)))) ∧ σ' = σ) 45 [some (.ref (ad 3 0)), some (.int (nI a)), some (.int (nI n)), some (.int (nI i))] [] σ := by
        intro hno
        rw [p_lkf_n hno] at he
        refine n_iinc hC dX6_targetOf_45 rfl (show _ + Int32.ofInt 1 = _ + 1 from rfl) ?_
        refine n_goto (tgt := 2) hC dX6_targetOf_48 (by decide) ?_
        rw [nI_1]
        exact ih (i + 1) (by omega) he
      refine n_iload_n hC dX6_targetOf_2 rfl rfl ?_
      refine n_aload_n hC dX6_targetOf_3 rfl rfl ?_
      refine g3_labels hC (by first | exact rfl | with_reducible assumption) wfX6_37 dX6_targetOf_4 ?_
      rw [g1]
      refine n_icmp_ge (tgt := 51) hC dX6_targetOf_7 (by decide) (fun h => ?_) (fun h => ?_)
      · exact absurd h (nI_ge (by omega) (by omega))
      · clear h
        refine n_aload_n hC dX6_targetOf_10 rfl rfl ?_
        refine g3_labelSizes hC (by first | exact rfl | with_reducible assumption) wfX6_15 dX6_targetOf_11 ?_
        refine n_iload_n hC dX6_targetOf_14 rfl rfl ?_
        refine c_iald hC (by first | exact rfl | with_reducible assumption) (fun _ => rfl) (by first | exact vp_in_nI (by omega) (by decide) | with_reducible assumption) dX6_targetOf_15 ?_
        rw [nI_clamp (by omega), l2]
        refine n_iload_n hC dX6_targetOf_16 rfl rfl ?_
        refine n_icmp_ne (tgt := 45) hC dX6_targetOf_17 (by decide) (fun h => ?_) (fun h => ?_)
        · exact no45 (fun z => h (by rw [z.1]))
        · have hsz : (P.lab.getD i (0, 0, 0)).2.1 = n := (nI_eq (by omega) (by omega)).mp h
          clear h
          refine n_aload_n hC dX6_targetOf_20 rfl rfl ?_
          refine g3_tape hC (by first | exact rfl | with_reducible assumption) wfX6_27 dX6_targetOf_21 ?_
          refine n_aload_n hC dX6_targetOf_24 rfl rfl ?_
          refine g3_labelPlaces hC (by first | exact rfl | with_reducible assumption) wfX6_9 dX6_targetOf_25 ?_
          refine n_iload_n hC dX6_targetOf_28 rfl rfl ?_
          refine c_iald hC (by first | exact rfl | with_reducible assumption) (fun _ => rfl) (by first | exact vp_in_nI (by omega) (by decide) | with_reducible assumption) dX6_targetOf_29 ?_
          rw [nI_clamp (by omega), l1]
          refine n_iload_n hC dX6_targetOf_30 rfl rfl ?_
          refine n_iload_n hC dX6_targetOf_31 rfl rfl ?_
          refine n_callV hC (c_repeats d (P.lab.getD i (0, 0, 0)).1 a n B σ hB (by omega) (by omega)) (Nat.le_refl _) (by decide) (by first | exact rfl | with_reducible assumption) rfl rfl rfl ⟨wmX6_128, wi_yX8_repeats, wv_yX8_repeats, wzX8, wc_yX8_repeats⟩ hy_yX8_repeats rfl (Nat.le_of_ble_eq_true rfl) dX6_targetOf_32 (fun rv σ' hpo => ?_)
          obtain ⟨hpo, hσ⟩ := hpo
          rw [hσ]
          rcases hpo with ⟨q, rfl⟩ | ⟨q, rfl⟩
          · refine n_if_eq (tgt := 45) hC dX6_targetOf_35 (by decide) (fun h => ?_) (fun h => ?_)
            · exact absurd h (by decide)
            · refine n_aload_n hC dX6_targetOf_38 rfl rfl ?_
              refine g3_labelTargets hC (by first | exact rfl | with_reducible assumption) wfX6_18 dX6_targetOf_39 ?_
              refine n_iload_n hC dX6_targetOf_42 rfl rfl ?_
              refine c_iald hC (by first | exact rfl | with_reducible assumption) (fun _ => rfl) (by first | exact vp_in_nI (by omega) (by decide) | with_reducible assumption) dX6_targetOf_43 ?_
              rw [nI_clamp (by omega), l3]
              refine n_iret hC dX6_targetOf_44 ?_
              refine ⟨Or.inl ⟨_, by omega, ?_, rfl⟩, rfl⟩
              rw [he, p_lkf_y ⟨hsz, fun i' u => q i' (by omega)⟩]
          · refine n_if_eq (tgt := 45) hC dX6_targetOf_35 (by decide) (fun h => ?_) (fun h => ?_)
            · exact no45 (fun z => q (fun i' u => z.2 i' (by omega)))
            · exact absurd rfl h
  refine n_iconst (v := 0) hC dX6_targetOf_0 (by decide) ?_
  refine n_istore_n hC dX6_targetOf_1 rfl (Nat.le_of_ble_eq_true rfl) ?_
  exact loop P.lab.length 0 (by omega) rfl
theorem c_addLabel (d i a b : Nat) (B : List Int32) (P : p_P) (σ : n_S) (hB : CT B σ) (hok : p_ok B P) (hL : CL P σ) (hX : CC i P σ) (h9 : σ 3 0 9 = 0) (h7 : σ 3 0 7 = nI a) (h8 : σ 3 0 8 = nI b) (hab : a < b) (hb : b ≤ B.length) : n_Ct l (cw D ca ad ae Ex) (d + 3) yX6_addLabel cX6_addLabel 3 none [.ref (ad 3 0), .int (nI P.op.length)] σ (fun rv σ' => rv = none ∧ CF i σ σ' ∧ σ' 3 0 8 = nI b ∧ σ' 28 i 2 = nI P.op.length ∧ ((p_lkf B P.lab a (b - 1 - a) ≠ none ∧ σ' 3 0 9 = 3 ∧ σ' 3 0 10 = nI a) ∨ (p_lkf B P.lab a (b - 1 - a) = none ∧ ¬ P.lab.length < 32 ∧ σ' 3 0 9 = 4 ∧ σ' 3 0 10 = nI a) ∨ (p_lkf B P.lab a (b - 1 - a) = none ∧ P.lab.length < 32 ∧ σ' 3 0 9 = 0 ∧ CL (P.lab ++ [(a, b - 1 - a, P.op.length)], P.op, P.nu, P.na) σ' ∧ CC i (P.lab ++ [(a, b - 1 - a, P.op.length)], P.op, P.nu, P.na) σ'))) := by
  have hlen := hB.2.1
  have a1 := hok.1
  have a2 := hok.2.1
  have flx : ∀ f : Int32, CF i σ (n_up (n_up σ 3 0 9 f) 3 0 10 (nI a)) ∧ n_up (n_up σ 3 0 9 f) 3 0 10 (nI a) 3 0 8 = nI b ∧ n_up (n_up σ 3 0 9 f) 3 0 10 (nI a) 28 i 2 = nI P.op.length ∧ n_up (n_up σ 3 0 9 f) 3 0 10 (nI a) 3 0 9 = f ∧ n_up (n_up σ 3 0 9 f) 3 0 10 (nI a) 3 0 10 = nI a := fun f => ⟨((CF.refl i σ).up (by unfold q_wr; omega)).up (by unfold q_wr; omega), by rw [nu_o (by omega), nu_o (by omega), h8], by rw [nu_o (by omega), nu_o (by omega), hX.1], by rw [nu_o (by omega), nu_e], nu_e _ _ _ _ _⟩
  refine n_ofW (by decide) (Nat.le_of_ble_eq_true rfl) ?_
  intro p e s m below meth c hC
  refine n_aload_n hC dX6_addLabel_0 rfl rfl ?_
  refine g3_stop hC (by first | exact rfl | with_reducible assumption) wfX6_40 dX6_addLabel_1 ?_
  rw [h8]
  refine n_iconst (v := 1) hC dX6_addLabel_4 (by decide) ?_
  refine n_isub hC dX6_addLabel_5 ?_
  rw [nI_m1 (by omega)]
  refine n_aload_n hC dX6_addLabel_6 rfl rfl ?_
  refine g3_start hC (by first | exact rfl | with_reducible assumption) wfX6_73 dX6_addLabel_7 ?_
  rw [h7]
  refine n_isub hC dX6_addLabel_10 ?_
  rw [nI_subL (by omega)]
  refine n_istore_n hC dX6_addLabel_11 rfl (Nat.le_of_ble_eq_true rfl) ?_
  refine n_aload_n hC dX6_addLabel_12 rfl rfl ?_
  refine n_aload_n hC dX6_addLabel_13 rfl rfl ?_
  refine g3_start hC (by first | exact rfl | with_reducible assumption) wfX6_73 dX6_addLabel_14 ?_
  rw [h7]
  refine n_iload_n hC dX6_addLabel_17 rfl rfl ?_
  refine n_callV hC (c_targetOf d a (b - 1 - a) B P σ hB hok hL (by omega)) (Nat.le_refl _) (by decide) (by first | exact rfl | with_reducible assumption) rfl rfl rfl ⟨wmX6_124, wi_yX6_targetOf, wv_yX6_targetOf, wzX6, wc_yX6_targetOf⟩ hy_yX6_targetOf rfl (Nat.le_of_ble_eq_true rfl) dX6_addLabel_18 (fun rv σ' hpo => ?_)
  obtain ⟨hpo, hσ⟩ := hpo
  rw [hσ]
  rcases hpo with ⟨v, hv, q2, rfl⟩ | ⟨q2, rfl⟩
  · refine n_iconst (v := -1) hC dX6_addLabel_21 (by decide) ?_
    refine n_icmp_eq (tgt := 37) hC dX6_addLabel_22 (by decide) (fun h => ?_) (fun h => ?_)
    · exact absurd h (nI_nm1 (by omega))
    · refine n_aload_n hC dX6_addLabel_25 rfl rfl ?_
      refine n_iconst (v := 3) hC dX6_addLabel_26 (by decide) ?_
      refine n_aload_n hC dX6_addLabel_27 rfl rfl ?_
      refine g3_start hC (by first | exact rfl | with_reducible assumption) wfX6_73 dX6_addLabel_28 ?_
      rw [h7]
      refine n_callV hC (c_blame (d + 2) 3 (nI a) σ) (Nat.le_refl _) (by decide) (by first | exact rfl | with_reducible assumption) rfl rfl rfl ⟨wmX6_65, wi_yX6_blame, wv_yX6_blame, wzX6, wc_yX6_blame⟩ hy_yX6_blame rfl (Nat.le_of_ble_eq_true rfl) dX6_addLabel_31 (fun rv σ' hpo => ?_)
      obtain ⟨rfl, hσ⟩ := hpo
      rw [hσ]
      refine n_goto (tgt := 101) hC dX6_addLabel_34 (by decide) ?_
      refine n_vret hC dX6_addLabel_101 ?_
      obtain ⟨f1, f2, f3, f4, f5⟩ := flx 3
      exact ⟨rfl, f1, f2, f3, Or.inl ⟨by rw [q2]; simp, f4, f5⟩⟩
  · refine n_iconst (v := -1) hC dX6_addLabel_21 (by decide) ?_
    refine n_icmp_eq (tgt := 37) hC dX6_addLabel_22 (by decide) (fun h => ?_) (fun h => ?_)
    · clear h
      refine n_aload_n hC dX6_addLabel_37 rfl rfl ?_
      refine g3_labels hC (by first | exact rfl | with_reducible assumption) wfX6_37 dX6_addLabel_38 ?_
      rw [hL.1]
      refine n_bipush (v := 32) hC dX6_addLabel_41 (by decide) ?_
      refine n_icmp_lt (tgt := 58) hC dX6_addLabel_43 (by decide) (fun h => ?_) (fun h => ?_)
      · have hlt : P.lab.length < 32 := (nI_ltI (b := 32) (by omega) (by omega)).mp h
        clear h
        refine n_aload_n hC dX6_addLabel_58 rfl rfl ?_
        refine g3_labelPlaces hC (by first | exact rfl | with_reducible assumption) wfX6_9 dX6_addLabel_59 ?_
        refine n_aload_n hC dX6_addLabel_62 rfl rfl ?_
        refine g3_labels hC (by first | exact rfl | with_reducible assumption) wfX6_37 dX6_addLabel_63 ?_
        rw [hL.1]
        refine n_aload_n hC dX6_addLabel_66 rfl rfl ?_
        refine g3_start hC (by first | exact rfl | with_reducible assumption) wfX6_73 dX6_addLabel_67 ?_
        rw [h7]
        refine c_iast hC (by first | exact rfl | with_reducible assumption) (fun _ => rfl) (by first | exact vp_in_nI (by omega) (by decide) | with_reducible assumption) dX6_addLabel_70 ?_
        refine n_aload_n hC dX6_addLabel_71 rfl rfl ?_
        refine g3_labelSizes hC (by first | exact rfl | with_reducible assumption) wfX6_15 dX6_addLabel_72 ?_
        refine n_aload_n hC dX6_addLabel_75 rfl rfl ?_
        refine g3_labels hC (by first | exact rfl | with_reducible assumption) wfX6_37 dX6_addLabel_76 ?_
        rw [nI_clamp (by omega), nu_o (by omega), hL.1]
        refine n_iload_n hC dX6_addLabel_79 rfl rfl ?_
        refine c_iast hC (by first | exact rfl | with_reducible assumption) (fun _ => rfl) (by first | exact vp_in_nI (by omega) (by decide) | with_reducible assumption) dX6_addLabel_80 ?_
        refine n_aload_n hC dX6_addLabel_81 rfl rfl ?_
        refine g3_labelTargets hC (by first | exact rfl | with_reducible assumption) wfX6_18 dX6_addLabel_82 ?_
        refine n_aload_n hC dX6_addLabel_85 rfl rfl ?_
        refine g3_labels hC (by first | exact rfl | with_reducible assumption) wfX6_37 dX6_addLabel_86 ?_
        rw [nI_clamp (by omega), nu_o (by omega), nu_o (by omega), hL.1]
        refine n_iload_n hC dX6_addLabel_89 rfl rfl ?_
        refine c_iast hC (by first | exact rfl | with_reducible assumption) (fun _ => rfl) (by first | exact vp_in_nI (by omega) (by decide) | with_reducible assumption) dX6_addLabel_90 ?_
        refine n_aload_n hC dX6_addLabel_91 rfl rfl ?_
        refine n_dup hC dX6_addLabel_92 rfl ?_
        refine g3_labels hC (by first | exact rfl | with_reducible assumption) wfX6_37 dX6_addLabel_93 ?_
        rw [nI_clamp (by omega), nu_o (by omega), nu_o (by omega), nu_o (by omega), hL.1]
        refine n_iconst (v := 1) hC dX6_addLabel_96 (by decide) ?_
        refine n_iadd hC dX6_addLabel_97 ?_
        rw [nI_1]
        refine p3_labels hC (by first | exact rfl | with_reducible assumption) wfX6_37 dX6_addLabel_98 ?_
        refine n_vret hC dX6_addLabel_101 ?_
        refine ⟨rfl, ((((CF.refl i σ).up (by unfold q_wr; omega)).up (by unfold q_wr; omega)).up (by unfold q_wr; omega)).up (by unfold q_wr; omega), ?_, ?_, Or.inr (Or.inr ⟨q2, hlt, ?_, ⟨?_, fun j hj => ?_⟩, hX.mv rfl rfl rfl (fun κ y x u => ?_)⟩)⟩
        · rw [nu_o (by omega), nu_o (by omega), nu_o (by omega), nu_o (by omega), h8]
        · rw [nu_o (by omega), nu_o (by omega), nu_o (by omega), nu_o (by omega), hX.1]
        · rw [nu_o (by omega), nu_o (by omega), nu_o (by omega), nu_o (by omega), h9]
        · rw [nu_e]
          simp [pP1]
        · have hj : j < P.lab.length + 1 := by simpa [pP1] using hj
          rw [pP1 (P.lab ++ [(a, b - 1 - a, P.op.length)]) P.op P.nu P.na]
          by_cases z : j = P.lab.length
          · rw [z, getD_sn_e]
            refine ⟨?_, ?_, ?_⟩
            · rw [nu_o (by omega), nu_o (by omega), nu_o (by omega), nu_e]
            · rw [nu_o (by omega), nu_o (by omega), nu_e]
            · rw [nu_o (by omega), nu_e]
          · obtain ⟨f1, f2, f3⟩ := hL.2 j (by omega)
            rw [getD_sn_l _ _ _ (show j < P.lab.length by omega)]
            refine ⟨?_, ?_, ?_⟩
            · rw [nu_o (by omega), nu_o (by omega), nu_o (by omega), nu_o (by omega), f1]
            · rw [nu_o (by omega), nu_o (by omega), nu_o (by omega), nu_o (by omega), f2]
            · rw [nu_o (by omega), nu_o (by omega), nu_o (by omega), nu_o (by omega), f3]
        · rw [nu_o (by omega), nu_o (by omega), nu_o (by omega), nu_o (by omega)]
      · have hge : ¬ P.lab.length < 32 := fun z => h (nI_lt (b := 32) z (by omega))
        clear h
        refine n_aload_n hC dX6_addLabel_46 rfl rfl ?_
        refine n_iconst (v := 4) hC dX6_addLabel_47 (by decide) ?_
        refine n_aload_n hC dX6_addLabel_48 rfl rfl ?_
        refine g3_start hC (by first | exact rfl | with_reducible assumption) wfX6_73 dX6_addLabel_49 ?_
        rw [h7]
        refine n_callV hC (c_blame (d + 2) 4 (nI a) σ) (Nat.le_refl _) (by decide) (by first | exact rfl | with_reducible assumption) rfl rfl rfl ⟨wmX6_65, wi_yX6_blame, wv_yX6_blame, wzX6, wc_yX6_blame⟩ hy_yX6_blame rfl (Nat.le_of_ble_eq_true rfl) dX6_addLabel_52 (fun rv σ' hpo => ?_)
        obtain ⟨rfl, hσ⟩ := hpo
        rw [hσ]
        refine n_goto (tgt := 101) hC dX6_addLabel_55 (by decide) ?_
        refine n_vret hC dX6_addLabel_101 ?_
        obtain ⟨f1, f2, f3, f4, f5⟩ := flx 4
        exact ⟨rfl, f1, f2, f3, Or.inr (Or.inl ⟨q2, hge, f4, f5⟩)⟩
    · exact absurd rfl h
theorem c_addI (hX0 : ∀ U H, Ex U H → cE ad ae ts U H) (d i a k : Nat) (v : Int32) (P : p_P) (σ : n_S) (hi : i < 12) (hk : k < 43) (hX : CC i P σ) (h7 : σ 3 0 7 = nI a) (hlen : P.op.length ≤ 256) : n_Ct l (cw D ca ad ae Ex) (d + 1) yX6_addInstruction cX6_addInstruction 5 none [.ref (ad 3 0), .ref (ad 28 i), .ref (ae k), .int v] σ (fun rv σ' => rv = none ∧ ((P.op.length < 256 ∧ σ' = n_up (n_up (n_up (n_up σ 29 i P.op.length (nI (k + 1))) 30 i P.op.length v) 8 0 P.op.length 0) 28 i 2 (nI (P.op.length + 1))) ∨ (¬ P.op.length < 256 ∧ σ' = n_up (n_up σ 3 0 9 5) 3 0 10 (nI a)))) := by
  have hd28 : cw_dom 28 i := hi
  have hd30 : cw_dom 30 i := hi
  refine n_ofW (by decide) (Nat.le_of_ble_eq_true rfl) ?_
  intro p e s m below meth c hC
  refine n_aload_n hC dX6_addInstruction_0 rfl rfl ?_
  refine g28_size hC (by first | exact rfl | with_reducible assumption) wfX6_31 dX6_addInstruction_1 ?_
  rw [hX.1]
  refine n_istore hC dX6_addInstruction_4 (Nat.le_of_ble_eq_true rfl) ?_
  refine n_iload hC dX6_addInstruction_6 rfl ?_
  refine n_sipush (v := 256) hC dX6_addInstruction_8 (by decide) ?_
  refine n_icmp_lt (tgt := 24) hC dX6_addInstruction_11 (by decide) (fun h => ?_) (fun h => ?_)
  · have hlt : P.op.length < 256 := (nI_ltI (b := 256) (by omega) (by omega)).mp h
    clear h
    refine n_aload_n hC dX6_addInstruction_24 rfl rfl ?_
    refine g28_ops hC (by first | exact rfl | with_reducible assumption) wfX6_117 dX6_addInstruction_25 ?_
    refine n_iload hC dX6_addInstruction_28 rfl ?_
    refine n_aload_n hC dX6_addInstruction_30 rfl rfl ?_
    refine c_aast hC hX0 hi hk hlt dX6_addInstruction_31 ?_
    refine n_aload_n hC dX6_addInstruction_32 rfl rfl ?_
    refine g28_numbers hC (by first | exact rfl | with_reducible assumption) wfX6_121 dX6_addInstruction_33 ?_
    refine n_iload hC dX6_addInstruction_36 rfl ?_
    refine n_iload_n hC dX6_addInstruction_38 rfl rfl ?_
    refine c_iast hC (by first | exact rfl | with_reducible assumption) (fun _ => rfl) (by first | exact vp_in_nI (by omega) (by decide) | with_reducible assumption) dX6_addInstruction_39 ?_
    rw [nI_clamp (by omega)]
    refine n_aload_n hC dX6_addInstruction_40 rfl rfl ?_
    refine g3_nameSizes hC (by first | exact rfl | with_reducible assumption) wfX6_24 dX6_addInstruction_41 ?_
    refine n_iload hC dX6_addInstruction_44 rfl ?_
    refine n_iconst (v := 0) hC dX6_addInstruction_46 (by decide) ?_
    refine c_iast hC (by first | exact rfl | with_reducible assumption) (fun _ => rfl) (by first | exact vp_in_nI (by omega) (by decide) | with_reducible assumption) dX6_addInstruction_47 ?_
    rw [nI_clamp (by omega)]
    refine n_aload_n hC dX6_addInstruction_48 rfl rfl ?_
    refine n_iload hC dX6_addInstruction_49 rfl ?_
    refine n_iconst (v := 1) hC dX6_addInstruction_51 (by decide) ?_
    refine n_iadd hC dX6_addInstruction_52 ?_
    rw [nI_1]
    refine p28_size hC (by first | exact rfl | with_reducible assumption) wfX6_31 dX6_addInstruction_53 ?_
    refine n_vret hC dX6_addInstruction_56 ?_
    exact ⟨rfl, Or.inl ⟨hlt, rfl⟩⟩
  · have hge : ¬ P.op.length < 256 := fun z => h (nI_lt (b := 256) z (by omega))
    clear h
    refine n_aload_n hC dX6_addInstruction_14 rfl rfl ?_
    refine n_iconst (v := 5) hC dX6_addInstruction_15 (by decide) ?_
    refine n_aload_n hC dX6_addInstruction_16 rfl rfl ?_
    refine g3_start hC (by first | exact rfl | with_reducible assumption) wfX6_73 dX6_addInstruction_17 ?_
    rw [h7]
    refine n_callV hC (c_blame d 5 (nI a) σ) (Nat.le_refl _) (by decide) (by first | exact rfl | with_reducible assumption) rfl rfl rfl ⟨wmX6_65, wi_yX6_blame, wv_yX6_blame, wzX6, wc_yX6_blame⟩ hy_yX6_blame rfl (Nat.le_of_ble_eq_true rfl) dX6_addInstruction_20 (fun rv σ' hpo => ?_)
    obtain ⟨rfl, hσ⟩ := hpo
    rw [hσ]
    refine n_vret hC dX6_addInstruction_23 ?_
    exact ⟨rfl, Or.inr ⟨hge, rfl⟩⟩
theorem c_readName (hS : ∀ U H, Ex U H → sX ad ae sk sv ta sf U H) (d j b : Nat) (B : List Int32) (σ : n_S) (hB : CT B σ) (hY : BY B) (hj : j < 256) (hb : b ≤ B.length) (h8 : σ 3 0 8 = nI b) : n_Ct l (cw D ca ad ae Ex) (d + 7) yX6_readName cX6_readName 2 none [.ref (ad 3 0), .int (nI j)] σ (fun rv σ' => rv = none ∧ ∃ σ1, CW σ σ1 ∧ σ1 3 0 8 = nI (p_wend B (p_skip B b)) ∧ ((p_nm B (p_skip B b) (p_wend B (p_skip B b) - p_skip B b) ∧ σ' = n_up (n_up σ1 7 0 j (nI (p_skip B b))) 8 0 j (nI (p_wend B (p_skip B b) - p_skip B b))) ∨ (¬ p_nm B (p_skip B b) (p_wend B (p_skip B b) - p_skip B b) ∧ σ' = n_up (n_up σ1 3 0 9 2) 3 0 10 (nI (p_skip B b))))) := by
  have hlen := hB.2.1
  have s1 := p_skip_le hb
  have s2 := p_wend_le s1.2
  refine n_ofW (by decide) (Nat.le_of_ble_eq_true rfl) ?_
  intro p e s m below meth c hC
  have bad : ∀ (σ1 : n_S), CW σ σ1 → σ1 3 0 7 = nI (p_skip B b) → σ1 3 0 8 = nI (p_wend B (p_skip B b)) → ¬ p_nm B (p_skip B b) (p_wend B (p_skip B b) - p_skip B b) → n_W p l e s m [Value.ref (ad 3 0), Value.int (nI j)].toArray below meth c (cw D ca ad ae Ex) (d + 7) (fun rv σ' => rv = none ∧ ∃ σ1, CW σ σ1 ∧ σ1 3 0 8 = nI (p_wend B (p_skip B b)) ∧ ((p_nm B (p_skip B b) (p_wend B (p_skip B b) - p_skip B b) ∧ σ' = n_up (n_up σ1 7 0 j (nI (p_skip B b))) 8 0 j (nI (p_wend B (p_skip B b) - p_skip B b))) ∨ (¬ p_nm B (p_skip B b) (p_wend B (p_skip B b) - p_skip B b) ∧ σ' = n_up (n_up σ1 3 0 9 2) 3 0 10 (nI (p_skip B b))))) 22 [some (.ref (ad 3 0)), some (.int (nI j))] [] σ1 := by
    intro σ1 f1 f7 f8 hn
    refine n_aload_n hC dX6_readName_22 rfl rfl ?_
    refine n_iconst (v := 2) hC dX6_readName_23 (by decide) ?_
    refine n_aload_n hC dX6_readName_24 rfl rfl ?_
    refine g3_start hC (by first | exact rfl | with_reducible assumption) wfX6_73 dX6_readName_25 ?_
    rw [f7]
    refine n_callV hC (c_blame (d + 6) 2 (nI (p_skip B b)) σ1) (Nat.le_refl _) (by decide) (by first | exact rfl | with_reducible assumption) rfl rfl rfl ⟨wmX6_65, wi_yX6_blame, wv_yX6_blame, wzX6, wc_yX6_blame⟩ hy_yX6_blame rfl (Nat.le_of_ble_eq_true rfl) dX6_readName_28 (fun rv σ' hpo => ?_)
    obtain ⟨rfl, hσ⟩ := hpo
    rw [hσ]
    refine n_goto (tgt := 70) hC dX6_readName_31 (by decide) ?_
    refine n_vret hC dX6_readName_70 ?_
    exact ⟨rfl, σ1, f1, f8, Or.inr ⟨hn, rfl⟩⟩
  refine n_aload_n hC dX6_readName_0 rfl rfl ?_
  refine n_callV hC (c_findWord (d + 4) b B σ hB hb h8) (Nat.le_refl _) (by decide) (by first | exact rfl | with_reducible assumption) rfl rfl rfl ⟨wmX6_49, wi_yX6_findWord, wv_yX6_findWord, wzX6, wc_yX6_findWord⟩ hy_yX6_findWord rfl (Nat.le_of_ble_eq_true rfl) dX6_readName_1 (fun rv σ1 hpo => ?_)
  obtain ⟨hpo, f1, f7, f8⟩ := hpo
  rcases hpo with ⟨q, rfl⟩ | ⟨q, rfl⟩
  · refine n_if_eq (tgt := 22) hC dX6_readName_4 (by decide) (fun h => ?_) (fun h => ?_)
    · exact absurd h (by decide)
    · clear h
      refine n_aload_n hC dX6_readName_7 rfl rfl ?_
      refine n_aload_n hC dX6_readName_8 rfl rfl ?_
      refine g3_start hC (by first | exact rfl | with_reducible assumption) wfX6_73 dX6_readName_9 ?_
      rw [f7]
      refine n_aload_n hC dX6_readName_12 rfl rfl ?_
      refine g3_stop hC (by first | exact rfl | with_reducible assumption) wfX6_40 dX6_readName_13 ?_
      rw [f8]
      refine n_callV hC (c6_isName hS d (p_skip B b) (p_wend B (p_skip B b)) B σ1 (hB.cw f1) hY s2.1 s2.2) (Nat.le_refl _) (by decide) (by first | exact rfl | with_reducible assumption) rfl rfl rfl ⟨wmX6_110, wi_yX6_isName, wv_yX6_isName, wzX6, wc_yX6_isName⟩ hy_yX6_isName rfl (Nat.le_of_ble_eq_true rfl) dX6_readName_16 (fun rv σ' hpo => ?_)
      obtain ⟨hpo, hσ⟩ := hpo
      rw [hσ]
      rcases hpo with ⟨q2, rfl⟩ | ⟨q2, rfl⟩
      · refine n_if_ne (tgt := 34) hC dX6_readName_19 (by decide) (fun h => ?_) (fun h => ?_)
        · clear h
          refine n_iload_n hC dX6_readName_34 rfl rfl ?_
          refine n_if_lt (tgt := 70) hC dX6_readName_35 (by decide) (fun h => ?_) (fun h => ?_)
          · exact absurd h (nI_pos (by omega))
          · clear h
            refine n_iload_n hC dX6_readName_38 rfl rfl ?_
            refine n_sipush (v := 256) hC dX6_readName_39 (by decide) ?_
            refine n_icmp_ge (tgt := 70) hC dX6_readName_42 (by decide) (fun h => ?_) (fun h => ?_)
            · exact absurd h (nI_ge (b := 256) hj (by omega))
            · clear h
              refine n_aload_n hC dX6_readName_45 rfl rfl ?_
              refine g3_namePlaces hC (by first | exact rfl | with_reducible assumption) wfX6_21 dX6_readName_46 ?_
              refine n_iload_n hC dX6_readName_49 rfl rfl ?_
              refine n_aload_n hC dX6_readName_50 rfl rfl ?_
              refine g3_start hC (by first | exact rfl | with_reducible assumption) wfX6_73 dX6_readName_51 ?_
              rw [f7]
              refine c_iast hC (by first | exact rfl | with_reducible assumption) (fun _ => rfl) (by first | exact vp_in_nI (by omega) (by decide) | with_reducible assumption) dX6_readName_54 ?_
              refine n_aload_n hC dX6_readName_55 rfl rfl ?_
              refine g3_nameSizes hC (by first | exact rfl | with_reducible assumption) wfX6_24 dX6_readName_56 ?_
              refine n_iload_n hC dX6_readName_59 rfl rfl ?_
              refine n_aload_n hC dX6_readName_60 rfl rfl ?_
              refine g3_stop hC (by first | exact rfl | with_reducible assumption) wfX6_40 dX6_readName_61 ?_
              rw [nI_clamp (by omega), nu_o (by omega), f8]
              refine n_aload_n hC dX6_readName_64 rfl rfl ?_
              refine g3_start hC (by first | exact rfl | with_reducible assumption) wfX6_73 dX6_readName_65 ?_
              rw [nu_o (by omega), f7]
              refine n_isub hC dX6_readName_68 ?_
              rw [nI_subL s2.1]
              refine c_iast hC (by first | exact rfl | with_reducible assumption) (fun _ => rfl) (by first | exact vp_in_nI (by omega) (by decide) | with_reducible assumption) dX6_readName_69 ?_
              refine n_vret hC dX6_readName_70 ?_
              rw [nI_clamp (by omega)]
              exact ⟨rfl, σ1, f1, f8, Or.inl ⟨q2, rfl⟩⟩
        · exact absurd h (by decide)
      · refine n_if_ne (tgt := 34) hC dX6_readName_19 (by decide) (fun h => ?_) (fun h => ?_)
        · exact absurd rfl h
        · exact bad σ1 f1 f7 f8 q2
  · refine n_if_eq (tgt := 22) hC dX6_readName_4 (by decide) (fun h => ?_) (fun h => ?_)
    · exact bad σ1 f1 f7 f8 (fun z => by have := z.1; omega)
    · exact absurd rfl h
end CR2
