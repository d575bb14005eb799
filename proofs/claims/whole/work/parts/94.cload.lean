def CZ (B : List Int32) (i : Nat) (σ σ' : n_S) : Prop := CF i σ σ' ∧ (∃ L, L ≤ 256 ∧ σ' 28 i 2 = nI L) ∧ ((∃ f, p_all B = .inl f ∧ σ' 3 0 9 = nI f.1 ∧ σ' 3 0 10 = nI f.2 ∧ 1 ≤ f.1 ∧ f.1 ≤ 7) ∨ (∃ o n, p_all B = .inr (o, n) ∧ σ' 3 0 9 = 0 ∧ σ' 28 i 2 = nI o.length ∧ ∀ j, j < o.length → σ' 29 i j = o.getD j 0 ∧ σ' 30 i j = n.getD j 0))
/-- behind the targets: a fault at the first name without a label, or the numbers -/
def CTg (B : List Int32) (i : Nat) (P : p_P) (σ σ' : n_S) : Prop := CF i σ σ' ∧ σ' 28 i 2 = nI P.op.length ∧ ((∃ j, p_scan B P P.op.length 0 = some j ∧ σ' 3 0 9 = 6 ∧ σ' 3 0 10 = nI (P.na.getD j (0, 0)).1) ∨ (p_scan B P P.op.length 0 = none ∧ σ' 3 0 9 = 0 ∧ ∀ j, j < P.op.length → σ' 29 i j = nI (P.op.getD j 0 + 1) ∧ σ' 30 i j = (p_nums B P).getD j 0))
section CR4
variable {l : Launch} {D : va_G} {ca : Nat → ClassId} {ad : Nat → Nat → Nat} {ae sk sv : Nat → Nat} {ta sf ts : Nat} {Ex : State → Heap → Prop}
theorem c_findTargets (d i : Nat) (B : List Int32) (P : p_P) (σ : n_S) (hi : i < 12) (hB : CT B σ) (hok : p_ok B P) (hL : CL P σ) (hP : CC i P σ) (h9 : σ 3 0 9 = 0) : n_Ct l (cw D ca ad ae Ex) (d + 3) yX6_findTargets cX6_findTargets 3 none [.ref (ad 3 0), .ref (ad 28 i)] σ (fun rv σ' => rv = none ∧ CTg B i P σ σ') := by
  have hd28 : cw_dom 28 i := hi
  have hd30 : cw_dom 30 i := hi
  have hlen := hB.2.1
  obtain ⟨a1, a2, a3, a4, a5, a6, a7⟩ := id hok
  refine n_ofW (by decide) (Nat.le_of_ble_eq_true rfl) ?_
  intro p e s m below meth c hC
  have bad : ∀ (σ1 : n_S) (j k : Nat), CF i σ σ1 → σ1 28 i 2 = nI P.op.length → p_scan B P P.op.length 0 = some j → σ1 3 0 9 = 6 → σ1 3 0 10 = nI (P.na.getD j (0, 0)).1 → n_W p l e s m [Value.ref (ad 3 0), Value.ref (ad 28 i)].toArray below meth c (cw D ca ad ae Ex) (d + 3) (fun rv σ' => rv = none ∧ CTg B i P σ σ') 2 [some (.ref (ad 3 0)), some (.ref (ad 28 i)), some (.int (nI k))] [] σ1 := by
    intro σ1 j k f1 f2 f3 f4 f5
    have fin : n_W p l e s m [Value.ref (ad 3 0), Value.ref (ad 28 i)].toArray below meth c (cw D ca ad ae Ex) (d + 3) (fun rv σ' => rv = none ∧ CTg B i P σ σ') 76 [some (.ref (ad 3 0)), some (.ref (ad 28 i)), some (.int (nI k))] [] σ1 := by
      refine n_vret hC dX6_findTargets_76 ?_
      exact ⟨rfl, f1, f2, Or.inl ⟨j, f3, f4, f5⟩⟩
    refine n_iload_n hC dX6_findTargets_2 rfl rfl ?_
    refine n_aload_n hC dX6_findTargets_3 rfl rfl ?_
    refine g28_size hC (by first | exact rfl | with_reducible assumption) wfX6_31 dX6_findTargets_4 ?_
    refine n_icmp_ge (tgt := 76) hC dX6_findTargets_7 (by decide) (fun h => ?_) (fun h => ?_)
    · exact fin
    · clear h
      refine n_aload_n hC dX6_findTargets_10 rfl rfl ?_
      refine g3_fault hC (by first | exact rfl | with_reducible assumption) wfX6_43 dX6_findTargets_11 ?_
      rw [f4]
      refine n_if_ne (tgt := 76) hC dX6_findTargets_14 (by decide) (fun h => ?_) (fun h => ?_)
      · exact fin
      · exact absurd h (by decide)
  have loop : ∀ (t k : Nat) (σ1 : n_S), t + k = P.op.length → p_scan B P P.op.length 0 = p_scan B P t k → CF i σ σ1 → CL P σ1 → σ1 3 0 9 = 0 → σ1 28 i 2 = nI P.op.length → (∀ j, j < P.op.length → σ1 29 i j = nI (P.op.getD j 0 + 1) ∧ σ1 30 i j = (if j < k then (p_nums B P).getD j 0 else P.nu.getD j 0) ∧ σ1 8 0 j = nI (P.na.getD j (0, 0)).2 ∧ (p_hn (P.op.getD j 0) → σ1 7 0 j = nI (P.na.getD j (0, 0)).1)) → n_W p l e s m [Value.ref (ad 3 0), Value.ref (ad 28 i)].toArray below meth c (cw D ca ad ae Ex) (d + 3) (fun rv σ' => rv = none ∧ CTg B i P σ σ') 2 [some (.ref (ad 3 0)), some (.ref (ad 28 i)), some (.int (nI k))] [] σ1 := by
    intro t
    induction t with
    | zero =>
      intro k σ1 hk hsc hF hL1 c9 c28 cc
      have hkn : k = P.op.length := by omega
      refine n_iload_n hC dX6_findTargets_2 rfl rfl ?_
      refine n_aload_n hC dX6_findTargets_3 rfl rfl ?_
      refine g28_size hC (by first | exact rfl | with_reducible assumption) wfX6_31 dX6_findTargets_4 ?_
      rw [c28]
      refine n_icmp_ge (tgt := 76) hC dX6_findTargets_7 (by decide) (fun h => ?_) (fun h => ?_)
      · refine n_vret hC dX6_findTargets_76 ?_
        exact ⟨rfl, hF, c28, Or.inr ⟨hsc, c9, fun j hj => ⟨(cc j hj).1, by rw [(cc j hj).2.1, if_pos (by omega)]⟩⟩⟩
      · exact absurd (nI_le (by omega) (by omega)) h
    | succ t ih =>
      intro k σ1 hk hsc hF hL1 c9 c28 cc
      have hkn : k < P.op.length := by omega
      obtain ⟨u1, u2, u3, u4⟩ := cc k hkn
      obtain ⟨k1, k2, k3, k4⟩ := a7 k hkn
      refine n_iload_n hC dX6_findTargets_2 rfl rfl ?_
      refine n_aload_n hC dX6_findTargets_3 rfl rfl ?_
      refine g28_size hC (by first | exact rfl | with_reducible assumption) wfX6_31 dX6_findTargets_4 ?_
      rw [c28]
      refine n_icmp_ge (tgt := 76) hC dX6_findTargets_7 (by decide) (fun h => ?_) (fun h => ?_)
      · exact absurd h (nI_ge (by omega) (by omega))
      · clear h
        refine n_aload_n hC dX6_findTargets_10 rfl rfl ?_
        refine g3_fault hC (by first | exact rfl | with_reducible assumption) wfX6_43 dX6_findTargets_11 ?_
        rw [c9]
        refine n_if_ne (tgt := 76) hC dX6_findTargets_14 (by decide) (fun h => ?_) (fun h => ?_)
        · exact absurd rfl h
        · clear h
          refine n_aload_n hC dX6_findTargets_17 rfl rfl ?_
          refine g3_nameSizes hC (by first | exact rfl | with_reducible assumption) wfX6_24 dX6_findTargets_18 ?_
          refine n_iload_n hC dX6_findTargets_21 rfl rfl ?_
          refine c_iald hC (by first | exact rfl | with_reducible assumption) (fun _ => rfl) (by first | exact vp_in_nI (by omega) (by decide) | with_reducible assumption) dX6_findTargets_22 ?_
          rw [nI_clamp (by omega), u3]
          refine n_if_le (tgt := 70) hC dX6_findTargets_23 (by decide) (fun h => ?_) (fun h => ?_)
          · have hnn : ¬ p_hn (P.op.getD k 0) := fun z => by
              have h2 := k3 z
              exact absurd h (nI_ge (a := 0) (by omega) (by omega))
            rw [p_scan_n (fun z => hnn z.1)] at hsc
            clear h
            refine n_iinc hC dX6_findTargets_70 rfl (show _ + Int32.ofInt 1 = _ + 1 from rfl) ?_
            refine n_goto (tgt := 2) hC dX6_findTargets_73 (by decide) ?_
            rw [nI_1]
            refine ih (k + 1) σ1 (by omega) hsc hF hL1 c9 c28 (fun j hj => ?_)
            obtain ⟨v1, v2, v3, v4⟩ := cc j hj
            refine ⟨v1, ?_, v3, v4⟩
            by_cases z : j = k
            · rw [v2, if_neg (by omega), if_pos (by omega), p_nums_at hj, z, if_neg hnn]
            · rw [v2]
              by_cases z2 : j < k
              · rw [if_pos z2, if_pos (by omega)]
              · rw [if_neg z2, if_neg (by omega)]
          · have hhn : p_hn (P.op.getD k 0) := by
              by_cases z : p_hn (P.op.getD k 0)
              · exact z
              · exact absurd (by rw [k4 z]; decide) h
            clear h
            have w7 := u4 hhn
            refine n_aload_n hC dX6_findTargets_26 rfl rfl ?_
            refine g28_numbers hC (by first | exact rfl | with_reducible assumption) wfX6_121 dX6_findTargets_27 ?_
            refine n_iload_n hC dX6_findTargets_30 rfl rfl ?_
            refine n_aload_n hC dX6_findTargets_31 rfl rfl ?_
            refine n_aload_n hC dX6_findTargets_32 rfl rfl ?_
            refine g3_namePlaces hC (by first | exact rfl | with_reducible assumption) wfX6_21 dX6_findTargets_33 ?_
            refine n_iload_n hC dX6_findTargets_36 rfl rfl ?_
            refine c_iald hC (by first | exact rfl | with_reducible assumption) (fun _ => rfl) (by first | exact vp_in_nI (by omega) (by decide) | with_reducible assumption) dX6_findTargets_37 ?_
            rw [nI_clamp (by omega), w7]
            refine n_aload_n hC dX6_findTargets_38 rfl rfl ?_
            refine g3_nameSizes hC (by first | exact rfl | with_reducible assumption) wfX6_24 dX6_findTargets_39 ?_
            refine n_iload_n hC dX6_findTargets_42 rfl rfl ?_
            refine c_iald hC (by first | exact rfl | with_reducible assumption) (fun _ => rfl) (by first | exact vp_in_nI (by omega) (by decide) | with_reducible assumption) dX6_findTargets_43 ?_
            rw [nI_clamp (by omega), u3]
            refine n_callV hC (c_targetOf d (P.na.getD k (0, 0)).1 (P.na.getD k (0, 0)).2 B P σ1 (hB.cf hF) hok hL1 k2) (Nat.le_refl _) (by decide) (by first | exact rfl | with_reducible assumption) rfl rfl rfl ⟨wmX6_124, wi_yX6_targetOf, wv_yX6_targetOf, wzX6, wc_yX6_targetOf⟩ hy_yX6_targetOf rfl (Nat.le_of_ble_eq_true rfl) dX6_findTargets_44 (fun rv σ' hpo => ?_)
            obtain ⟨hpo, hσ⟩ := hpo
            rw [hσ]
            rcases hpo with ⟨v, hv, q2, rfl⟩ | ⟨q2, rfl⟩
            · have hto : p_to B P k = some v := q2
              rw [p_scan_n (fun z => by rw [z.2] at hto; cases hto)] at hsc
              refine c_iast hC (by first | exact rfl | with_reducible assumption) (fun _ => rfl) (by first | exact vp_in_nI (by omega) (by decide) | with_reducible assumption) dX6_findTargets_47 ?_
              refine n_aload_n hC dX6_findTargets_48 rfl rfl ?_
              refine g28_numbers hC (by first | exact rfl | with_reducible assumption) wfX6_121 dX6_findTargets_49 ?_
              refine n_iload_n hC dX6_findTargets_52 rfl rfl ?_
              refine c_iald hC (by first | exact rfl | with_reducible assumption) (fun _ => rfl) (by first | exact vp_in_nI (by omega) (by decide) | with_reducible assumption) dX6_findTargets_53 ?_
              rw [nI_clamp (by omega), nu_e]
              refine n_iconst (v := -1) hC dX6_findTargets_54 (by decide) ?_
              refine n_icmp_ne (tgt := 70) hC dX6_findTargets_55 (by decide) (fun h => ?_) (fun h => ?_)
              · clear h
                refine n_iinc hC dX6_findTargets_70 rfl (show _ + Int32.ofInt 1 = _ + 1 from rfl) ?_
                refine n_goto (tgt := 2) hC dX6_findTargets_73 (by decide) ?_
                rw [nI_1]
                refine ih (k + 1) _ (by omega) hsc (hF.up (by unfold q_wr; omega)) (hL1.mv rfl (fun κ x u => nu_o (by omega))) ((nu_o (by omega)).trans c9) ((nu_o (by omega)).trans c28) (fun j hj => ?_)
                obtain ⟨v1, v2, v3, v4⟩ := cc j hj
                refine ⟨(nu_o (by omega)).trans v1, ?_, (nu_o (by omega)).trans v3, fun hn => (nu_o (by omega)).trans (v4 hn)⟩
                by_cases z : j = k
                · rw [z, nu_e, if_pos (by omega), p_nums_at hkn, if_pos hhn, hto]
                  rfl
                · rw [nu_o (by omega), v2]
                  by_cases z2 : j < k
                  · rw [if_pos z2, if_pos (by omega)]
                  · rw [if_neg z2, if_neg (by omega)]
              · exact absurd h (nI_nm1 (by omega))
            · have hto : p_to B P k = none := q2
              rw [p_scan_y ⟨hhn, hto⟩] at hsc
              refine c_iast hC (by first | exact rfl | with_reducible assumption) (fun _ => rfl) (by first | exact vp_in_nI (by omega) (by decide) | with_reducible assumption) dX6_findTargets_47 ?_
              refine n_aload_n hC dX6_findTargets_48 rfl rfl ?_
              refine g28_numbers hC (by first | exact rfl | with_reducible assumption) wfX6_121 dX6_findTargets_49 ?_
              refine n_iload_n hC dX6_findTargets_52 rfl rfl ?_
              refine c_iald hC (by first | exact rfl | with_reducible assumption) (fun _ => rfl) (by first | exact vp_in_nI (by omega) (by decide) | with_reducible assumption) dX6_findTargets_53 ?_
              rw [nI_clamp (by omega), nu_e]
              refine n_iconst (v := -1) hC dX6_findTargets_54 (by decide) ?_
              refine n_icmp_ne (tgt := 70) hC dX6_findTargets_55 (by decide) (fun h => ?_) (fun h => ?_)
              · exact absurd rfl h
              · clear h
                refine n_aload_n hC dX6_findTargets_58 rfl rfl ?_
                refine n_bipush (v := 6) hC dX6_findTargets_59 (by decide) ?_
                refine n_aload_n hC dX6_findTargets_61 rfl rfl ?_
                refine g3_namePlaces hC (by first | exact rfl | with_reducible assumption) wfX6_21 dX6_findTargets_62 ?_
                refine n_iload_n hC dX6_findTargets_65 rfl rfl ?_
                refine c_iald hC (by first | exact rfl | with_reducible assumption) (fun _ => rfl) (by first | exact vp_in_nI (by omega) (by decide) | with_reducible assumption) dX6_findTargets_66 ?_
                rw [nI_clamp (by omega), nu_o (by omega), w7]
                refine n_callV hC (c_blame (d + 2) 6 (nI (P.na.getD k (0, 0)).1) _) (Nat.le_refl _) (by decide) (by first | exact rfl | with_reducible assumption) rfl rfl rfl ⟨wmX6_65, wi_yX6_blame, wv_yX6_blame, wzX6, wc_yX6_blame⟩ hy_yX6_blame rfl (Nat.le_of_ble_eq_true rfl) dX6_findTargets_67 (fun rv σ' hpo => ?_)
                obtain ⟨rfl, hσ⟩ := hpo
                rw [hσ]
                refine n_iinc hC dX6_findTargets_70 rfl (show _ + Int32.ofInt 1 = _ + 1 from rfl) ?_
                refine n_goto (tgt := 2) hC dX6_findTargets_73 (by decide) ?_
                rw [nI_1]
                refine bad _ k (k + 1) (((hF.up (by unfold q_wr; omega)).up (by unfold q_wr; omega)).up (by unfold q_wr; omega)) ?_ hsc ?_ (nu_e _ _ _ _ _)
                · rw [nu_o (by omega), nu_o (by omega), nu_o (by omega), c28]
                · rw [nu_o (by omega), nu_e]
  refine n_iconst (v := 0) hC dX6_findTargets_0 (by decide) ?_
  refine n_istore_n hC dX6_findTargets_1 rfl (Nat.le_of_ble_eq_true rfl) ?_
  exact loop P.op.length 0 σ (by omega) rfl (CF.refl i σ) hL h9 hP.1 (fun j hj => ⟨(hP.2 j hj).1, by rw [if_neg (by omega)]; exact (hP.2 j hj).2.1, (hP.2 j hj).2.2.1, (hP.2 j hj).2.2.2⟩)
theorem c_read (hX : ∀ U H, Ex U H → cE ad ae ts U H) (hS : ∀ U H, Ex U H → sX ad ae sk sv ta sf U H) (d i : Nat) (B : List Int32) (σ : n_S) (hi : i < 12) (hB : CT B σ) (hY : BY B) : n_Ct l (cw D ca ad ae Ex) (d + 9) yX6_read cX6_read 3 none [.ref (ad 3 0), .ref (ad 28 i)] σ (fun rv σ' => rv = none ∧ CZ B i σ σ') := by
  have hd28 : cw_dom 28 i := hi
  have hlen := hB.2.1
  refine n_ofW (by decide) (Nat.le_of_ble_eq_true rfl) ?_
  intro p e s m below meth c hC
  -- a fault stands
  have bad59 : ∀ (σ1 : n_S) (f : Nat × Nat) (w : Option Value), CF i σ σ1 → (∃ L, L ≤ 256 ∧ σ1 28 i 2 = nI L) → p_all B = .inl f → σ1 3 0 9 = nI f.1 → σ1 3 0 10 = nI f.2 → 1 ≤ f.1 → f.1 ≤ 7 → n_W p l e s m [Value.ref (ad 3 0), Value.ref (ad 28 i)].toArray below meth c (cw D ca ad ae Ex) (d + 9) (fun rv σ' => rv = none ∧ CZ B i σ σ') 59 [some (.ref (ad 3 0)), some (.ref (ad 28 i)), w] [] σ1 := by
    intro σ1 f w f1 fL f2 f9 f10 fa fb
    have hne : nI f.1 ≠ 0 := fun z => by
      have := (nI_eq (b := 0) (by omega) (by omega)).mp z
      omega
    refine n_aload_n hC dX6_read_59 rfl rfl ?_
    refine g3_fault hC (by first | exact rfl | with_reducible assumption) wfX6_43 dX6_read_60 ?_
    rw [f9]
    refine n_if_ne (tgt := 71) hC dX6_read_63 (by decide) (fun h => ?_) (fun h => ?_)
    · clear h
      refine n_aload_n hC dX6_read_71 rfl rfl ?_
      refine g3_fault hC (by first | exact rfl | with_reducible assumption) wfX6_43 dX6_read_72 ?_
      rw [f9]
      refine n_if_ne (tgt := 98) hC dX6_read_75 (by decide) (fun h => ?_) (fun h => ?_)
      · refine n_vret hC dX6_read_98 ?_
        exact ⟨rfl, f1, fL, Or.inl ⟨f, f2, f9, f10, fa, fb⟩⟩
      · exact absurd h hne
    · exact absurd h hne
  -- all words are read
  have good59 : ∀ (σ1 : n_S) (P : p_P) (w : Option Value), p_ok B P → p_all B = p_res B P → CF i σ σ1 → CL P σ1 → CC i P σ1 → σ1 3 0 9 = 0 → n_W p l e s m [Value.ref (ad 3 0), Value.ref (ad 28 i)].toArray below meth c (cw D ca ad ae Ex) (d + 9) (fun rv σ' => rv = none ∧ CZ B i σ σ') 59 [some (.ref (ad 3 0)), some (.ref (ad 28 i)), w] [] σ1 := by
    intro σ1 P w hok hall hF hL hP h9
    obtain ⟨a1, a2, a3, a4, a5, a6, a7⟩ := id hok
    refine n_aload_n hC dX6_read_59 rfl rfl ?_
    refine g3_fault hC (by first | exact rfl | with_reducible assumption) wfX6_43 dX6_read_60 ?_
    rw [h9]
    refine n_if_ne (tgt := 71) hC dX6_read_63 (by decide) (fun h => ?_) (fun h => ?_)
    · exact absurd rfl h
    · clear h
      refine n_aload_n hC dX6_read_66 rfl rfl ?_
      refine n_aload_n hC dX6_read_67 rfl rfl ?_
      refine n_callV hC (c_findTargets (d + 5) i B P σ1 hi (hB.cf hF) hok hL hP h9) (Nat.le_refl _) (by decide) (by first | exact rfl | with_reducible assumption) rfl rfl rfl ⟨wmX6_57, wi_yX6_findTargets, wv_yX6_findTargets, wzX6, wc_yX6_findTargets⟩ hy_yX6_findTargets rfl (Nat.le_of_ble_eq_true rfl) dX6_read_68 (fun rv σ2 hpo => ?_)
      obtain ⟨rfl, g1, g28, hpo⟩ := hpo
      rcases hpo with ⟨j, g2, g9, g10⟩ | ⟨g2, g9, gj⟩
      · rw [p_res_b g2] at hall
        refine n_aload_n hC dX6_read_71 rfl rfl ?_
        refine g3_fault hC (by first | exact rfl | with_reducible assumption) wfX6_43 dX6_read_72 ?_
        rw [g9]
        refine n_if_ne (tgt := 98) hC dX6_read_75 (by decide) (fun h => ?_) (fun h => ?_)
        · refine n_vret hC dX6_read_98 ?_
          exact ⟨rfl, hF.trans g1, ⟨_, a2, g28⟩, Or.inl ⟨_, hall, g9, g10, by omega, by omega⟩⟩
        · exact absurd h (by decide)
      · unfold p_res at hall
        rw [g2] at hall
        simp only at hall
        refine n_aload_n hC dX6_read_71 rfl rfl ?_
        refine g3_fault hC (by first | exact rfl | with_reducible assumption) wfX6_43 dX6_read_72 ?_
        rw [g9]
        refine n_if_ne (tgt := 98) hC dX6_read_75 (by decide) (fun h => ?_) (fun h => ?_)
        · exact absurd rfl h
        · clear h
          refine n_aload_n hC dX6_read_78 rfl rfl ?_
          refine g28_size hC (by first | exact rfl | with_reducible assumption) wfX6_31 dX6_read_79 ?_
          rw [g28]
          refine n_if_ne (tgt := 98) hC dX6_read_82 (by decide) (fun h => ?_) (fun h => ?_)
          · have hn0 : ¬ P.op.length = 0 := fun z => h (by rw [z]; rfl)
            rw [if_neg hn0] at hall
            refine n_vret hC dX6_read_98 ?_
            refine ⟨rfl, hF.trans g1, ⟨_, a2, g28⟩, Or.inr ⟨_, _, hall, g9, by rw [List.length_map]; exact g28, fun j hj => ?_⟩⟩
            rw [List.length_map] at hj
            rw [p_ops_at hj]
            exact gj j hj
          · have hn0 : P.op.length = 0 := (nI_eq (b := 0) (by omega) (by omega)).mp h
            rw [if_pos hn0] at hall
            clear h
            refine n_aload_n hC dX6_read_85 rfl rfl ?_
            refine n_bipush (v := 7) hC dX6_read_86 (by decide) ?_
            refine n_aload_n hC dX6_read_88 rfl rfl ?_
            refine g3_tape hC (by first | exact rfl | with_reducible assumption) wfX6_27 dX6_read_89 ?_
            refine g1_length hC (by first | exact rfl | with_reducible assumption) wfX6_60 dX6_read_92 ?_
            rw [(hB.cf (hF.trans g1)).1]
            refine n_callV hC (c_blame (d + 8) 7 (nI B.length) σ2) (Nat.le_refl _) (by decide) (by first | exact rfl | with_reducible assumption) rfl rfl rfl ⟨wmX6_65, wi_yX6_blame, wv_yX6_blame, wzX6, wc_yX6_blame⟩ hy_yX6_blame rfl (Nat.le_of_ble_eq_true rfl) dX6_read_95 (fun rv σ' hpo => ?_)
            obtain ⟨rfl, hσ⟩ := hpo
            rw [hσ]
            refine n_vret hC dX6_read_98 ?_
            refine ⟨rfl, ((hF.trans g1).up (by unfold q_wr; omega)).up (by unfold q_wr; omega), ⟨_, a2, by rw [nu_o (by omega), nu_o (by omega), g28]⟩, Or.inl ⟨_, hall, ?_, nu_e _ _ _ _ _, by omega, by omega⟩⟩
            rw [nu_o (by omega), nu_e]
            rfl
  have words : ∀ (n w : Nat) (P : p_P) (pos : Nat) (σ1 : n_S), p_ok B P → pos ≤ B.length → B.length ≤ n + pos → w + n = B.length → p_words B B.length ([], [], [], []) 0 = p_words B n P pos → CF i σ σ1 → σ1 3 0 9 = 0 → CL P σ1 → CC i P σ1 → σ1 3 0 8 = nI pos → n_W p l e s m [Value.ref (ad 3 0), Value.ref (ad 28 i)].toArray below meth c (cw D ca ad ae Ex) (d + 9) (fun rv σ' => rv = none ∧ CZ B i σ σ') 27 [some (.ref (ad 3 0)), some (.ref (ad 28 i)), some (.int (nI w))] [] σ1 := by
    intro n
    -- no word is left
    have stop : ∀ (w : Nat) (P : p_P) (pos : Nat) (σ1 : n_S), p_ok B P → pos ≤ B.length → ¬ p_skip B pos < B.length → p_words B B.length ([], [], [], []) 0 = .inr P → CF i σ σ1 → σ1 3 0 9 = 0 → CL P σ1 → CC i P σ1 → σ1 3 0 8 = nI pos → n_W p l e s m [Value.ref (ad 3 0), Value.ref (ad 28 i)].toArray below meth c (cw D ca ad ae Ex) (d + 9) (fun rv σ' => rv = none ∧ CZ B i σ σ') 27 [some (.ref (ad 3 0)), some (.ref (ad 28 i)), some (.int (nI w))] [] σ1 := by
      intro w P pos σ1 hok hpos hge hw hF h9 hL hP h8
      have s1 := p_skip_le hpos
      have hall : p_all B = p_res B P := by
        unfold p_all
        rw [hw]
      refine n_iload_n hC dX6_read_27 rfl rfl ?_
      refine n_sipush (v := 8192) hC dX6_read_28 (by decide) ?_
      refine n_icmp_ge (tgt := 59) hC dX6_read_31 (by decide) (fun h => ?_) (fun h => ?_)
      · exact good59 σ1 P _ hok hall hF hL hP h9
      · clear h
        refine n_aload_n hC dX6_read_34 rfl rfl ?_
        refine g3_fault hC (by first | exact rfl | with_reducible assumption) wfX6_43 dX6_read_35 ?_
        rw [h9]
        refine n_if_ne (tgt := 59) hC dX6_read_38 (by decide) (fun h => ?_) (fun h => ?_)
        · exact absurd rfl h
        · clear h
          refine n_aload_n hC dX6_read_41 rfl rfl ?_
          refine n_callV hC (c_findWord (d + 6) pos B σ1 (hB.cf hF) hpos h8) (Nat.le_refl _) (by decide) (by first | exact rfl | with_reducible assumption) rfl rfl rfl ⟨wmX6_49, wi_yX6_findWord, wv_yX6_findWord, wzX6, wc_yX6_findWord⟩ hy_yX6_findWord rfl (Nat.le_of_ble_eq_true rfl) dX6_read_42 (fun rv σ2 hpo => ?_)
          obtain ⟨hpo, g1, g7, g8⟩ := hpo
          rcases hpo with ⟨q, rfl⟩ | ⟨q, rfl⟩
          · exfalso
            rw [p_wend_end (by omega)] at q
            omega
          · refine n_if_eq (tgt := 59) hC dX6_read_45 (by decide) (fun h => ?_) (fun h => ?_)
            · exact good59 σ2 P _ hok hall (hF.trans g1.cf) (hL.mv rfl (fun κ x u => g1 κ 0 x (by omega))) (hP.mv rfl rfl rfl (fun κ y x u => g1 κ y x (by omega))) ((g1 3 0 9 (by omega)).trans h9)
            · exact absurd rfl h
    induction n with
    | zero =>
      intro w P pos σ1 hok hpos hn hwn hw hF h9 hL hP h8
      have s1 := p_skip_le hpos
      exact stop w P pos σ1 hok hpos (by omega) hw hF h9 hL hP h8
    | succ n ih =>
      intro w P pos σ1 hok hpos hn hwn hw hF h9 hL hP h8
      have s1 := p_skip_le hpos
      have s2 := p_wend_le s1.2
      by_cases hlt : p_skip B pos < B.length
      · have s3 := p_wend_gt hlt (p_skip_nb hpos hlt)
        refine n_iload_n hC dX6_read_27 rfl rfl ?_
        refine n_sipush (v := 8192) hC dX6_read_28 (by decide) ?_
        refine n_icmp_ge (tgt := 59) hC dX6_read_31 (by decide) (fun h => ?_) (fun h => ?_)
        · exact absurd h (nI_ge (b := 8192) (by omega) (by omega))
        · clear h
          refine n_aload_n hC dX6_read_34 rfl rfl ?_
          refine g3_fault hC (by first | exact rfl | with_reducible assumption) wfX6_43 dX6_read_35 ?_
          rw [h9]
          refine n_if_ne (tgt := 59) hC dX6_read_38 (by decide) (fun h => ?_) (fun h => ?_)
          · exact absurd rfl h
          · clear h
            refine n_aload_n hC dX6_read_41 rfl rfl ?_
            refine n_callV hC (c_findWord (d + 6) pos B σ1 (hB.cf hF) hpos h8) (Nat.le_refl _) (by decide) (by first | exact rfl | with_reducible assumption) rfl rfl rfl ⟨wmX6_49, wi_yX6_findWord, wv_yX6_findWord, wzX6, wc_yX6_findWord⟩ hy_yX6_findWord rfl (Nat.le_of_ble_eq_true rfl) dX6_read_42 (fun rv σ2 hpo => ?_)
            obtain ⟨hpo, g1, g7, g8⟩ := hpo
            rcases hpo with ⟨q, rfl⟩ | ⟨q, rfl⟩
            · have hF2 : CF i σ σ2 := hF.trans g1.cf
              refine n_if_eq (tgt := 59) hC dX6_read_45 (by decide) (fun h => ?_) (fun h => ?_)
              · exact absurd h (by decide)
              · clear h
                refine n_aload_n hC dX6_read_48 rfl rfl ?_
                refine n_aload_n hC dX6_read_49 rfl rfl ?_
                refine n_callV hC (c_readWord hX hS d i (p_skip B pos) (p_wend B (p_skip B pos)) B P σ2 hi (hB.cf hF2) hY hok (hL.mv rfl (fun κ x u => g1 κ 0 x (by omega))) (hP.mv rfl rfl rfl (fun κ y x u => g1 κ y x (by omega))) ((g1 3 0 9 (by omega)).trans h9) g7 g8 s3 s2.2) (Nat.le_refl _) (by decide) (by first | exact rfl | with_reducible assumption) rfl rfl rfl ⟨wmX6_53, wi_yX6_readWord, wv_yX6_readWord, wzX6, wc_yX6_readWord⟩ hy_yX6_readWord rfl (Nat.le_of_ble_eq_true rfl) dX6_read_50 (fun rv σ3 hpo => ?_)
                obtain ⟨rfl, g2, gL, hpo⟩ := hpo
                rcases hpo with ⟨f, e1, e9, e10, ea, eb⟩ | ⟨P', b', e1, e9, eL, eC, e8⟩
                · rw [p_words_f hlt e1] at hw
                  have hall : p_all B = .inl f := by
                    unfold p_all
                    rw [hw]
                  have hne : nI f.1 ≠ 0 := fun z => by
                    have := (nI_eq (b := 0) (by omega) (by omega)).mp z
                    omega
                  refine n_iinc hC dX6_read_53 rfl (show _ + Int32.ofInt 1 = _ + 1 from rfl) ?_
                  refine n_goto (tgt := 27) hC dX6_read_56 (by decide) ?_
                  refine n_iload_n hC dX6_read_27 rfl rfl ?_
                  refine n_sipush (v := 8192) hC dX6_read_28 (by decide) ?_
                  refine n_icmp_ge (tgt := 59) hC dX6_read_31 (by decide) (fun h => ?_) (fun h => ?_)
                  · exact bad59 σ3 f _ (hF2.trans g2) gL hall e9 e10 ea eb
                  · clear h
                    refine n_aload_n hC dX6_read_34 rfl rfl ?_
                    refine g3_fault hC (by first | exact rfl | with_reducible assumption) wfX6_43 dX6_read_35 ?_
                    rw [e9]
                    refine n_if_ne (tgt := 59) hC dX6_read_38 (by decide) (fun h => ?_) (fun h => ?_)
                    · exact bad59 σ3 f _ (hF2.trans g2) gL hall e9 e10 ea eb
                    · exact absurd h hne
                · rw [p_words_r hlt e1] at hw
                  obtain ⟨k1, k2, k3⟩ := p_ok_stp hok s3 s2.2 e1
                  refine n_iinc hC dX6_read_53 rfl (show _ + Int32.ofInt 1 = _ + 1 from rfl) ?_
                  refine n_goto (tgt := 27) hC dX6_read_56 (by decide) ?_
                  rw [nI_1]
                  exact ih (w + 1) P' b' σ3 k1 k3 (by omega) (by omega) hw (hF2.trans g2) e9 eL eC e8
            · exact absurd s3 q
      · rw [p_words_e hlt] at hw
        exact stop w P pos σ1 hok hpos hlt hw hF h9 hL hP h8
  refine n_aload_n hC dX6_read_0 rfl rfl ?_
  refine n_iconst (v := 0) hC dX6_read_1 (by decide) ?_
  refine p28_size hC (by first | exact rfl | with_reducible assumption) wfX6_31 dX6_read_2 ?_
  refine n_aload_n hC dX6_read_5 rfl rfl ?_
  refine n_iconst (v := 0) hC dX6_read_6 (by decide) ?_
  refine p3_labels hC (by first | exact rfl | with_reducible assumption) wfX6_37 dX6_read_7 ?_
  refine n_aload_n hC dX6_read_10 rfl rfl ?_
  refine n_iconst (v := 0) hC dX6_read_11 (by decide) ?_
  refine p3_stop hC (by first | exact rfl | with_reducible assumption) wfX6_40 dX6_read_12 ?_
  refine n_aload_n hC dX6_read_15 rfl rfl ?_
  refine n_iconst (v := 0) hC dX6_read_16 (by decide) ?_
  refine p3_fault hC (by first | exact rfl | with_reducible assumption) wfX6_43 dX6_read_17 ?_
  refine n_aload_n hC dX6_read_20 rfl rfl ?_
  refine n_iconst (v := 0) hC dX6_read_21 (by decide) ?_
  refine p3_faultPlace hC (by first | exact rfl | with_reducible assumption) wfX6_46 dX6_read_22 ?_
  refine n_iconst (v := 0) hC dX6_read_25 (by decide) ?_
  refine n_istore_n hC dX6_read_26 rfl (Nat.le_of_ble_eq_true rfl) ?_
  refine words B.length 0 ([], [], [], []) 0 _ (p_ok_0 B) (Nat.zero_le _) (by omega) (by omega) rfl ((((((CF.refl i σ).up (by unfold q_wr; omega)).up (by unfold q_wr; omega)).up (by unfold q_wr; omega)).up (by unfold q_wr; omega)).up (by unfold q_wr; omega)) ?_ ⟨?_, fun j hj => ?_⟩ ⟨?_, fun j hj => ?_⟩ ?_
  · rw [nu_o (by omega), nu_e]
  · rw [nu_o (by omega), nu_o (by omega), nu_o (by omega), nu_e]
    rfl
  · exact absurd hj (Nat.not_lt_zero _)
  · rw [nu_o (by omega), nu_o (by omega), nu_o (by omega), nu_o (by omega), nu_e]
    rfl
  · exact absurd hj (Nat.not_lt_zero _)
  · rw [nu_o (by omega), nu_o (by omega), nu_e]
    rfl
end CR4
