section RFD
variable {l : Launch} {D : va_G} {ca : Nat → ClassId} {ad : Nat → Nat → Nat} {Ex : State → Heap → Prop}
theorem x_feed (d : Nat) (a b c0 d0 e0 : Int32) (M : n_M) (τ : n_S) (hR : RepR M τ) : n_Ct l (rw D ca ad Ex) d yX12_feed cX12_feed 8 (some .int) [.ref (ad 0 0), .int a, .int b, .int c0, .int d0, .int e0] τ (fun rv τ' => rv = some (.int (u_feed M a b c0 d0 e0).2.1) ∧ τ' 0 0 2 = (u_feed M a b c0 d0 e0).1 ∧ RepR (u_feed M a b c0 d0 e0).2.2 τ') := by
  obtain ⟨e1, h1, h3⟩ := hR.rq.tap
  refine n_ofW (by decide) (Nat.le_of_ble_eq_true rfl) ?_
  intro p e s m below meth c hC
  refine n_aload_n hC dX12_feed_0 rfl rfl ?_
  refine n_aload_n hC dX12_feed_1 rfl rfl ?_
  refine gm_size hC wfX12_227 dX12_feed_2 ?_
  rw [e1]
  refine n_bipush (v := 20) hC dX12_feed_5 (by decide) ?_
  refine n_iadd hC dX12_feed_7 ?_
  rw [show nI (M.2 8 0).length + 20 = nI ((M.2 8 0).length + 20) from nI_add (M.2 8 0).length 20]
  refine n_sipush (v := 8192) hC dX12_feed_8 (by decide) ?_
  refine n_icmp_le (tgt := 18) hC dX12_feed_11 (by decide) (fun h => ?_) (fun h => ?_)
  · have hle : (M.2 8 0).length + 20 ≤ 8192 := (nI_leI (b := 8192) (by omega) (by omega)).mp h
    clear h
    have ee : u_feed M a b c0 d0 e0 = (0, nI ((M.2 8 0).length + 20), m_l M 8 0 (M.2 8 0 ++ (List.range 20).map (m_fb a b c0 d0 e0))) := if_pos hle
    rw [ee]
    have hc := hR.code 0
    have loop : ∀ (t k : Nat) (τ1 : n_S) (w : Option Value), t + k = 20 → RQ (n_up τ 0 0 2 0) (m_l M 8 0 (M.2 8 0 ++ (List.range k).map (m_fb a b c0 d0 e0))) τ1 → n_W p l e s m [Value.ref (ad 0 0), Value.int a, Value.int b, Value.int c0, Value.int d0, Value.int e0].toArray below meth c (rw D ca ad Ex) d (fun rv τ' => rv = some (.int ((0 : Int32), nI ((M.2 8 0).length + 20), m_l M 8 0 (M.2 8 0 ++ (List.range 20).map (m_fb a b c0 d0 e0))).2.1) ∧ τ' 0 0 2 = ((0 : Int32), nI ((M.2 8 0).length + 20), m_l M 8 0 (M.2 8 0 ++ (List.range 20).map (m_fb a b c0 d0 e0))).1 ∧ RepR ((0 : Int32), nI ((M.2 8 0).length + 20), m_l M 8 0 (M.2 8 0 ++ (List.range 20).map (m_fb a b c0 d0 e0))).2.2 τ') 34 [some (.ref (ad 0 0)), some (.int a), some (.int b), some (.int c0), some (.int d0), some (.int e0), some (.int (nI k)), w] [] τ1 := by
      intro t
      induction t with
      | zero =>
        intro k τ1 w hk hQ
        have : k = 20 := by omega
        subst this
        obtain ⟨t1, t2, t3⟩ := hQ.tap
        rw [ml_e, List.length_append, List.length_map, List.length_range] at t1
        refine n_iload hC dX12_feed_34 rfl ?_
        refine n_bipush (v := 20) hC dX12_feed_36 (by decide) ?_
        refine n_icmp_ge (tgt := 128) hC dX12_feed_38 (by decide) (fun h => ?_) (fun h => ?_)
        · refine n_aload_n hC dX12_feed_128 rfl rfl ?_
          refine gm_size hC wfX12_227 dX12_feed_129 ?_
          rw [t1]
          refine n_iret hC dX12_feed_132 ?_
          exact ⟨rfl, hQ.2.2.2.trans (n_up_e _ _ _ _), hQ.1, RF_cong hc.2 (fun i _ => rfl) (fun y => hQ.2.1 y)⟩
        · exact absurd (by decide) h
      | succ t ih =>
        intro k τ1 w hk hQ
        obtain ⟨t1, t2, t3⟩ := hQ.tap
        rw [ml_e, List.length_append, List.length_map, List.length_range] at t1 t2 t3
        have at87 : ∀ v : Int32, v = (if k < 4 then a else if k < 8 then b else if k < 12 then c0 else if k < 16 then d0 else e0) → n_W p l e s m [Value.ref (ad 0 0), Value.int a, Value.int b, Value.int c0, Value.int d0, Value.int e0].toArray below meth c (rw D ca ad Ex) d (fun rv τ' => rv = some (.int ((0 : Int32), nI ((M.2 8 0).length + 20), m_l M 8 0 (M.2 8 0 ++ (List.range 20).map (m_fb a b c0 d0 e0))).2.1) ∧ τ' 0 0 2 = ((0 : Int32), nI ((M.2 8 0).length + 20), m_l M 8 0 (M.2 8 0 ++ (List.range 20).map (m_fb a b c0 d0 e0))).1 ∧ RepR ((0 : Int32), nI ((M.2 8 0).length + 20), m_l M 8 0 (M.2 8 0 ++ (List.range 20).map (m_fb a b c0 d0 e0))).2.2 τ') 87 [some (.ref (ad 0 0)), some (.int a), some (.int b), some (.int c0), some (.int d0), some (.int e0), some (.int (nI k)), w] [.int v] τ1 := by
          intro v hv
          refine n_istore hC dX12_feed_87 (Nat.le_of_ble_eq_true rfl) ?_
          refine n_aload_n hC dX12_feed_89 rfl rfl ?_
          refine gm_tape hC wfX12_105 dX12_feed_90 ?_
          refine n_aload_n hC dX12_feed_93 rfl rfl ?_
          refine gm_size hC wfX12_227 dX12_feed_94 ?_
          rw [t1]
          refine n_iload hC dX12_feed_97 rfl ?_
          refine n_bipush (v := 24) hC dX12_feed_99 (by decide) ?_
          refine n_bipush (v := 8) hC dX12_feed_101 (by decide) ?_
          refine n_iload hC dX12_feed_103 rfl ?_
          refine n_iconst (v := 3) hC dX12_feed_105 (by decide) ?_
          refine n_iand hC dX12_feed_106 ?_
          refine n_imul hC dX12_feed_107 ?_
          refine n_isub hC dX12_feed_108 ?_
          refine n_ishr hC dX12_feed_109 ?_
          refine n_i2b hC dX12_feed_110 rfl ?_
          first | refine r_stb hC rfl (fun _ h => h) (fun _ => rfl) (by decide) (by first | omega | with_reducible assumption) dX12_feed_111 ?_ | refine r_stz hC rfl (fun _ h => h) (fun _ => rfl) (by decide) (by first | omega | with_reducible assumption) rfl dX12_feed_111 ?_
          refine n_aload_n hC dX12_feed_112 rfl rfl ?_
          refine n_dup hC dX12_feed_113 rfl ?_
          refine gm_size hC wfX12_227 dX12_feed_114 ?_
          rw [n_up_o (by omega), t1]
          refine n_iconst (v := 1) hC dX12_feed_117 (by decide) ?_
          refine n_iadd hC dX12_feed_118 ?_
          rw [nI_1]
          refine pm_size hC wfX12_227 dX12_feed_119 ?_
          refine n_iinc hC dX12_feed_122 rfl (show _ + Int32.ofInt 1 = _ + 1 from rfl) ?_
          refine n_goto (tgt := 34) hC dX12_feed_125 (by decide) ?_
          rw [nI_1]
          have g := rql_8 (τ' := n_up (n_up τ1 4 0 ((M.2 8 0).length + k) (m_fb a b c0 d0 e0 k)) 0 0 4 (nI ((M.2 8 0).length + k + 1))) (l0 := (M.2 8 0 ++ (List.range k).map (m_fb a b c0 d0 e0)) ++ [m_fb a b c0 d0 e0 k]) hQ (fun κ y u1 u2 => by rw [n_up_o (by omega), n_up_o (by omega)]) (by rw [n_up_e, len1, List.length_append, List.length_map, List.length_range]) (by rw [len1, List.length_append, List.length_map, List.length_range]; omega) (fun j hj => by
            rw [len1, List.length_append, List.length_map, List.length_range] at hj
            rw [n_up_o (by omega)]
            by_cases z : j = (M.2 8 0).length + k
            · rw [z, n_up_e]
              have := getD_snoc_e (M.2 8 0 ++ (List.range k).map (m_fb a b c0 d0 e0)) (m_fb a b c0 d0 e0 k) 0
              rw [List.length_append, List.length_map, List.length_range] at this
              exact this.symm
            · rw [n_up_o (by omega), t3 j (by omega), getD_snoc_l _ _ _ (by rw [List.length_append, List.length_map, List.length_range]; omega)])
          rw [ml_ml, List.append_assoc, show (List.range k).map (m_fb a b c0 d0 e0) ++ [m_fb a b c0 d0 e0 k] = (List.range (k + 1)).map (m_fb a b c0 d0 e0) from by rw [List.range_succ, List.map_append]; rfl] at g
          refine ih (k + 1) _ _ (by omega) ?_
          have e5 : m_fb a b c0 d0 e0 k = (v >>> ((24 - 8 * (nI k &&& 3)) &&& 31)).toInt8.toInt32.toInt8.toInt32 := by
            rw [hv]
            rfl
          rw [e5] at g
          exact g
        refine n_iload hC dX12_feed_34 rfl ?_
        refine n_bipush (v := 20) hC dX12_feed_36 (by decide) ?_
        refine n_icmp_ge (tgt := 128) hC dX12_feed_38 (by decide) (fun h => ?_) (fun h => ?_)
        · exact absurd h (nI_ge (b := 20) (by omega) (by decide))
        · clear h
          refine n_iload hC dX12_feed_41 rfl ?_
          refine n_iconst (v := 4) hC dX12_feed_43 (by decide) ?_
          refine n_icmp_ge (tgt := 51) hC dX12_feed_44 (by decide) (fun h => ?_) (fun h => ?_)
          · have h4 := (nI_leI (a := 4) (by omega) (by omega)).mp h
            clear h
            refine n_iload hC dX12_feed_51 rfl ?_
            refine n_bipush (v := 8) hC dX12_feed_53 (by decide) ?_
            refine n_icmp_ge (tgt := 62) hC dX12_feed_55 (by decide) (fun h => ?_) (fun h => ?_)
            · have h8 := (nI_leI (a := 8) (by omega) (by omega)).mp h
              clear h
              refine n_iload hC dX12_feed_62 rfl ?_
              refine n_bipush (v := 12) hC dX12_feed_64 (by decide) ?_
              refine n_icmp_ge (tgt := 73) hC dX12_feed_66 (by decide) (fun h => ?_) (fun h => ?_)
              · have h12 := (nI_leI (a := 12) (by omega) (by omega)).mp h
                clear h
                refine n_iload hC dX12_feed_73 rfl ?_
                refine n_bipush (v := 16) hC dX12_feed_75 (by decide) ?_
                refine n_icmp_ge (tgt := 85) hC dX12_feed_77 (by decide) (fun h => ?_) (fun h => ?_)
                · have h16 := (nI_leI (a := 16) (by omega) (by omega)).mp h
                  clear h
                  refine n_iload hC dX12_feed_85 rfl ?_
                  exact at87 e0 (by rw [if_neg (by omega), if_neg (by omega), if_neg (by omega), if_neg (by omega)])
                · have h16 : ¬ 16 ≤ k := fun z => h (nI_le z (by omega))
                  refine n_iload hC dX12_feed_80 rfl ?_
                  refine n_goto (tgt := 87) hC dX12_feed_82 (by decide) ?_
                  exact at87 d0 (by rw [if_neg (by omega), if_neg (by omega), if_neg (by omega), if_pos (by omega)])
              · have h12 : ¬ 12 ≤ k := fun z => h (nI_le z (by omega))
                refine n_iload_n hC dX12_feed_69 rfl rfl ?_
                refine n_goto (tgt := 87) hC dX12_feed_70 (by decide) ?_
                exact at87 c0 (by rw [if_neg (by omega), if_neg (by omega), if_pos (by omega)])
            · have h8 : ¬ 8 ≤ k := fun z => h (nI_le z (by omega))
              refine n_iload_n hC dX12_feed_58 rfl rfl ?_
              refine n_goto (tgt := 87) hC dX12_feed_59 (by decide) ?_
              exact at87 b (by rw [if_neg (by omega), if_pos (by omega)])
          · have h4 : ¬ 4 ≤ k := fun z => h (nI_le z (by omega))
            refine n_iload_n hC dX12_feed_47 rfl rfl ?_
            refine n_goto (tgt := 87) hC dX12_feed_48 (by decide) ?_
            exact at87 a (by rw [if_pos (by omega)])
    refine n_iconst (v := 0) hC dX12_feed_18 (by decide) ?_
    refine pm_code hC wfX12_1 dX12_feed_19 ?_
    refine n_aload_n hC dX12_feed_22 rfl rfl ?_
    refine gm_code hC wfX12_1 dX12_feed_23 ?_
    rw [n_up_e]
    refine n_if_le (tgt := 31) hC dX12_feed_26 (by decide) (fun h => ?_) (fun h => ?_)
    · refine n_iconst (v := 0) hC dX12_feed_31 (by decide) ?_
      refine n_istore hC dX12_feed_32 (Nat.le_of_ble_eq_true rfl) ?_
      refine loop 20 0 _ none rfl ?_
      rw [show M.2 8 0 ++ (List.range 0).map (m_fb a b c0 d0 e0) = M.2 8 0 from by simp, ml_id rfl]
      exact hc.rq
    · exact absurd (by decide) h
  · have hno : ¬ (M.2 8 0).length + 20 ≤ 8192 := fun z => h (nI_le (b := 8192) z (by omega))
    have ee : u_feed M a b c0 d0 e0 = (1, 0, M) := if_neg hno
    rw [ee]
    refine n_iconst (v := 1) hC dX12_feed_14 (by decide) ?_
    refine n_goto (tgt := 19) hC dX12_feed_15 (by decide) ?_
    refine pm_code hC wfX12_1 dX12_feed_19 ?_
    refine n_aload_n hC dX12_feed_22 rfl rfl ?_
    refine gm_code hC wfX12_1 dX12_feed_23 ?_
    rw [n_up_e]
    refine n_if_le (tgt := 31) hC dX12_feed_26 (by decide) (fun h => ?_) (fun h => ?_)
    · exact absurd h (by decide)
    · refine n_iconst (v := 0) hC dX12_feed_29 (by decide) ?_
      refine n_iret hC dX12_feed_30 ?_
      exact ⟨rfl, n_up_e _ _ _ _, hR.code 1⟩
end RFD
