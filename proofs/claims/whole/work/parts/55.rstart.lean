/-- a program slot's text in the reference -/
def r_pc (M : n_M) (τ : n_S) (i : Nat) : Prop := τ 10 0 i = nI (M.2 12 i).length ∧ ∀ j, j < (M.2 12 i).length → τ 8 0 (256 * i + j) = nI (r_op ((M.2 12 i).getD j 0).toNatClampNeg) ∧ τ 9 0 (256 * i + j) = (M.2 13 i).getD j 0
theorem RepC_24 {M : n_M} {τ : n_S} {r : Nat} {v : Int32} (h : RepC M (r_v M τ)) : RepC M (r_v M (n_up τ 24 0 r v)) := by
  have e : r_v M (n_up τ 24 0 r v) = r_v M τ := by
    have g : ∀ κ x, κ ≠ 24 → n_up τ 24 0 r v κ 0 x = τ κ 0 x := fun κ x hk => n_up_o (fun z => hk z.1)
    funext κ i k
    unfold r_v
    split
    all_goals first
      | rfl
      | exact g _ _ (by omega)
      | (unfold r_v1; split <;> first | rfl | exact g _ _ (by omega))
      | (split <;> first | rfl | exact g _ _ (by omega) | (unfold r_v9; split <;> first | rfl | exact g _ _ (by omega)) | (split <;> first | rfl | exact g _ _ (by omega)))
  rw [e]
  exact h
theorem rq_prog {τ0 τ : n_S} {M : n_M} {r i : Nat} {x : Int32} (h : RQ τ0 M τ) (hi : i < 12) (hp : r_pc M τ i) : RQ τ0 (m_s (m_s M 4 r (nI (i + 1))) 12 i x) (n_up τ 24 0 r (nI i)) := by
  obtain ⟨⟨h1, g1, g2, g3, g4⟩, f1, f2, f3⟩ := h
  have ht : ∀ κ x, κ ≠ 24 → n_up τ 24 0 r (nI i) κ 0 x = τ κ 0 x := fun κ x hk => n_up_o (fun z => hk z.1)
  refine ⟨⟨RepC_g (RepC_24 h1) (fun c j a _ b _ _ => (ms_n (by omega)).trans (ms_n (by omega))) (fun c j _ _ => rfl), fun p' i' hp' hi' e => ?_, fun i' hi' hu => ?_, ?_, fun j hj => ?_⟩, fun x => ?_, ?_, ?_⟩
  · rw [ms_n (by omega)] at e
    by_cases z : p' = r
    · rw [z, ms_e] at e
      have := (nI_eq (by omega) (by omega)).mp e
      rw [z, n_up_e, show i = i' by omega]
    · rw [ms_n (by omega)] at e
      rw [n_up_o (by omega)]
      exact g1 p' i' hp' hi' e
  · have key : r_pc M τ i' := by
      by_cases z : i' = i
      · rw [z]; exact hp
      · rw [ms_n (by omega), ms_n (by omega)] at hu
        exact g2 i' hi' hu
    exact ⟨(ht 10 i' (by omega)).trans key.1, fun j hj => ⟨(ht 8 _ (by omega)).trans (key.2 j hj).1, (ht 9 _ (by omega)).trans (key.2 j hj).2⟩⟩
  · exact (ht 0 48 (by omega)).trans g3
  · obtain ⟨w1, w2, w3⟩ := g4 j hj
    exact ⟨(ht 46 _ (by omega)).trans w1, (ht 47 _ (by omega)).trans w2, (ht 48 _ (by omega)).trans w3⟩
  · exact (ht 11 x (by omega)).trans (f1 x)
  · exact (ht 0 52 (by omega)).trans f2
  · exact (ht 0 2 (by omega)).trans f3
theorem m_new_eq {M : n_M} {r i lv : Nat} {a x n : Int32} (hlv : lv < 3) (ha : a = nI lv) : m_rdy (m_s (m_s (m_s (m_s (m_s M 2 r a) 3 r x) 4 r (nI (i + 1))) 12 i (M.1 12 i + 1)) 5 r n) r = m_s (m_s (m_adm M r i a) 3 r x) 5 r n := by
  have e1 : m_lv (m_s (m_s (m_s (m_s (m_s M 2 r a) 3 r x) 4 r (nI (i + 1))) 12 i (M.1 12 i + 1)) 5 r n) r = lv := by
    refine m_lv_i hlv ?_
    rw [ms_n (by omega), ms_n (by omega), ms_n (by omega), ms_n (by omega), ms_e, ha]
  have e2 : m_lv (m_s (m_s (m_s M 4 r (nI (i + 1))) 12 i (M.1 12 i + 1)) 2 r a) r = lv := by
    refine m_lv_i hlv ?_
    rw [ms_e, ha]
  unfold m_adm m_rdy
  rw [e1, e2]
  refine m_ext (fun c j => ?_) (fun c j => ?_)
  · simp only [m_s_s, m_l_s]
    grind
  · simp only [m_s_l, m_l_l]
section RSTT
variable {l : Launch} {D : va_G} {ca : Nat → ClassId} {ad : Nat → Nat → Nat} {Ex : State → Heap → Prop}
theorem x_free (d : Nat) (τ0 : n_S) (M : n_M) (τ : n_S) (hM : RQ τ0 M τ) : n_Ct l (rw D ca ad Ex) d yX12_free cX12_free 2 (some .int) [.ref (ad 0 0)] τ (fun rv τ' => ((∃ r, m_lfree M r ∧ rv = some (.int (nI r))) ∨ (m_nofree M ∧ rv = some (.int 0))) ∧ τ' = τ) := by
  refine n_ofW (by decide) (Nat.le_of_ble_eq_true rfl) ?_
  intro p e s m below meth c hC
  have loop : ∀ (n k : Nat), n + k = 13 → 1 ≤ k → (∀ r, 1 ≤ r → r < k → M.1 0 r ≠ 0) → n_W p l e s m [Value.ref (ad 0 0)].toArray below meth c (rw D ca ad Ex) d (fun rv τ' => ((∃ r, m_lfree M r ∧ rv = some (.int (nI r))) ∨ (m_nofree M ∧ rv = some (.int 0))) ∧ τ' = τ) 2 [some (.ref (ad 0 0)), some (.int (nI k))] [] τ := by
    intro n
    induction n with
    | zero =>
      intro k hk hk1 hf
      have : k = 13 := by omega
      subst this
      refine n_iload_n hC dX12_free_2 rfl rfl ?_
      refine n_bipush (v := 12) hC dX12_free_3 (by decide) ?_
      refine n_icmp_gt (tgt := 23) hC dX12_free_5 (by decide) (fun h => ?_) (fun h => ?_)
      · clear h
        refine n_iload_n hC dX12_free_23 rfl rfl ?_
        refine n_bipush (v := 12) hC dX12_free_24 (by decide) ?_
        refine n_icmp_le (tgt := 33) hC dX12_free_26 (by decide) (fun h => ?_) (fun h => ?_)
        · exact absurd h (by decide)
        · refine n_iconst (v := 0) hC dX12_free_29 (by decide) ?_
          refine n_goto (tgt := 34) hC dX12_free_30 (by decide) ?_
          refine n_iret hC dX12_free_34 ?_
          exact ⟨Or.inr ⟨fun r a b => hf r a (by omega), rfl⟩, rfl⟩
      · exact absurd (by decide) h
    | succ n ih =>
      intro k hk hk1 hf
      have hq : n_V k := ⟨hk1, by omega⟩
      refine n_iload_n hC dX12_free_2 rfl rfl ?_
      refine n_bipush (v := 12) hC dX12_free_3 (by decide) ?_
      refine n_icmp_gt (tgt := 23) hC dX12_free_5 (by decide) (fun h => ?_) (fun h => ?_)
      · exact absurd h (nI_nlt (a := 12) (by omega) (by decide))
      · clear h
        refine n_aload_n hC dX12_free_8 rfl rfl ?_
        refine gm_status hC wfX12_137 dX12_free_9 ?_
        refine n_iload_n hC dX12_free_12 rfl rfl ?_
        first | refine r_ld hC rfl (fun _ => rfl) (by decide) (by first | omega | with_reducible assumption) dX12_free_13 ?_ | refine r_needs hC (by first | exact vp_in_nI (by omega) (by decide) | with_reducible assumption) dX12_free_13 ?_
        rw [hM.status hq]
        refine n_if_eq (tgt := 23) hC dX12_free_14 (by decide) (fun h => ?_) (fun h => ?_)
        · have h0 := h
          clear h
          refine n_iload_n hC dX12_free_23 rfl rfl ?_
          refine n_bipush (v := 12) hC dX12_free_24 (by decide) ?_
          refine n_icmp_le (tgt := 33) hC dX12_free_26 (by decide) (fun h => ?_) (fun h => ?_)
          · refine n_iload_n hC dX12_free_33 rfl rfl ?_
            refine n_iret hC dX12_free_34 ?_
            exact ⟨Or.inl ⟨k, ⟨hq, h0, hf⟩, rfl⟩, rfl⟩
          · exact absurd (nI_le (a := k) (b := 12) (by omega) (by decide)) h
        · refine n_iinc hC dX12_free_17 rfl (show _ + Int32.ofInt 1 = _ + 1 from rfl) ?_
          refine n_goto (tgt := 2) hC dX12_free_20 (by decide) ?_
          rw [nI_1]
          refine ih (k + 1) (by omega) (by omega) (fun r a b => ?_)
          by_cases z : r = k
          · subst z; exact h
          · exact hf r a (by omega)
  refine n_iconst (v := 1) hC dX12_free_0 (by decide) ?_
  refine n_istore_n hC dX12_free_1 rfl (Nat.le_of_ble_eq_true rfl) ?_
  exact loop 12 1 rfl (by omega) (fun r a b => by omega)
theorem x_start (d i : Nat) (a n x : Int32) (τ0 : n_S) (M : n_M) (τ : n_S) (hM : RQ τ0 M τ) (hI : II M) (hi : i < 12) (hp : r_pc M τ i) (ha : ∃ lv, lv < 3 ∧ a = nI lv) : n_Ct l (rw D ca ad Ex) (d + 2) yX12_start cX12_start 6 (some .int) [.ref (ad 0 0), .int (nI i), .int a, .int n, .int x] τ (fun rv τ' => (∃ r, m_lfree M r ∧ rv = some (.int (nI r)) ∧ RQ τ0 (m_s (m_s (m_adm M r i a) 3 r x) 5 r n) τ') ∨ (m_nofree M ∧ rv = some (.int 0) ∧ τ' = τ)) := by
  obtain ⟨lv, hlv, ha⟩ := ha
  refine n_ofW (by decide) (Nat.le_of_ble_eq_true rfl) ?_
  intro p e s m below meth c hC
  have loop : ∀ (t k : Nat), t + k = 13 → 1 ≤ k → (∀ r, 1 ≤ r → r < k → M.1 0 r ≠ 0) → n_W p l e s m [Value.ref (ad 0 0), Value.int (nI i), Value.int a, Value.int n, Value.int x].toArray below meth c (rw D ca ad Ex) (d + 2) (fun rv τ' => (∃ r, m_lfree M r ∧ rv = some (.int (nI r)) ∧ RQ τ0 (m_s (m_s (m_adm M r i a) 3 r x) 5 r n) τ') ∨ (m_nofree M ∧ rv = some (.int 0) ∧ τ' = τ)) 3 [some (.ref (ad 0 0)), some (.int (nI i)), some (.int a), some (.int n), some (.int x), some (.int (nI k))] [] τ := by
    intro t
    induction t with
    | zero =>
      intro k hk hk1 hf
      have : k = 13 := by omega
      subst this
      refine n_iload hC dX12_start_3 rfl ?_
      refine n_bipush (v := 12) hC dX12_start_5 (by decide) ?_
      refine n_icmp_gt (tgt := 26) hC dX12_start_7 (by decide) (fun h => ?_) (fun h => ?_)
      · clear h
        refine n_iload hC dX12_start_26 rfl ?_
        refine n_bipush (v := 12) hC dX12_start_28 (by decide) ?_
        refine n_icmp_le (tgt := 35) hC dX12_start_30 (by decide) (fun h => ?_) (fun h => ?_)
        · exact absurd h (by decide)
        · refine n_iconst (v := 0) hC dX12_start_33 (by decide) ?_
          refine n_iret hC dX12_start_34 ?_
          exact Or.inr ⟨fun r a b => hf r a (by omega), rfl, rfl⟩
      · exact absurd (by decide) h
    | succ t ih =>
      intro k hk hk1 hf
      have hq : n_V k := ⟨hk1, by omega⟩
      refine n_iload hC dX12_start_3 rfl ?_
      refine n_bipush (v := 12) hC dX12_start_5 (by decide) ?_
      refine n_icmp_gt (tgt := 26) hC dX12_start_7 (by decide) (fun h => ?_) (fun h => ?_)
      · exact absurd h (nI_nlt (a := 12) (by omega) (by decide))
      · clear h
        refine n_aload_n hC dX12_start_10 rfl rfl ?_
        refine gm_status hC wfX12_137 dX12_start_11 ?_
        refine n_iload hC dX12_start_14 rfl ?_
        first | refine r_ld hC rfl (fun _ => rfl) (by decide) (by first | omega | with_reducible assumption) dX12_start_16 ?_ | refine r_needs hC (by first | exact vp_in_nI (by omega) (by decide) | with_reducible assumption) dX12_start_16 ?_
        rw [hM.status hq]
        refine n_if_eq (tgt := 26) hC dX12_start_17 (by decide) (fun h => ?_) (fun h => ?_)
        · have h0 := h
          clear h
          refine n_iload hC dX12_start_26 rfl ?_
          refine n_bipush (v := 12) hC dX12_start_28 (by decide) ?_
          refine n_icmp_le (tgt := 35) hC dX12_start_30 (by decide) (fun h => ?_) (fun h => ?_)
          · obtain ⟨-, z0, z1, -⟩ := hI.2.2.1 k hq
            obtain ⟨-, zc, zl, zp, zd⟩ := z0 h0
            obtain ⟨c1, c2, c3, c4, c5, c6, c7, c8, c9⟩ := z1 (Or.inl h0)
            have g1 := rq_1 (v := 0) hM hq
            rw [ms_id zc] at g1
            have g3 := rq_3 (v := x) (rq_2 (v := a) g1 hq) hq
            have g4 := rq_prog (r := k) (x := M.1 12 i + 1) g3 hi (show r_pc M _ i from by
              refine ⟨?_, fun j hj => ⟨?_, ?_⟩⟩
              · rw [n_up_o (by omega), n_up_o (by omega), n_up_o (by omega)]; exact hp.1
              · rw [n_up_o (by omega), n_up_o (by omega), n_up_o (by omega)]; exact (hp.2 j hj).1
              · rw [n_up_o (by omega), n_up_o (by omega), n_up_o (by omega)]; exact (hp.2 j hj).2)
            have g5 := rq_5 (v := n) g4 hq
            have g6 := re_stk g5 hq
            rw [ml_id (show (m_s (m_s (m_s (m_s (m_s M 2 k a) 3 k x) 4 k (nI (i + 1))) 12 i (M.1 12 i + 1)) 5 k n).2 0 k = [] from c1)] at g6
            have g7 := re_ret g6 hq
            rw [ml_id (show (m_s (m_s (m_s (m_s (m_s M 2 k a) 3 k x) 4 k (nI (i + 1))) 12 i (M.1 12 i + 1)) 5 k n).2 1 k = [] from c2)] at g7
            have g8 := re_box g7 hq
            rw [ml_id (show (m_s (m_s (m_s (m_s (m_s M 2 k a) 3 k x) 4 k (nI (i + 1))) 12 i (M.1 12 i + 1)) 5 k n).2 2 (2 * k) = [] from c3), ml_id (show (m_s (m_s (m_s (m_s (m_s M 2 k a) 3 k x) 4 k (nI (i + 1))) 12 i (M.1 12 i + 1)) 5 k n).2 3 (2 * k) = [] from c4)] at g8
            have g9 := re_key g8 hq
            rw [ml_id (show (m_s (m_s (m_s (m_s (m_s M 2 k a) 3 k x) 4 k (nI (i + 1))) 12 i (M.1 12 i + 1)) 5 k n).2 2 (2 * k + 1) = [] from c5), ml_id (show (m_s (m_s (m_s (m_s (m_s M 2 k a) 3 k x) 4 k (nI (i + 1))) 12 i (M.1 12 i + 1)) 5 k n).2 3 (2 * k + 1) = [] from c6)] at g9
            have g10 := rq_6 (v := 0) g9 hq
            rw [ms_id (show (m_s (m_s (m_s (m_s (m_s M 2 k a) 3 k x) 4 k (nI (i + 1))) 12 i (M.1 12 i + 1)) 5 k n).1 6 k = 0 from by rw [ms_n (by omega), ms_n (by omega), ms_n (by omega), ms_n (by omega), ms_n (by omega)]; exact zd)] at g10
            have e2 : (m_s (m_s (m_s (m_s (m_s M 2 k a) 3 k x) 4 k (nI (i + 1))) 12 i (M.1 12 i + 1)) 5 k n).1 2 k = nI lv := by
              rw [ms_n (by omega), ms_n (by omega), ms_n (by omega), ms_n (by omega), ms_e, ha]
            have hl : (M.2 5 lv).length < 12 := hI.1.row hq hlv (hI.1.notrow hq hlv (by rw [h0]; decide))
            refine n_aload_n hC dX12_start_35 rfl rfl ?_
            refine gm_codes hC wfX12_140 dX12_start_36 ?_
            refine n_iload hC dX12_start_39 rfl ?_
            refine n_iconst (v := 0) hC dX12_start_41 (by decide) ?_
            refine r_st hC rfl (fun _ h => h) (fun _ => rfl) (by decide) (by first | omega | with_reducible assumption) dX12_start_42 ?_
            refine n_aload_n hC dX12_start_43 rfl rfl ?_
            refine gm_level hC wfX12_143 dX12_start_44 ?_
            refine n_iload hC dX12_start_47 rfl ?_
            refine n_iload_n hC dX12_start_49 rfl rfl ?_
            refine r_st hC rfl (fun _ h => h) (fun _ => rfl) (by decide) (by first | omega | with_reducible assumption) dX12_start_50 ?_
            refine n_aload_n hC dX12_start_51 rfl rfl ?_
            refine gm_parent hC wfX12_146 dX12_start_52 ?_
            refine n_iload hC dX12_start_55 rfl ?_
            refine n_iload hC dX12_start_57 rfl ?_
            refine r_st hC rfl (fun _ h => h) (fun _ => rfl) (by decide) (by first | omega | with_reducible assumption) dX12_start_59 ?_
            refine n_aload_n hC dX12_start_60 rfl rfl ?_
            refine gm_program hC wfX12_149 dX12_start_61 ?_
            refine n_iload hC dX12_start_64 rfl ?_
            refine n_iload_n hC dX12_start_66 rfl rfl ?_
            refine r_st hC rfl (fun _ h => h) (fun _ => rfl) (by decide) (by first | omega | with_reducible assumption) dX12_start_67 ?_
            refine n_aload_n hC dX12_start_68 rfl rfl ?_
            refine gm_next hC wfX12_152 dX12_start_69 ?_
            refine n_iload hC dX12_start_72 rfl ?_
            refine n_iload_n hC dX12_start_74 rfl rfl ?_
            refine r_st hC rfl (fun _ h => h) (fun _ => rfl) (by decide) (by first | omega | with_reducible assumption) dX12_start_75 ?_
            refine n_aload_n hC dX12_start_76 rfl rfl ?_
            refine gm_deep hC wfX12_155 dX12_start_77 ?_
            refine n_iload hC dX12_start_80 rfl ?_
            refine n_iconst (v := 0) hC dX12_start_82 (by decide) ?_
            refine r_st hC rfl (fun _ h => h) (fun _ => rfl) (by decide) (by first | omega | with_reducible assumption) dX12_start_83 ?_
            refine n_aload_n hC dX12_start_84 rfl rfl ?_
            refine gm_called hC wfX12_161 dX12_start_85 ?_
            refine n_iload hC dX12_start_88 rfl ?_
            refine n_iconst (v := 0) hC dX12_start_90 (by decide) ?_
            refine r_st hC rfl (fun _ h => h) (fun _ => rfl) (by decide) (by first | omega | with_reducible assumption) dX12_start_91 ?_
            refine n_aload_n hC dX12_start_92 rfl rfl ?_
            refine gm_boxed hC wfX12_167 dX12_start_93 ?_
            refine n_iload hC dX12_start_96 rfl ?_
            refine n_iconst (v := 0) hC dX12_start_98 (by decide) ?_
            refine r_st hC rfl (fun _ h => h) (fun _ => rfl) (by decide) (by first | omega | with_reducible assumption) dX12_start_99 ?_
            refine n_aload_n hC dX12_start_100 rfl rfl ?_
            refine gm_keyed hC wfX12_176 dX12_start_101 ?_
            refine n_iload hC dX12_start_104 rfl ?_
            refine n_iconst (v := 0) hC dX12_start_106 (by decide) ?_
            refine r_st hC rfl (fun _ h => h) (fun _ => rfl) (by decide) (by first | omega | with_reducible assumption) dX12_start_107 ?_
            refine n_aload_n hC dX12_start_108 rfl rfl ?_
            refine gm_did hC wfX12_182 dX12_start_109 ?_
            refine n_iload hC dX12_start_112 rfl ?_
            refine n_iconst (v := 0) hC dX12_start_114 (by decide) ?_
            refine r_st hC rfl (fun _ h => h) (fun _ => rfl) (by decide) (by first | omega | with_reducible assumption) dX12_start_115 ?_
            refine n_aload_n hC dX12_start_116 rfl rfl ?_
            refine n_iload hC dX12_start_117 rfl ?_
            refine n_callV hC (x_wake d k τ0 _ _ g10 hq ⟨lv, hlv, e2⟩ (by rw [m_lv_i hlv e2]; exact hl)) (Nat.le_refl _) (by decide) (by first | exact rfl | with_reducible assumption) rfl rfl rfl ⟨wmX12_324, wi_yX12_wake, wv_yX12_wake, wzX12, wc_yX12_wake⟩ hy_yX12_wake rfl (Nat.le_of_ble_eq_true rfl) dX12_start_119 (fun rv σ' hpo => ?_)
            obtain ⟨rfl, g11⟩ := hpo
            refine n_iload hC dX12_start_122 rfl ?_
            refine n_iret hC dX12_start_124 ?_
            rw [m_new_eq hlv ha] at g11
            exact Or.inl ⟨k, ⟨hq, h0, hf⟩, rfl, g11⟩
          · exact absurd (nI_le (a := k) (b := 12) (by omega) (by decide)) h
        · refine n_iinc hC dX12_start_20 rfl (show _ + Int32.ofInt 1 = _ + 1 from rfl) ?_
          refine n_goto (tgt := 3) hC dX12_start_23 (by decide) ?_
          rw [nI_1]
          refine ih (k + 1) (by omega) (by omega) (fun r a b => ?_)
          by_cases z : r = k
          · subst z; exact h
          · exact hf r a (by omega)
  refine n_iconst (v := 1) hC dX12_start_0 (by decide) ?_
  refine n_istore hC dX12_start_1 (Nat.le_of_ble_eq_true rfl) ?_
  exact loop 12 1 rfl (by omega) (fun r a b => by omega)
theorem x_deliver (d : Nat) (f x a : Int32) (τ0 : n_S) (M : n_M) (τ : n_S) (hM : RQ τ0 M τ) (hI : II M) : n_Ct l (rw D ca ad Ex) (d + 2) yX12_deliver cX12_deliver 4 (some .int) [.ref (ad 0 0), .int f, .int x, .int a] τ (fun rv τ' => ((¬ ∃ r, n_V r ∧ x = nI r ∧ m_al M r) ∧ rv = some (.int (-1)) ∧ τ' = τ) ∨ ∃ r, n_V r ∧ x = nI r ∧ m_al M r ∧ ((8 ≤ (M.2 2 (2 * r)).length ∧ rv = some (.int (-2)) ∧ τ' = τ) ∨ ((M.2 2 (2 * r)).length < 8 ∧ rv = some (.int 0) ∧ RQ τ0 (m_del M r a f) τ'))) := by
  refine n_ofW (by decide) (Nat.le_of_ble_eq_true rfl) ?_
  intro p e s m below meth c hC
  refine n_aload_n hC dX12_deliver_0 rfl rfl ?_
  refine n_iload_n hC dX12_deliver_1 rfl rfl ?_
  refine n_callV hC (x_isAlive d x τ0 M τ hM) (Nat.le_refl _) (by decide) (by first | exact rfl | with_reducible assumption) rfl rfl rfl ⟨wmX12_364, wi_yX12_isAlive, wv_yX12_isAlive, wzX12, wc_yX12_isAlive⟩ hy_yX12_isAlive rfl (Nat.le_of_ble_eq_true rfl) dX12_deliver_2 (fun rv σ' hpo => ?_)
  obtain ⟨hpo, hσ⟩ := hpo
  rw [hσ]
  rcases hpo with ⟨r, hr, rfl, hal, rfl⟩ | ⟨hn, rfl⟩
  · obtain ⟨hr1, hr2⟩ := id hr
    obtain ⟨e1, h1, h3⟩ := hM.box hr
    obtain ⟨e2, h2, h4⟩ := hM.who hr
    have el : (M.2 3 (2 * r)).length = (M.2 2 (2 * r)).length := (nI_eq (by omega) (by omega)).mp (e2.symm.trans e1)
    refine n_if_ne (tgt := 10) hC dX12_deliver_5 (by decide) (fun h => ?_) (fun h => ?_)
    · clear h
      refine n_aload_n hC dX12_deliver_10 rfl rfl ?_
      refine gm_boxed hC wfX12_167 dX12_deliver_11 ?_
      refine n_iload_n hC dX12_deliver_14 rfl rfl ?_
      first | refine r_ld hC rfl (fun _ => rfl) (by decide) (by first | omega | with_reducible assumption) dX12_deliver_15 ?_ | refine r_needs hC (by first | exact vp_in_nI (by omega) (by decide) | with_reducible assumption) dX12_deliver_15 ?_
      rw [e1]
      refine n_bipush (v := 8) hC dX12_deliver_16 (by decide) ?_
      refine n_icmp_ne (tgt := 24) hC dX12_deliver_18 (by decide) (fun h => ?_) (fun h => ?_)
      · have hlt : (M.2 2 (2 * r)).length < 8 := by
          rcases Nat.lt_or_ge (M.2 2 (2 * r)).length 8 with z | z
          · exact z
          · exact absurd (congrArg nI (show (M.2 2 (2 * r)).length = 8 by omega)) h
        clear h
        refine n_aload_n hC dX12_deliver_24 rfl rfl ?_
        refine gm_boxNumber hC wfX12_170 dX12_deliver_25 ?_
        refine n_bipush (v := 8) hC dX12_deliver_28 (by decide) ?_
        refine n_iload_n hC dX12_deliver_30 rfl rfl ?_
        refine n_imul hC dX12_deliver_31 ?_
        refine n_aload_n hC dX12_deliver_32 rfl rfl ?_
        refine gm_boxed hC wfX12_167 dX12_deliver_33 ?_
        refine n_iload_n hC dX12_deliver_36 rfl rfl ?_
        first | refine r_ld hC rfl (fun _ => rfl) (by decide) (by first | omega | with_reducible assumption) dX12_deliver_37 ?_ | refine r_needs hC (by first | exact vp_in_nI (by omega) (by decide) | with_reducible assumption) dX12_deliver_37 ?_
        rw [e1]
        refine n_iadd hC dX12_deliver_38 ?_
        rw [show (8 : Int32) * nI r + nI (M.2 2 (2 * r)).length = nI (8 * r + (M.2 2 (2 * r)).length) from by rw [← nI_add, ← nI_mulL]; rfl]
        refine n_iload_n hC dX12_deliver_39 rfl rfl ?_
        refine r_st hC rfl (fun _ h => h) (fun _ => rfl) (by decide) (by first | omega | with_reducible assumption) dX12_deliver_40 ?_
        refine n_aload_n hC dX12_deliver_41 rfl rfl ?_
        refine gm_boxWho hC wfX12_173 dX12_deliver_42 ?_
        refine n_bipush (v := 8) hC dX12_deliver_45 (by decide) ?_
        refine n_iload_n hC dX12_deliver_47 rfl rfl ?_
        refine n_imul hC dX12_deliver_48 ?_
        refine n_aload_n hC dX12_deliver_49 rfl rfl ?_
        refine gm_boxed hC wfX12_167 dX12_deliver_50 ?_
        refine n_iload_n hC dX12_deliver_53 rfl rfl ?_
        first | refine r_ld hC rfl (fun _ => rfl) (by decide) (by first | omega | with_reducible assumption) dX12_deliver_54 ?_ | refine r_needs hC (by first | exact vp_in_nI (by omega) (by decide) | with_reducible assumption) dX12_deliver_54 ?_
        rw [n_up_o (by omega), e1]
        refine n_iadd hC dX12_deliver_55 ?_
        rw [show (8 : Int32) * nI r + nI (M.2 2 (2 * r)).length = nI (8 * r + (M.2 2 (2 * r)).length) from by rw [← nI_add, ← nI_mulL]; rfl]
        refine n_iload_n hC dX12_deliver_56 rfl rfl ?_
        refine r_st hC rfl (fun _ h => h) (fun _ => rfl) (by decide) (by first | omega | with_reducible assumption) dX12_deliver_57 ?_
        refine n_aload_n hC dX12_deliver_58 rfl rfl ?_
        refine gm_boxed hC wfX12_167 dX12_deliver_59 ?_
        refine n_iload_n hC dX12_deliver_62 rfl rfl ?_
        refine n_dup2_11 hC dX12_deliver_63 rfl rfl ?_
        first | refine r_ld hC rfl (fun _ => rfl) (by decide) (by first | omega | with_reducible assumption) dX12_deliver_64 ?_ | refine r_needs hC (by first | exact vp_in_nI (by omega) (by decide) | with_reducible assumption) dX12_deliver_64 ?_
        rw [n_up_o (by omega), n_up_o (by omega), e1]
        refine n_iconst (v := 1) hC dX12_deliver_65 (by decide) ?_
        refine n_iadd hC dX12_deliver_66 ?_
        rw [nI_1]
        refine r_st hC rfl (fun _ h => h) (fun _ => rfl) (by decide) (by first | omega | with_reducible assumption) dX12_deliver_67 ?_
        have hb : RQ τ0 (m_box M r a f) (n_up (n_up (n_up τ 31 0 (8 * r + (M.2 2 (2 * r)).length) a) 32 0 (8 * r + (M.2 2 (2 * r)).length) f) 30 0 r (nI ((M.2 2 (2 * r)).length + 1))) := by
          refine rql_2 hM hr (fun κ x' a' b' c' => ?_) ?_ ?_ ?_ (fun j hj => ?_) (fun j hj => ?_)
          · rw [n_up_o (by omega), n_up_o (by omega), n_up_o (by omega)]
          · rw [n_up_e, List.length_append]; rfl
          · rw [List.length_append]; exact hlt
          · rw [List.length_append, List.length_append, el]; rfl
          · rw [List.length_append] at hj
            have hj : j < (M.2 2 (2 * r)).length + 1 := hj
            rw [n_up_o (by omega), n_up_o (by omega)]
            by_cases ej : j = (M.2 2 (2 * r)).length
            · rw [ej, n_up_e, getD_snoc_e]
            · rw [n_up_o (by omega), h3 j (by omega), getD_snoc_l _ _ _ (by omega)]
          · rw [List.length_append] at hj
            have hj : j < (M.2 3 (2 * r)).length + 1 := hj
            rw [n_up_o (by omega)]
            by_cases ej : j = (M.2 2 (2 * r)).length
            · rw [ej, n_up_e, ← el, getD_snoc_e]
            · rw [n_up_o (by omega), n_up_o (by omega), h4 j (by omega), getD_snoc_l _ _ _ (by omega)]
        refine n_aload_n hC dX12_deliver_68 rfl rfl ?_
        refine gm_status hC wfX12_137 dX12_deliver_69 ?_
        refine n_iload_n hC dX12_deliver_72 rfl rfl ?_
        first | refine r_ld hC rfl (fun _ => rfl) (by decide) (by first | omega | with_reducible assumption) dX12_deliver_73 ?_ | refine r_needs hC (by first | exact vp_in_nI (by omega) (by decide) | with_reducible assumption) dX12_deliver_73 ?_
        rw [hb.status hr]
        refine n_iconst (v := 2) hC dX12_deliver_74 (by decide) ?_
        refine n_icmp_ne (tgt := 83) hC dX12_deliver_75 (by decide) (fun h => ?_) (fun h => ?_)
        · refine n_iconst (v := 0) hC dX12_deliver_83 (by decide) ?_
          refine n_iret hC dX12_deliver_84 ?_
          refine Or.inr ⟨r, hr, rfl, hal, Or.inr ⟨hlt, rfl, ?_⟩⟩
          unfold m_del
          rw [if_neg (show ¬ M.1 0 r = 2 from h)]
          exact hb
        · have h2 : M.1 0 r = 2 := h
          clear h
          have hlv := hI.1.lv hr
          refine n_aload_n hC dX12_deliver_78 rfl rfl ?_
          refine n_iload_n hC dX12_deliver_79 rfl rfl ?_
          refine n_callV hC (x_wake d r τ0 _ _ hb hr (hI.1.1 r hr) (hI.1.row hr hlv.1 (hI.1.notrow hr hlv.1 (by rw [h2]; decide)))) (Nat.le_refl _) (by decide) (by first | exact rfl | with_reducible assumption) rfl rfl rfl ⟨wmX12_324, wi_yX12_wake, wv_yX12_wake, wzX12, wc_yX12_wake⟩ hy_yX12_wake rfl (Nat.le_of_ble_eq_true rfl) dX12_deliver_80 (fun rv σ' hpo => ?_)
          obtain ⟨rfl, g1⟩ := hpo
          refine n_iconst (v := 0) hC dX12_deliver_83 (by decide) ?_
          refine n_iret hC dX12_deliver_84 ?_
          refine Or.inr ⟨r, hr, rfl, hal, Or.inr ⟨hlt, rfl, ?_⟩⟩
          unfold m_del
          rw [if_pos h2]
          exact g1
      · have he : (M.2 2 (2 * r)).length = 8 := (nI_eq (b := 8) (by omega) (by omega)).mp h
        refine n_bipush (v := -2) hC dX12_deliver_21 (by decide) ?_
        refine n_iret hC dX12_deliver_23 ?_
        exact Or.inr ⟨r, hr, rfl, hal, Or.inl ⟨by omega, rfl, rfl⟩⟩
    · exact absurd h (by decide)
  · refine n_if_ne (tgt := 10) hC dX12_deliver_5 (by decide) (fun h => ?_) (fun h => ?_)
    · exact absurd rfl h
    · refine n_iconst (v := -1) hC dX12_deliver_8 (by decide) ?_
      refine n_iret hC dX12_deliver_9 ?_
      exact Or.inl ⟨hn, rfl, rfl⟩
end RSTT
