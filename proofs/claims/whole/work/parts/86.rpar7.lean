theorem p_scan_y {B : List Int32} {P : p_P} {n j : Nat} (h : p_bad B P j) : p_scan B P (n + 1) j = some j := by
  unfold p_scan
  rw [if_pos h]
theorem p_scan_n {B : List Int32} {P : p_P} {n j : Nat} (h : ¬ p_bad B P j) : p_scan B P (n + 1) j = p_scan B P n (j + 1) := by
  rw [p_scan, if_neg h]
theorem p_words_f {B : List Int32} {P : p_P} {n pos : Nat} {f : Nat × Nat} (h : p_skip B pos < B.length) (e : p_stp B P (p_skip B pos) (p_wend B (p_skip B pos)) = .inl f) : p_words B (n + 1) P pos = .inl f := by
  rw [p_words, if_pos h, e]
theorem p_words_r {B : List Int32} {P P' : p_P} {n pos b' : Nat} (h : p_skip B pos < B.length) (e : p_stp B P (p_skip B pos) (p_wend B (p_skip B pos)) = .inr (P', b')) : p_words B (n + 1) P pos = p_words B n P' b' := by
  rw [p_words, if_pos h, e]
theorem p_words_e {B : List Int32} {P : p_P} {n pos : Nat} (h : ¬ p_skip B pos < B.length) : p_words B (n + 1) P pos = .inr P := by
  rw [p_words, if_neg h]
theorem p_res_b {B : List Int32} {P : p_P} {j : Nat} (h : p_scan B P P.op.length 0 = some j) : p_res B P = .inl (6, (P.na.getD j (0, 0)).1) := by
  unfold p_res
  rw [h]
theorem p_words_ok {B : List Int32} : ∀ {n : Nat} {P P' : p_P} {pos : Nat}, p_ok B P → pos ≤ B.length → p_words B n P pos = .inr P' → p_ok B P'
  | 0, P, P', pos, h, hp, e => by
    have : P = P' := Sum.inr.inj e
    rw [← this]; exact h
  | n + 1, P, P', pos, h, hp, e => by
    unfold p_words at e
    have s1 := p_skip_le hp
    by_cases z : p_skip B pos < B.length
    · rw [if_pos z] at e
      have s2 := p_wend_le s1.2
      have s3 := p_wend_gt z (p_skip_nb hp z)
      split at e
      · cases e
      · rename_i P1 b1 hst
        obtain ⟨k1, k2, k3⟩ := p_ok_stp h s3 s2.2 hst
        exact p_words_ok k1 k3 e
    · rw [if_neg z] at e
      have : P = P' := Sum.inr.inj e
      rw [← this]; exact h
theorem p_scan_no {B : List Int32} {P : p_P} : ∀ {n j : Nat}, p_scan B P n j = none → ∀ k, j ≤ k → k < j + n → ¬ p_bad B P k
  | 0, j, _, k, h1, h2 => by omega
  | n + 1, j, h, k, h1, h2 => by
    unfold p_scan at h
    by_cases z : p_bad B P j
    · rw [if_pos z] at h
      cases h
    · rw [if_neg z] at h
      by_cases e : k = j
      · rw [e]; exact z
      · exact p_scan_no h k (by omega) (by omega)
theorem p_nums_len (B : List Int32) (P : p_P) : (p_nums B P).length = P.op.length := by
  unfold p_nums
  rw [List.length_map, List.length_range]
theorem p_nums_at {B : List Int32} {P : p_P} {j : Nat} (hj : j < P.op.length) : (p_nums B P).getD j 0 = if p_hn (P.op.getD j 0) then nI ((p_to B P j).getD 0) else P.nu.getD j 0 := by
  unfold p_nums
  rw [List.getD_eq_getElem?_getD, List.getElem?_map, List.getElem?_range hj]
  rfl
theorem p_ops_at {P : p_P} {j : Nat} (hj : j < P.op.length) : (P.op.map (fun k => nI (k + 1))).getD j 0 = nI (P.op.getD j 0 + 1) := by
  rw [List.getD_eq_getElem?_getD, List.getElem?_map, List.getElem?_eq_getElem hj, List.getD_eq_getElem?_getD, List.getElem?_eq_getElem hj]
  rfl
/-- what a text that is read without a fault gives -/
theorem p_all_ok {B : List Int32} {o n : List Int32} (h : p_all B = .inr (o, n)) : n.length = o.length ∧ o.length ≤ 256 ∧ ∀ j, j < o.length → ∃ k, k < 43 ∧ o.getD j 0 = nI (k + 1) ∧ (p_hn k → m_tg o.length (n.getD j 0)) := by
  unfold p_all at h
  split at h
  · cases h
  · rename_i P hw
    have hok := p_words_ok (p_ok_0 B) (Nat.zero_le _) hw
    obtain ⟨a1, a2, a3, a4, a5, a6, a7⟩ := hok
    unfold p_res at h
    split at h
    · cases h
    · rename_i hsc
      split at h
      · cases h
      · have h := Sum.inr.inj h
        have e1 : P.op.map (fun k => nI (k + 1)) = o := congrArg Prod.fst h
        have e2 : p_nums B P = n := congrArg Prod.snd h
        rw [← e1, ← e2, p_nums_len, List.length_map]
        refine ⟨rfl, a2, fun j hj => ⟨P.op.getD j 0, (a7 j hj).1, p_ops_at hj, fun hn => ?_⟩⟩
        rw [p_nums_at hj, if_pos hn]
        cases ht : p_to B P j with
        | none => exact absurd ⟨hn, ht⟩ (p_scan_no hsc j (Nat.zero_le _) (by omega))
        | some v =>
          obtain ⟨q, q1, q2⟩ := p_lkf_some ht
          exact ⟨v, by rw [← q2]; exact (a6 q q1).2, rfl⟩
def XZ (B : List Int32) (i : Nat) (τ τ' : n_S) : Prop := XF i τ τ' ∧ ((∃ f, p_all B = .inl f ∧ τ' 0 0 5 = nI f.1 ∧ τ' 0 0 6 = nI f.2 ∧ 1 ≤ f.1 ∧ f.1 ≤ 7) ∨ (∃ o n, p_all B = .inr (o, n) ∧ τ' 0 0 5 = 0 ∧ τ' 10 0 i = nI o.length ∧ ∀ j, j < o.length → τ' 8 0 (256 * i + j) = nI (r_op (o.getD j 0).toNatClampNeg) ∧ τ' 9 0 (256 * i + j) = n.getD j 0))
section RP7
variable {l : Launch} {D : va_G} {ca : Nat → ClassId} {ad : Nat → Nat → Nat} {Ex : State → Heap → Prop}
theorem x_readAll (d i : Nat) (B : List Int32) (τ : n_S) (hi : i < 12) (hB : TB B τ) : n_Ct l (rw D ca ad Ex) (d + 5) yX12_readAll cX12_readAll 4 none [.ref (ad 0 0), .int (nI i)] τ (fun rv τ' => rv = none ∧ XZ B i τ τ') := by
  have hlen := hB.2.1
  refine n_ofW (by decide) (Nat.le_of_ble_eq_true rfl) ?_
  intro p e s m below meth c hC
  -- a fault
  have bad158 : ∀ (τ1 : n_S) (f : Nat × Nat) (w2 w3 : Option Value), XF i τ τ1 → p_all B = .inl f → τ1 0 0 5 = nI f.1 → τ1 0 0 6 = nI f.2 → 1 ≤ f.1 → f.1 ≤ 7 → n_W p l e s m [Value.ref (ad 0 0), Value.int (nI i)].toArray below meth c (rw D ca ad Ex) (d + 5) (fun rv τ' => rv = none ∧ XZ B i τ τ') 158 [some (.ref (ad 0 0)), some (.int (nI i)), w2, w3] [] τ1 := by
    intro τ1 f w2 w3 hF e1 e5 e6 f1 f7
    have fin : n_W p l e s m [Value.ref (ad 0 0), Value.int (nI i)].toArray below meth c (rw D ca ad Ex) (d + 5) (fun rv τ' => rv = none ∧ XZ B i τ τ') 177 [some (.ref (ad 0 0)), some (.int (nI i)), w2, w3] [] τ1 := by
      refine n_vret hC dX12_readAll_177 ?_
      exact ⟨rfl, hF, Or.inl ⟨f, e1, e5, e6, f1, f7⟩⟩
    refine n_aload_n hC dX12_readAll_158 rfl rfl ?_
    refine gm_lengths hC wfX12_115 dX12_readAll_159 ?_
    refine n_iload_n hC dX12_readAll_162 rfl rfl ?_
    first | refine r_ld hC rfl (fun _ => rfl) (by decide) (by first | omega | with_reducible assumption) dX12_readAll_163 ?_ | refine r_needs hC (by first | exact vp_in_nI (by omega) (by decide) | with_reducible assumption) dX12_readAll_163 ?_
    refine n_if_ne (tgt := 177) hC dX12_readAll_164 (by decide) (fun h => ?_) (fun h => ?_)
    · exact fin
    · refine n_aload_n hC dX12_readAll_167 rfl rfl ?_
      refine n_bipush (v := 7) hC dX12_readAll_168 (by decide) ?_
      refine n_aload_n hC dX12_readAll_170 rfl rfl ?_
      refine gm_size hC wfX12_227 dX12_readAll_171 ?_
      refine n_callV hC (x_flaw (d + 4) 7 (τ1 0 0 4) τ1) (Nat.le_refl _) (by decide) (by first | exact rfl | with_reducible assumption) rfl rfl rfl ⟨wmX12_281, wi_yX12_flaw, wv_yX12_flaw, wzX12, wc_yX12_flaw⟩ hy_yX12_flaw rfl (Nat.le_of_ble_eq_true rfl) dX12_readAll_174 (fun rv σ' hpo => ?_)
      obtain ⟨rfl, hσ⟩ := hpo
      rw [hσ, if_neg (fun z => by
        rw [e5] at z
        have := (nI_eq (b := 0) (by omega) (by omega)).mp z
        omega)]
      exact fin
  have bad63 : ∀ (τ1 : n_S) (f : Nat × Nat) (k : Nat) (w3 : Option Value), XF i τ τ1 → p_all B = .inl f → τ1 0 0 5 = nI f.1 → τ1 0 0 6 = nI f.2 → 1 ≤ f.1 → f.1 ≤ 7 → n_W p l e s m [Value.ref (ad 0 0), Value.int (nI i)].toArray below meth c (rw D ca ad Ex) (d + 5) (fun rv τ' => rv = none ∧ XZ B i τ τ') 63 [some (.ref (ad 0 0)), some (.int (nI i)), some (.int (nI k)), w3] [] τ1 := by
    intro τ1 f k w3 hF e1 e5 e6 f1 f7
    refine n_iload_n hC dX12_readAll_63 rfl rfl ?_
    refine n_aload_n hC dX12_readAll_64 rfl rfl ?_
    refine gm_lengths hC wfX12_115 dX12_readAll_65 ?_
    refine n_iload_n hC dX12_readAll_68 rfl rfl ?_
    first | refine r_ld hC rfl (fun _ => rfl) (by decide) (by first | omega | with_reducible assumption) dX12_readAll_69 ?_ | refine r_needs hC (by first | exact vp_in_nI (by omega) (by decide) | with_reducible assumption) dX12_readAll_69 ?_
    refine n_icmp_ge (tgt := 158) hC dX12_readAll_70 (by decide) (fun h => ?_) (fun h => ?_)
    · exact bad158 τ1 f _ _ hF e1 e5 e6 f1 f7
    · clear h
      refine n_aload_n hC dX12_readAll_73 rfl rfl ?_
      refine gm_fault hC wfX12_271 dX12_readAll_74 ?_
      rw [e5]
      refine n_if_ne (tgt := 158) hC dX12_readAll_77 (by decide) (fun h => ?_) (fun h => ?_)
      · exact bad158 τ1 f _ _ hF e1 e5 e6 f1 f7
      · exfalso
        have := (nI_eq (b := 0) (by omega) (by omega)).mp h
        omega
  have bad31 : ∀ (τ1 : n_S) (f : Nat × Nat), XF i τ τ1 → p_all B = .inl f → τ1 0 0 5 = nI f.1 → τ1 0 0 6 = nI f.2 → 1 ≤ f.1 → f.1 ≤ 7 → n_W p l e s m [Value.ref (ad 0 0), Value.int (nI i)].toArray below meth c (rw D ca ad Ex) (d + 5) (fun rv τ' => rv = none ∧ XZ B i τ τ') 31 [some (.ref (ad 0 0)), some (.int (nI i)), none, none] [] τ1 := by
    intro τ1 f hF e1 e5 e6 f1 f7
    have go : n_W p l e s m [Value.ref (ad 0 0), Value.int (nI i)].toArray below meth c (rw D ca ad Ex) (d + 5) (fun rv τ' => rv = none ∧ XZ B i τ τ') 61 [some (.ref (ad 0 0)), some (.int (nI i)), none, none] [] τ1 := by
      refine n_iconst (v := 0) hC dX12_readAll_61 (by decide) ?_
      refine n_istore_n hC dX12_readAll_62 rfl (Nat.le_of_ble_eq_true rfl) ?_
      exact bad63 τ1 f 0 _ hF e1 e5 e6 f1 f7
    refine n_aload_n hC dX12_readAll_31 rfl rfl ?_
    refine gm_wordAt hC wfX12_241 dX12_readAll_32 ?_
    refine n_aload_n hC dX12_readAll_35 rfl rfl ?_
    refine gm_size hC wfX12_227 dX12_readAll_36 ?_
    refine n_icmp_ge (tgt := 61) hC dX12_readAll_39 (by decide) (fun h => ?_) (fun h => ?_)
    · exact go
    · clear h
      refine n_aload_n hC dX12_readAll_42 rfl rfl ?_
      refine gm_fault hC wfX12_271 dX12_readAll_43 ?_
      rw [e5]
      refine n_if_ne (tgt := 61) hC dX12_readAll_46 (by decide) (fun h => ?_) (fun h => ?_)
      · exact go
      · exfalso
        have := (nI_eq (b := 0) (by omega) (by omega)).mp h
        omega
  -- the targets
  have tgt : ∀ (P : p_P), p_ok B P → p_all B = p_res B P → ∀ (t k : Nat) (τ1 : n_S) (w3 : Option Value), t + k = P.op.length → p_scan B P P.op.length 0 = p_scan B P t k → XF i τ τ1 → TB B τ1 → τ1 0 0 5 = 0 → XL P τ1 → τ1 10 0 i = nI P.op.length → (∀ j, j < P.op.length → τ1 8 0 (256 * i + j) = nI (r_op (P.op.getD j 0 + 1)) ∧ τ1 9 0 (256 * i + j) = (if j < k then (p_nums B P).getD j 0 else P.nu.getD j 0) ∧ (p_hn (P.op.getD j 0) → τ1 16 0 j = nI (P.na.getD j (0, 0)).1 ∧ τ1 17 0 j = nI (P.na.getD j (0, 0)).2)) → n_W p l e s m [Value.ref (ad 0 0), Value.int (nI i)].toArray below meth c (rw D ca ad Ex) (d + 5) (fun rv τ' => rv = none ∧ XZ B i τ τ') 63 [some (.ref (ad 0 0)), some (.int (nI i)), some (.int (nI k)), w3] [] τ1 := by
    intro P hok hall t
    obtain ⟨a1, a2, a3, a4, a5, a6, a7⟩ := id hok
    induction t with
    | zero =>
      intro k τ1 w3 hk hsc hF hB1 h5 hL c10 cc
      have hkn : k = P.op.length := by omega
      have esc : p_scan B P P.op.length 0 = none := hsc
      unfold p_res at hall
      rw [esc] at hall
      simp only at hall
      refine n_iload_n hC dX12_readAll_63 rfl rfl ?_
      refine n_aload_n hC dX12_readAll_64 rfl rfl ?_
      refine gm_lengths hC wfX12_115 dX12_readAll_65 ?_
      refine n_iload_n hC dX12_readAll_68 rfl rfl ?_
      first | refine r_ld hC rfl (fun _ => rfl) (by decide) (by first | omega | with_reducible assumption) dX12_readAll_69 ?_ | refine r_needs hC (by first | exact vp_in_nI (by omega) (by decide) | with_reducible assumption) dX12_readAll_69 ?_
      rw [c10]
      refine n_icmp_ge (tgt := 158) hC dX12_readAll_70 (by decide) (fun h => ?_) (fun h => ?_)
      · clear h
        refine n_aload_n hC dX12_readAll_158 rfl rfl ?_
        refine gm_lengths hC wfX12_115 dX12_readAll_159 ?_
        refine n_iload_n hC dX12_readAll_162 rfl rfl ?_
        first | refine r_ld hC rfl (fun _ => rfl) (by decide) (by first | omega | with_reducible assumption) dX12_readAll_163 ?_ | refine r_needs hC (by first | exact vp_in_nI (by omega) (by decide) | with_reducible assumption) dX12_readAll_163 ?_
        rw [c10]
        refine n_if_ne (tgt := 177) hC dX12_readAll_164 (by decide) (fun h => ?_) (fun h => ?_)
        · have hn0 : ¬ P.op.length = 0 := fun z => h (by rw [z]; rfl)
          rw [if_neg hn0] at hall
          refine n_vret hC dX12_readAll_177 ?_
          refine ⟨rfl, hF, Or.inr ⟨_, _, hall, h5, by rw [List.length_map]; exact c10, fun j hj => ?_⟩⟩
          rw [List.length_map] at hj
          obtain ⟨u1, u2, -⟩ := cc j hj
          have := (a7 j hj).1
          rw [p_ops_at hj, nI_clamp (by omega)]
          exact ⟨u1, by rw [u2, if_pos (by omega)]⟩
        · have hn0 : P.op.length = 0 := (nI_eq (b := 0) (by omega) (by omega)).mp h
          rw [if_pos hn0] at hall
          refine n_aload_n hC dX12_readAll_167 rfl rfl ?_
          refine n_bipush (v := 7) hC dX12_readAll_168 (by decide) ?_
          refine n_aload_n hC dX12_readAll_170 rfl rfl ?_
          refine gm_size hC wfX12_227 dX12_readAll_171 ?_
          rw [hB1.1]
          refine n_callV hC (x_flaw (d + 4) 7 (nI B.length) τ1) (Nat.le_refl _) (by decide) (by first | exact rfl | with_reducible assumption) rfl rfl rfl ⟨wmX12_281, wi_yX12_flaw, wv_yX12_flaw, wzX12, wc_yX12_flaw⟩ hy_yX12_flaw rfl (Nat.le_of_ble_eq_true rfl) dX12_readAll_174 (fun rv σ' hpo => ?_)
          obtain ⟨rfl, hσ⟩ := hpo
          rw [hσ, if_pos h5]
          refine n_vret hC dX12_readAll_177 ?_
          refine ⟨rfl, (hF.up (by unfold p_wr; omega)).up (by unfold p_wr; omega), Or.inl ⟨_, hall, ?_, n_up_e _ _ _ _, by omega, by omega⟩⟩
          rw [n_up_o (by omega), n_up_e]
          rfl
      · exact absurd (nI_le (by omega) (by omega)) h
    | succ t ih =>
      intro k τ1 w3 hk hsc hF hB1 h5 hL c10 cc
      have hkn : k < P.op.length := by omega
      obtain ⟨u1, u2, u3⟩ := cc k hkn
      have ak := a7 k hkn
      have rl := r_op_l3 _ ak.1
      have rh := r_op_hn _ ak.1
      refine n_iload_n hC dX12_readAll_63 rfl rfl ?_
      refine n_aload_n hC dX12_readAll_64 rfl rfl ?_
      refine gm_lengths hC wfX12_115 dX12_readAll_65 ?_
      refine n_iload_n hC dX12_readAll_68 rfl rfl ?_
      first | refine r_ld hC rfl (fun _ => rfl) (by decide) (by first | omega | with_reducible assumption) dX12_readAll_69 ?_ | refine r_needs hC (by first | exact vp_in_nI (by omega) (by decide) | with_reducible assumption) dX12_readAll_69 ?_
      rw [c10]
      refine n_icmp_ge (tgt := 158) hC dX12_readAll_70 (by decide) (fun h => ?_) (fun h => ?_)
      · exact absurd h (nI_ge (by omega) (by omega))
      · clear h
        refine n_aload_n hC dX12_readAll_73 rfl rfl ?_
        refine gm_fault hC wfX12_271 dX12_readAll_74 ?_
        rw [h5]
        refine n_if_ne (tgt := 158) hC dX12_readAll_77 (by decide) (fun h => ?_) (fun h => ?_)
        · exact absurd rfl h
        · clear h
          refine n_aload_n hC dX12_readAll_80 rfl rfl ?_
          refine gm_ops hC wfX12_109 dX12_readAll_81 ?_
          refine n_sipush (v := 256) hC dX12_readAll_84 (by decide) ?_
          refine n_iload_n hC dX12_readAll_87 rfl rfl ?_
          refine n_imul hC dX12_readAll_88 ?_
          rw [show (256 : Int32) * nI i = nI (256 * i) from nI_mulL 256 i]
          refine n_iload_n hC dX12_readAll_89 rfl rfl ?_
          refine n_iadd hC dX12_readAll_90 ?_
          rw [nI_add]
          first | refine r_ld hC rfl (fun _ => rfl) (by decide) (by first | omega | with_reducible assumption) dX12_readAll_91 ?_ | refine r_needs hC (by first | exact vp_in_nI (by omega) (by decide) | with_reducible assumption) dX12_readAll_91 ?_
          rw [u1]
          refine n_bipush (v := 39) hC dX12_readAll_92 (by decide) ?_
          refine n_icmp_lt (tgt := 152) hC dX12_readAll_94 (by decide) (fun h => ?_) (fun h => ?_)
          · have hnn : ¬ p_hn (P.op.getD k 0) := fun z => by
              have h2 := rh.mp z
              exact absurd h (nI_nlt (b := 39) h2 (by omega))
            rw [p_scan_n (fun z => hnn z.1)] at hsc
            clear h
            refine n_iinc hC dX12_readAll_152 rfl (show _ + Int32.ofInt 1 = _ + 1 from rfl) ?_
            refine n_goto (tgt := 63) hC dX12_readAll_155 (by decide) ?_
            rw [nI_1]
            refine ih (k + 1) τ1 _ (by omega) hsc hF hB1 h5 hL c10 (fun j hj => ?_)
            obtain ⟨v1, v2, v3⟩ := cc j hj
            refine ⟨v1, ?_, v3⟩
            by_cases z : j = k
            · rw [v2, if_neg (by omega), if_pos (by omega), p_nums_at hj, z, if_neg hnn]
            · rw [v2]
              by_cases z2 : j < k
              · rw [if_pos z2, if_pos (by omega)]
              · rw [if_neg z2, if_neg (by omega)]
          · have hhn : p_hn (P.op.getD k 0) := rh.mpr ((nI_leI (a := 39) (by omega) (by omega)).mp (Int32.not_lt.mp h))
            clear h
            obtain ⟨w1, w2⟩ := u3 hhn
            refine n_aload_n hC dX12_readAll_97 rfl rfl ?_
            refine n_aload_n hC dX12_readAll_98 rfl rfl ?_
            refine gm_nameAt hC wfX12_131 dX12_readAll_99 ?_
            refine n_iload_n hC dX12_readAll_102 rfl rfl ?_
            first | refine r_ld hC rfl (fun _ => rfl) (by decide) (by first | omega | with_reducible assumption) dX12_readAll_103 ?_ | refine r_needs hC (by first | exact vp_in_nI (by omega) (by decide) | with_reducible assumption) dX12_readAll_103 ?_
            rw [w1]
            refine n_aload_n hC dX12_readAll_104 rfl rfl ?_
            refine gm_nameSize hC wfX12_134 dX12_readAll_105 ?_
            refine n_iload_n hC dX12_readAll_108 rfl rfl ?_
            first | refine r_ld hC rfl (fun _ => rfl) (by decide) (by first | omega | with_reducible assumption) dX12_readAll_109 ?_ | refine r_needs hC (by first | exact vp_in_nI (by omega) (by decide) | with_reducible assumption) dX12_readAll_109 ?_
            rw [w2]
            refine n_callV hC (x_labelOf (d + 3) (P.na.getD k (0, 0)).1 (P.na.getD k (0, 0)).2 B P τ1 hB1 hok hL ak.2.1) (Nat.le_refl _) (by decide) (by first | exact rfl | with_reducible assumption) rfl rfl rfl ⟨wmX12_285, wi_yX12_labelOf, wv_yX12_labelOf, wzX12, wc_yX12_labelOf⟩ hy_yX12_labelOf rfl (Nat.le_of_ble_eq_true rfl) dX12_readAll_110 (fun rv σ' hpo => ?_)
            obtain ⟨hpo, hσ⟩ := hpo
            rw [hσ]
            rcases hpo with ⟨q, q1, q2, rfl⟩ | ⟨q2, rfl⟩
            · have hto : p_to B P k = some (P.lab.getD q (0, 0, 0)).2.2 := q2
              rw [p_scan_n (fun z => by rw [z.2] at hto; cases hto)] at hsc
              refine n_istore_n hC dX12_readAll_113 rfl (Nat.le_of_ble_eq_true rfl) ?_
              refine n_iload_n hC dX12_readAll_114 rfl rfl ?_
              refine n_iconst (v := -1) hC dX12_readAll_115 (by decide) ?_
              refine n_icmp_ne (tgt := 134) hC dX12_readAll_116 (by decide) (fun h => ?_) (fun h => ?_)
              · clear h
                refine n_aload_n hC dX12_readAll_134 rfl rfl ?_
                refine gm_numbers hC wfX12_112 dX12_readAll_135 ?_
                refine n_sipush (v := 256) hC dX12_readAll_138 (by decide) ?_
                refine n_iload_n hC dX12_readAll_141 rfl rfl ?_
                refine n_imul hC dX12_readAll_142 ?_
                rw [show (256 : Int32) * nI i = nI (256 * i) from nI_mulL 256 i]
                refine n_iload_n hC dX12_readAll_143 rfl rfl ?_
                refine n_iadd hC dX12_readAll_144 ?_
                rw [nI_add]
                refine n_aload_n hC dX12_readAll_145 rfl rfl ?_
                refine gm_labelTo hC wfX12_128 dX12_readAll_146 ?_
                refine n_iload_n hC dX12_readAll_149 rfl rfl ?_
                first | refine r_ld hC rfl (fun _ => rfl) (by decide) (by first | omega | with_reducible assumption) dX12_readAll_150 ?_ | refine r_needs hC (by first | exact vp_in_nI (by omega) (by decide) | with_reducible assumption) dX12_readAll_150 ?_
                rw [(hL.2 q q1).2.2]
                refine r_st hC rfl (fun _ h => h) (fun _ => rfl) (by decide) (by first | omega | with_reducible assumption) dX12_readAll_151 ?_
                refine n_iinc hC dX12_readAll_152 rfl (show _ + Int32.ofInt 1 = _ + 1 from rfl) ?_
                refine n_goto (tgt := 63) hC dX12_readAll_155 (by decide) ?_
                rw [nI_1]
                have fr : XF i τ1 (n_up τ1 9 0 (256 * i + k) (nI (P.lab.getD q (0, 0, 0)).2.2)) := (XF.refl i τ1).up (by unfold p_wr; omega)
                refine ih (k + 1) _ _ (by omega) hsc (hF.trans fr) (hB1.mv fr) (by rw [n_up_o (by omega)]; exact h5) (hL.mv rfl (fun κ x u => n_up_o (by omega))) (by rw [n_up_o (by omega)]; exact c10) (fun j hj => ?_)
                obtain ⟨v1, v2, v3⟩ := cc j hj
                refine ⟨(n_up_o (by omega)).trans v1, ?_, fun hn => ⟨(n_up_o (by omega)).trans (v3 hn).1, (n_up_o (by omega)).trans (v3 hn).2⟩⟩
                by_cases z : j = k
                · rw [z, n_up_e, if_pos (by omega), p_nums_at hkn, if_pos hhn, hto]
                  rfl
                · rw [n_up_o (by omega), v2]
                  by_cases z2 : j < k
                  · rw [if_pos z2, if_pos (by omega)]
                  · rw [if_neg z2, if_neg (by omega)]
              · exact absurd h (nI_nm1 (by omega))
            · have hto : p_to B P k = none := q2
              rw [p_scan_y ⟨hhn, hto⟩] at hsc
              rw [p_res_b hsc] at hall
              refine n_istore_n hC dX12_readAll_113 rfl (Nat.le_of_ble_eq_true rfl) ?_
              refine n_iload_n hC dX12_readAll_114 rfl rfl ?_
              refine n_iconst (v := -1) hC dX12_readAll_115 (by decide) ?_
              refine n_icmp_ne (tgt := 134) hC dX12_readAll_116 (by decide) (fun h => ?_) (fun h => ?_)
              · exact absurd rfl h
              · clear h
                refine n_aload_n hC dX12_readAll_119 rfl rfl ?_
                refine n_bipush (v := 6) hC dX12_readAll_120 (by decide) ?_
                refine n_aload_n hC dX12_readAll_122 rfl rfl ?_
                refine gm_nameAt hC wfX12_131 dX12_readAll_123 ?_
                refine n_iload_n hC dX12_readAll_126 rfl rfl ?_
                first | refine r_ld hC rfl (fun _ => rfl) (by decide) (by first | omega | with_reducible assumption) dX12_readAll_127 ?_ | refine r_needs hC (by first | exact vp_in_nI (by omega) (by decide) | with_reducible assumption) dX12_readAll_127 ?_
                rw [w1]
                refine n_callV hC (x_flaw (d + 4) 6 (nI (P.na.getD k (0, 0)).1) τ1) (Nat.le_refl _) (by decide) (by first | exact rfl | with_reducible assumption) rfl rfl rfl ⟨wmX12_281, wi_yX12_flaw, wv_yX12_flaw, wzX12, wc_yX12_flaw⟩ hy_yX12_flaw rfl (Nat.le_of_ble_eq_true rfl) dX12_readAll_128 (fun rv σ' hpo => ?_)
                obtain ⟨rfl, hσ⟩ := hpo
                rw [hσ, if_pos h5]
                refine n_goto (tgt := 152) hC dX12_readAll_131 (by decide) ?_
                refine n_iinc hC dX12_readAll_152 rfl (show _ + Int32.ofInt 1 = _ + 1 from rfl) ?_
                refine n_goto (tgt := 63) hC dX12_readAll_155 (by decide) ?_
                rw [nI_1]
                refine bad63 _ (6, (P.na.getD k (0, 0)).1) (k + 1) _ ((hF.up (by unfold p_wr; omega)).up (by unfold p_wr; omega)) hall ?_ (n_up_e _ _ _ _) (by omega) (by omega)
                rw [n_up_o (by omega), n_up_e]
                rfl
  -- the words
  have words : ∀ (n : Nat) (P : p_P) (pos : Nat) (τ1 : n_S), p_ok B P → pos ≤ B.length → B.length ≤ n + pos → p_words B B.length ([], [], [], []) 0 = p_words B n P pos → XF i τ τ1 → TB B τ1 → τ1 0 0 5 = 0 → XL P τ1 → XC i P τ1 → τ1 0 0 17 = nI (p_skip B pos) → τ1 0 0 18 = nI (p_wend B (p_skip B pos)) → n_W p l e s m [Value.ref (ad 0 0), Value.int (nI i)].toArray below meth c (rw D ca ad Ex) (d + 5) (fun rv τ' => rv = none ∧ XZ B i τ τ') 31 [some (.ref (ad 0 0)), some (.int (nI i)), none, none] [] τ1 := by
    intro n
    have stop : ∀ (P : p_P) (pos : Nat) (τ1 : n_S), p_ok B P → pos ≤ B.length → ¬ p_skip B pos < B.length → p_words B B.length ([], [], [], []) 0 = .inr P → XF i τ τ1 → TB B τ1 → τ1 0 0 5 = 0 → XL P τ1 → XC i P τ1 → τ1 0 0 17 = nI (p_skip B pos) → n_W p l e s m [Value.ref (ad 0 0), Value.int (nI i)].toArray below meth c (rw D ca ad Ex) (d + 5) (fun rv τ' => rv = none ∧ XZ B i τ τ') 31 [some (.ref (ad 0 0)), some (.int (nI i)), none, none] [] τ1 := by
      intro P pos τ1 hok hpos hge hw hF hB1 h5 hL hX h17
      have s1 := p_skip_le hpos
      have hall : p_all B = p_res B P := by
        unfold p_all
        rw [hw]
      refine n_aload_n hC dX12_readAll_31 rfl rfl ?_
      refine gm_wordAt hC wfX12_241 dX12_readAll_32 ?_
      rw [h17]
      refine n_aload_n hC dX12_readAll_35 rfl rfl ?_
      refine gm_size hC wfX12_227 dX12_readAll_36 ?_
      rw [hB1.1]
      refine n_icmp_ge (tgt := 61) hC dX12_readAll_39 (by decide) (fun h => ?_) (fun h => ?_)
      · refine n_iconst (v := 0) hC dX12_readAll_61 (by decide) ?_
        refine n_istore_n hC dX12_readAll_62 rfl (Nat.le_of_ble_eq_true rfl) ?_
        exact tgt P hok hall P.op.length 0 τ1 _ (by omega) rfl hF hB1 h5 hL hX.1 (fun j hj => ⟨(hX.2 j hj).1, by rw [if_neg (by omega)]; exact (hX.2 j hj).2.1, (hX.2 j hj).2.2⟩)
      · exact absurd (nI_le (by omega) (by omega)) h
    induction n with
    | zero =>
      intro P pos τ1 hok hpos hn hw hF hB1 h5 hL hX h17 h18
      have s1 := p_skip_le hpos
      exact stop P pos τ1 hok hpos (by omega) hw hF hB1 h5 hL hX h17
    | succ n ih =>
      intro P pos τ1 hok hpos hn hw hF hB1 h5 hL hX h17 h18
      have s1 := p_skip_le hpos
      have s2 := p_wend_le s1.2
      by_cases hlt : p_skip B pos < B.length
      · have s3 := p_wend_gt hlt (p_skip_nb hpos hlt)
        refine n_aload_n hC dX12_readAll_31 rfl rfl ?_
        refine gm_wordAt hC wfX12_241 dX12_readAll_32 ?_
        rw [h17]
        refine n_aload_n hC dX12_readAll_35 rfl rfl ?_
        refine gm_size hC wfX12_227 dX12_readAll_36 ?_
        rw [hB1.1]
        refine n_icmp_ge (tgt := 61) hC dX12_readAll_39 (by decide) (fun h => ?_) (fun h => ?_)
        · exact absurd h (nI_ge hlt (by omega))
        · clear h
          refine n_aload_n hC dX12_readAll_42 rfl rfl ?_
          refine gm_fault hC wfX12_271 dX12_readAll_43 ?_
          rw [h5]
          refine n_if_ne (tgt := 61) hC dX12_readAll_46 (by decide) (fun h => ?_) (fun h => ?_)
          · exact absurd rfl h
          · clear h
            refine n_aload_n hC dX12_readAll_49 rfl rfl ?_
            refine n_iload_n hC dX12_readAll_50 rfl rfl ?_
            refine n_callV hC (x_readWord d i (p_skip B pos) (p_wend B (p_skip B pos)) B P τ1 hi hB1 hok hL hX h5 h17 h18 s3 s2.2) (Nat.le_refl _) (by decide) (by first | exact rfl | with_reducible assumption) rfl rfl rfl ⟨wmX12_303, wi_yX12_readWord, wv_yX12_readWord, wzX12, wc_yX12_readWord⟩ hy_yX12_readWord rfl (Nat.le_of_ble_eq_true rfl) dX12_readAll_51 (fun rv τ2 hpo => ?_)
            obtain ⟨rfl, f2, hpo⟩ := hpo
            have hB2 := hB1.mv f2
            rcases hpo with ⟨f, w, g1, g2, g3, g4, g5, g6, g7, g8⟩ | ⟨P', b', g1, g2, g3, g4, g5⟩
            · rw [p_words_f hlt g1] at hw
              have hall : p_all B = .inl f := by
                unfold p_all
                rw [hw]
              refine n_aload_n hC dX12_readAll_54 rfl rfl ?_
              refine n_callV hC (x_takeWord (d + 3) w B τ2 hB2 g7 g8) (Nat.le_refl _) (by decide) (by first | exact rfl | with_reducible assumption) rfl rfl rfl ⟨wmX12_300, wi_yX12_takeWord, wv_yX12_takeWord, wzX12, wc_yX12_takeWord⟩ hy_yX12_takeWord rfl (Nat.le_of_ble_eq_true rfl) dX12_readAll_55 (fun rv σ' hpo => ?_)
              obtain ⟨rfl, hσ⟩ := hpo
              rw [hσ]
              refine n_goto (tgt := 31) hC dX12_readAll_58 (by decide) ?_
              refine bad31 _ f (((hF.trans f2).up (by unfold p_wr; omega)).up (by unfold p_wr; omega)) hall ?_ ?_ g4 g5
              · rw [n_up_o (by omega), n_up_o (by omega), g2]
              · rw [n_up_o (by omega), n_up_o (by omega), g3]
            · rw [p_words_r hlt g1] at hw
              obtain ⟨k1, k2, k3⟩ := p_ok_stp hok s3 s2.2 g1
              refine n_aload_n hC dX12_readAll_54 rfl rfl ?_
              refine n_callV hC (x_takeWord (d + 3) b' B τ2 hB2 k3 g5) (Nat.le_refl _) (by decide) (by first | exact rfl | with_reducible assumption) rfl rfl rfl ⟨wmX12_300, wi_yX12_takeWord, wv_yX12_takeWord, wzX12, wc_yX12_takeWord⟩ hy_yX12_takeWord rfl (Nat.le_of_ble_eq_true rfl) dX12_readAll_55 (fun rv σ' hpo => ?_)
              obtain ⟨rfl, hσ⟩ := hpo
              rw [hσ]
              refine n_goto (tgt := 31) hC dX12_readAll_58 (by decide) ?_
              have fr : XF i τ2 (n_up (n_up τ2 0 0 17 (nI (p_skip B b'))) 0 0 18 (nI (p_wend B (p_skip B b')))) := ((XF.refl i τ2).up (by unfold p_wr; omega)).up (by unfold p_wr; omega)
              refine ih P' b' _ k1 k3 (by omega) hw ((hF.trans f2).trans fr) (hB2.mv fr) ?_ (g3.mv rfl (fun κ x u => ?_)) (g4.mv rfl rfl rfl (fun κ x u => ?_)) ?_ (n_up_e _ _ _ _)
              · rw [n_up_o (by omega), n_up_o (by omega), g2]
              · rw [n_up_o (by omega), n_up_o (by omega)]
              · rw [n_up_o (by omega), n_up_o (by omega)]
              · rw [n_up_o (by omega), n_up_e]
      · rw [p_words_e hlt] at hw
        exact stop P pos τ1 hok hpos hlt hw hF hB1 h5 hL hX h17
  have fr : XF i τ (n_up (n_up (n_up (n_up (n_up τ 0 0 5 0) 0 0 6 0) 0 0 14 0) 10 0 i 0) 0 0 18 0) := (((((XF.refl i τ).up (by unfold p_wr; omega)).up (by unfold p_wr; omega)).up (by unfold p_wr; omega)).up (by unfold p_wr; omega)).up (by unfold p_wr; omega)
  refine n_aload_n hC dX12_readAll_0 rfl rfl ?_
  refine n_iconst (v := 0) hC dX12_readAll_1 (by decide) ?_
  refine pm_fault hC wfX12_271 dX12_readAll_2 ?_
  refine n_aload_n hC dX12_readAll_5 rfl rfl ?_
  refine n_iconst (v := 0) hC dX12_readAll_6 (by decide) ?_
  refine pm_place hC wfX12_274 dX12_readAll_7 ?_
  refine n_aload_n hC dX12_readAll_10 rfl rfl ?_
  refine n_iconst (v := 0) hC dX12_readAll_11 (by decide) ?_
  refine pm_labels hC wfX12_268 dX12_readAll_12 ?_
  refine n_aload_n hC dX12_readAll_15 rfl rfl ?_
  refine gm_lengths hC wfX12_115 dX12_readAll_16 ?_
  refine n_iload_n hC dX12_readAll_19 rfl rfl ?_
  refine n_iconst (v := 0) hC dX12_readAll_20 (by decide) ?_
  refine r_st hC rfl (fun _ h => h) (fun _ => rfl) (by decide) (by first | omega | with_reducible assumption) dX12_readAll_21 ?_
  refine n_aload_n hC dX12_readAll_22 rfl rfl ?_
  refine n_iconst (v := 0) hC dX12_readAll_23 (by decide) ?_
  refine pm_wordEnd hC wfX12_230 dX12_readAll_24 ?_
  refine n_aload_n hC dX12_readAll_27 rfl rfl ?_
  refine n_callV hC (x_takeWord (d + 3) 0 B _ (hB.mv fr) (Nat.zero_le _) (n_up_e _ _ _ _)) (Nat.le_refl _) (by decide) (by first | exact rfl | with_reducible assumption) rfl rfl rfl ⟨wmX12_300, wi_yX12_takeWord, wv_yX12_takeWord, wzX12, wc_yX12_takeWord⟩ hy_yX12_takeWord rfl (Nat.le_of_ble_eq_true rfl) dX12_readAll_28 (fun rv σ' hpo => ?_)
  obtain ⟨rfl, hσ⟩ := hpo
  rw [hσ]
  have fr2 : XF i τ (n_up (n_up (n_up (n_up (n_up (n_up (n_up τ 0 0 5 0) 0 0 6 0) 0 0 14 0) 10 0 i 0) 0 0 18 0) 0 0 17 (nI (p_skip B 0))) 0 0 18 (nI (p_wend B (p_skip B 0)))) := (fr.up (by unfold p_wr; omega)).up (by unfold p_wr; omega)
  refine words B.length ([], [], [], []) 0 _ (p_ok_0 B) (Nat.zero_le _) (by omega) rfl fr2 (hB.mv fr2) ?_ ⟨?_, fun j hj => ?_⟩ ⟨?_, fun j hj => ?_⟩ ?_ (n_up_e _ _ _ _)
  · rw [n_up_o (by omega), n_up_o (by omega), n_up_o (by omega), n_up_o (by omega), n_up_o (by omega), n_up_o (by omega), n_up_e]
  · rw [n_up_o (by omega), n_up_o (by omega), n_up_o (by omega), n_up_o (by omega), n_up_e]
    rfl
  · exact absurd hj (Nat.not_lt_zero _)
  · rw [n_up_o (by omega), n_up_o (by omega), n_up_o (by omega), n_up_e]
    rfl
  · exact absurd hj (Nat.not_lt_zero _)
  · rw [n_up_o (by omega), n_up_e]
end RP7
