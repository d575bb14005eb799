def m_neL : List Nat := [0, 1, 1, 2, 2, 3, 1, 2, 2, 2, 2, 2, 2, 2, 2, 2, 2, 2, 2, 2, 0, 1, 0, 0, 1, 1, 2, 1, 1, 2, 2, 0, 1, 0, 0, 1, 1, 0, 1, 0, 1, 1, 1]
def m_grL : List Nat := [1, 1, 0, 0, 1, 0, 0, 0, 0, 0, 0, 0, 0, 0, 0, 0, 0, 0, 0, 0, 0, 0, 0, 0, 0, 0, 0, 0, 0, 0, 0, 2, 0, 1, 1, 1, 0, 1, 0, 0, 0, 0, 0]
def m_ne (k : Nat) : Nat := m_neL.getD k 0
def m_gr (k : Nat) : Nat := m_grL.getD k 0
theorem m_ne_ok : ∀ k, k < 43 → cE_ne.getD k 0 = nI (m_ne k) := by decide +kernel
theorem m_gr_ok : ∀ k, k < 43 → cE_gr.getD k 0 = nI (m_gr k) := by decide +kernel
theorem m_ne_le : ∀ k, k < 43 → m_ne k ≤ 3 ∧ m_gr k ≤ 2 := by decide +kernel
/-- the must-wait instructions: the state behind -/
def m_mw (M : n_M) (q k : Nat) (M' : n_M) : Prop :=
  (k = 31 ∧ M.2 2 (2 * q) = [] ∧ M' = m_susp M q 2 0) ∨ (k = 33 ∧ M.2 2 (2 * q + 1) = [] ∧ M' = m_susp M q 4 0) ∨
  (k = 35 ∧ ∃ t x r, M.2 0 q = t ++ [x] ∧ m_kid M q x r ∧ m_al M r ∧ M' = m_susp M q 3 (nI r))
def m_nw (M : n_M) (q k : Nat) : Prop := (k = 31 → M.2 2 (2 * q) ≠ []) ∧ (k = 33 → M.2 2 (2 * q + 1) ≠ []) ∧ (k = 35 → ∃ t x, M.2 0 q = t ++ [x] ∧ ¬ ∃ r, m_kid M q x r ∧ m_al M r)
theorem m_last1 {l : List Int32} (h : 1 ≤ l.length) : ∃ t a, l = t ++ [a] := by
  cases h2 : l.reverse with
  | nil => have : l = [] := by simpa using h2
           subst this
           simp at h
  | cons a t => exact ⟨t.reverse, a, by have := congrArg List.reverse h2; simpa using this⟩
theorem m_last2 {l : List Int32} (h : 2 ≤ l.length) : ∃ t a b, l = t ++ [a] ++ [b] := by
  obtain ⟨t, b, rfl⟩ := m_last1 (l := l) (by omega)
  obtain ⟨t, a, rfl⟩ := m_last1 (l := t) (by simp at h; omega)
  exact ⟨t, a, b, rfl⟩
theorem m_last3 {l : List Int32} (h : 3 ≤ l.length) : ∃ t a b c, l = t ++ [a] ++ [b] ++ [c] := by
  obtain ⟨t, c, rfl⟩ := m_last1 (l := l) (by omega)
  obtain ⟨t, a, b, rfl⟩ := m_last2 (l := t) (by simp at h; omega)
  exact ⟨t, a, b, c, rfl⟩
theorem m_nil0 {l : List Int32} (hl : l.length ≤ 100) : nI l.length = 0 ↔ l = [] := by
  constructor
  · intro h
    exact List.eq_nil_of_length_eq_zero ((nI_eq (b := 0) (by omega) (by decide)).mp h)
  · intro h
    rw [h]
    rfl
section WK7
variable {l : Launch} {D : va_G} {ca : Nat → ClassId} {ad : Nat → Nat → Nat} {ae : Nat → Nat} {ts : Nat} {Ex : State → Heap → Prop}
theorem c_mustWait (hX : ∀ U H, Ex U H → cE ad ae ts U H) (d q k : Nat) (hk : k < 43) (M : n_M) (σ : n_S) (hq : n_V q) (hM : RepC M σ) (hI : IR M) (hne : m_ne k ≤ (M.2 0 q).length) : n_Ct l (cw D ca ad ae Ex) (d + 3) yX10_mustWait cX10_mustWait 4 (some .boolean) [.ref (ad 20 0), .ref (ad 21 q), .ref (ae k)] σ (fun rv σ' => (∃ M', m_mw M q k M' ∧ rv = some (.int 1) ∧ RepC M' σ') ∨ (m_nw M q k ∧ rv = some (.int 0) ∧ RepC M σ')) := by
  obtain ⟨hq1, hq12⟩ := id hq
  have hj : 2 ≤ 2 * q ∧ 2 * q ≤ 25 := by omega
  have hj2 : 2 ≤ 2 * q + 1 ∧ 2 * q + 1 ≤ 25 := by omega
  refine n_ofW (by decide) (Nat.le_of_ble_eq_true rfl) ?_
  intro p e s m below meth c hC
  have hd : cw_dom 21 q := hq
  have hb : cw_dom 24 (2 * q) := hj
  have hb2 : cw_dom 24 (2 * q + 1) := hj2
  obtain ⟨a1, a2, -⟩ := hM.2 2 (2 * q) hj
  have a1 : (M.2 2 (2 * q)).length ≤ 8 := a1
  have a2 : σ 24 (2 * q) 2 = nI (M.2 2 (2 * q)).length := a2
  obtain ⟨b1, b2, -⟩ := hM.2 2 (2 * q + 1) hj2
  have b1 : (M.2 2 (2 * q + 1)).length ≤ 8 := b1
  have b2 : σ 24 (2 * q + 1) 2 = nI (M.2 2 (2 * q + 1)).length := b2
  by_cases k31 : k = 31
  · subst k31
    refine n_aload_n hC dX10_mustWait_0 rfl rfl ?_
    refine e_gs hC hX (k := 31) (by decide) wfX10_88 dX10_mustWait_1 ?_
    first | refine e_acne_f (tgt := 29) hC dX10_mustWait_4 (by decide) ?_ | refine e_acne_t (tgt := 29) hC hX (by omega) (by omega) (by omega) dX10_mustWait_4 (by decide) ?_
    refine n_aload_n hC dX10_mustWait_7 rfl rfl ?_
    refine g21_box hC (by first | exact rfl | with_reducible assumption) wfX10_92 dX10_mustWait_8 ?_
    refine g24_size hC (by first | exact rfl | with_reducible assumption) wfX10_96 dX10_mustWait_11 ?_
    rw [a2]
    refine n_if_ne (tgt := 29) hC dX10_mustWait_14 (by decide) (fun h => ?_) (fun h => ?_)
    · have hb0 : M.2 2 (2 * q) ≠ [] := fun z => h ((m_nil0 (by omega)).mpr z)
      clear h
      refine n_aload_n hC dX10_mustWait_29 rfl rfl ?_
      refine e_gs hC hX (k := 33) (by decide) wfX10_105 dX10_mustWait_30 ?_
      first | refine e_acne_f (tgt := 58) hC dX10_mustWait_33 (by decide) ?_ | refine e_acne_t (tgt := 58) hC hX (by omega) (by omega) (by omega) dX10_mustWait_33 (by decide) ?_
      refine n_aload_n hC dX10_mustWait_58 rfl rfl ?_
      refine e_gs hC hX (k := 35) (by decide) wfX10_111 dX10_mustWait_59 ?_
      first | refine e_acne_f (tgt := 104) hC dX10_mustWait_62 (by decide) ?_ | refine e_acne_t (tgt := 104) hC hX (by omega) (by omega) (by omega) dX10_mustWait_62 (by decide) ?_
      refine n_iconst (v := 0) hC dX10_mustWait_104 (by decide) ?_
      refine n_zret hC dX10_mustWait_105 rfl ?_
      exact Or.inr ⟨⟨fun _ => hb0, fun z => by omega, fun z => by omega⟩, rfl, hM⟩
    · have hb0 : M.2 2 (2 * q) = [] := (m_nil0 (by omega)).mp h
      clear h
      refine n_aload_n hC dX10_mustWait_17 rfl rfl ?_
      refine g20_desk hC (by first | exact rfl | with_reducible assumption) wfX10_15 dX10_mustWait_18 ?_
      refine n_aload_n hC dX10_mustWait_21 rfl rfl ?_
      refine n_iconst (v := 2) hC dX10_mustWait_22 (by decide) ?_
      refine n_iconst (v := 0) hC dX10_mustWait_23 (by decide) ?_
      refine n_callV hC (c_suspend (d + 1) q 2 0 M σ hM hq (hI.1 q hq)) (Nat.le_refl _) (by decide) (by first | exact rfl | with_reducible assumption) rfl rfl rfl ⟨wmX10_101, wi_yX2_suspend, wv_yX2_suspend, wzX2, wc_yX2_suspend⟩ hy_yX2_suspend rfl (Nat.le_of_ble_eq_true rfl) dX10_mustWait_24 (fun rv σ' hpo => ?_)
      obtain ⟨rfl, h1⟩ := hpo
      refine n_iconst (v := 1) hC dX10_mustWait_27 (by decide) ?_
      refine n_zret hC dX10_mustWait_28 rfl ?_
      exact Or.inl ⟨_, Or.inl ⟨rfl, hb0, rfl⟩, rfl, h1⟩
  · by_cases k33 : k = 33
    · subst k33
      refine n_aload_n hC dX10_mustWait_0 rfl rfl ?_
      refine e_gs hC hX (k := 31) (by decide) wfX10_88 dX10_mustWait_1 ?_
      first | refine e_acne_f (tgt := 29) hC dX10_mustWait_4 (by decide) ?_ | refine e_acne_t (tgt := 29) hC hX (by omega) (by omega) (by omega) dX10_mustWait_4 (by decide) ?_
      refine n_aload_n hC dX10_mustWait_29 rfl rfl ?_
      refine e_gs hC hX (k := 33) (by decide) wfX10_105 dX10_mustWait_30 ?_
      first | refine e_acne_f (tgt := 58) hC dX10_mustWait_33 (by decide) ?_ | refine e_acne_t (tgt := 58) hC hX (by omega) (by omega) (by omega) dX10_mustWait_33 (by decide) ?_
      refine n_aload_n hC dX10_mustWait_36 rfl rfl ?_
      refine g21_keys hC (by first | exact rfl | with_reducible assumption) wfX10_108 dX10_mustWait_37 ?_
      refine g24_size hC (by first | exact rfl | with_reducible assumption) wfX10_96 dX10_mustWait_40 ?_
      rw [b2]
      refine n_if_ne (tgt := 58) hC dX10_mustWait_43 (by decide) (fun h => ?_) (fun h => ?_)
      · have hb0 : M.2 2 (2 * q + 1) ≠ [] := fun z => h ((m_nil0 (by omega)).mpr z)
        clear h
        refine n_aload_n hC dX10_mustWait_58 rfl rfl ?_
        refine e_gs hC hX (k := 35) (by decide) wfX10_111 dX10_mustWait_59 ?_
        first | refine e_acne_f (tgt := 104) hC dX10_mustWait_62 (by decide) ?_ | refine e_acne_t (tgt := 104) hC hX (by omega) (by omega) (by omega) dX10_mustWait_62 (by decide) ?_
        refine n_iconst (v := 0) hC dX10_mustWait_104 (by decide) ?_
        refine n_zret hC dX10_mustWait_105 rfl ?_
        exact Or.inr ⟨⟨fun z => by omega, fun _ => hb0, fun z => by omega⟩, rfl, hM⟩
      · have hb0 : M.2 2 (2 * q + 1) = [] := (m_nil0 (by omega)).mp h
        clear h
        refine n_aload_n hC dX10_mustWait_46 rfl rfl ?_
        refine g20_desk hC (by first | exact rfl | with_reducible assumption) wfX10_15 dX10_mustWait_47 ?_
        refine n_aload_n hC dX10_mustWait_50 rfl rfl ?_
        refine n_iconst (v := 4) hC dX10_mustWait_51 (by decide) ?_
        refine n_iconst (v := 0) hC dX10_mustWait_52 (by decide) ?_
        refine n_callV hC (c_suspend (d + 1) q 4 0 M σ hM hq (hI.1 q hq)) (Nat.le_refl _) (by decide) (by first | exact rfl | with_reducible assumption) rfl rfl rfl ⟨wmX10_101, wi_yX2_suspend, wv_yX2_suspend, wzX2, wc_yX2_suspend⟩ hy_yX2_suspend rfl (Nat.le_of_ble_eq_true rfl) dX10_mustWait_53 (fun rv σ' hpo => ?_)
        obtain ⟨rfl, h1⟩ := hpo
        refine n_iconst (v := 1) hC dX10_mustWait_56 (by decide) ?_
        refine n_zret hC dX10_mustWait_57 rfl ?_
        exact Or.inl ⟨_, Or.inr (Or.inl ⟨rfl, hb0, rfl⟩), rfl, h1⟩
    · by_cases k35 : k = 35
      · subst k35
        obtain ⟨t, x, hst⟩ := m_last1 (l := M.2 0 q) hne
        refine n_aload_n hC dX10_mustWait_0 rfl rfl ?_
        refine e_gs hC hX (k := 31) (by decide) wfX10_88 dX10_mustWait_1 ?_
        first | refine e_acne_f (tgt := 29) hC dX10_mustWait_4 (by decide) ?_ | refine e_acne_t (tgt := 29) hC hX (by omega) (by omega) (by omega) dX10_mustWait_4 (by decide) ?_
        refine n_aload_n hC dX10_mustWait_29 rfl rfl ?_
        refine e_gs hC hX (k := 33) (by decide) wfX10_105 dX10_mustWait_30 ?_
        first | refine e_acne_f (tgt := 58) hC dX10_mustWait_33 (by decide) ?_ | refine e_acne_t (tgt := 58) hC hX (by omega) (by omega) (by omega) dX10_mustWait_33 (by decide) ?_
        refine n_aload_n hC dX10_mustWait_58 rfl rfl ?_
        refine e_gs hC hX (k := 35) (by decide) wfX10_111 dX10_mustWait_59 ?_
        first | refine e_acne_f (tgt := 104) hC dX10_mustWait_62 (by decide) ?_ | refine e_acne_t (tgt := 104) hC hX (by omega) (by omega) (by omega) dX10_mustWait_62 (by decide) ?_
        refine n_aload_n hC dX10_mustWait_65 rfl rfl ?_
        refine g20_desk hC (by first | exact rfl | with_reducible assumption) wfX10_15 dX10_mustWait_66 ?_
        refine n_aload_n hC dX10_mustWait_69 rfl rfl ?_
        refine n_aload_n hC dX10_mustWait_70 rfl rfl ?_
        refine n_callV hC (c_top (d + 2) q x t M σ hM hq hst) (Nat.le_refl _) (by decide) (by first | exact rfl | with_reducible assumption) rfl rfl rfl ⟨wmX10_114, wi_yX9_top, wv_yX9_top, wzX9, wc_yX9_top⟩ hy_yX9_top rfl (Nat.le_of_ble_eq_true rfl) dX10_mustWait_71 (fun rv σ' hpo => ?_)
        obtain ⟨rfl, rfl⟩ := hpo
        refine n_callV hC (c_findChild (d + 1) q x M _ hM hq) (Nat.le_refl _) (by decide) (by first | exact rfl | with_reducible assumption) rfl rfl rfl ⟨wmX10_117, wi_yX2_findChild, wv_yX2_findChild, wzX2, wc_yX2_findChild⟩ hy_yX2_findChild rfl (Nat.le_of_ble_eq_true rfl) dX10_mustWait_74 (fun rv σ' hpo => ?_)
        obtain ⟨hpo, rfl⟩ := hpo
        rcases hpo with ⟨r, hr, ex, ep, rfl⟩ | ⟨hn, rfl⟩
        · have hd2 : cw_dom 21 r := hr
          first | refine n_astore_n hC dX10_mustWait_77 rfl (Nat.le_of_ble_eq_true rfl) ?_ | refine n_astore_nN hC dX10_mustWait_77 rfl (Nat.le_of_ble_eq_true rfl) ?_
          refine n_aload_n hC dX10_mustWait_78 rfl rfl ?_
          first | refine n_ifnull hC dX10_mustWait_79 ?_ | refine n_ifnullN (tgt := 104) hC dX10_mustWait_79 (by decide) ?_
          refine n_aload_n hC dX10_mustWait_82 rfl rfl ?_
          refine n_callV hC (c_alive (d + 2) r M _ hM hr) (Nat.le_refl _) (by decide) (by first | exact rfl | with_reducible assumption) rfl rfl rfl ⟨wmX10_121, wi_yX9_isAlive, wv_yX9_isAlive, wzX9, wc_yX9_isAlive⟩ hy_yX9_isAlive rfl (Nat.le_of_ble_eq_true rfl) dX10_mustWait_83 (fun rv σ' hpo => ?_)
          obtain ⟨hpo, rfl⟩ := hpo
          rcases hpo with ⟨ha, rfl⟩ | ⟨ha, rfl⟩
          · refine n_if_eq (tgt := 104) hC dX10_mustWait_86 (by decide) (fun h => ?_) (fun h => ?_)
            · exact absurd h (by decide)
            · clear h
              refine n_aload_n hC dX10_mustWait_89 rfl rfl ?_
              refine g20_desk hC (by first | exact rfl | with_reducible assumption) wfX10_15 dX10_mustWait_90 ?_
              refine n_aload_n hC dX10_mustWait_93 rfl rfl ?_
              refine n_iconst (v := 3) hC dX10_mustWait_94 (by decide) ?_
              refine n_aload_n hC dX10_mustWait_95 rfl rfl ?_
              refine g21_number hC (by first | exact rfl | with_reducible assumption) wfX10_51 dX10_mustWait_96 ?_
              refine n_callV hC (c_suspend (d + 1) q 3 (nI r) M _ hM hq (hI.1 q hq)) (Nat.le_refl _) (by decide) (by first | exact rfl | with_reducible assumption) rfl rfl rfl ⟨wmX10_101, wi_yX2_suspend, wv_yX2_suspend, wzX2, wc_yX2_suspend⟩ hy_yX2_suspend rfl (Nat.le_of_ble_eq_true rfl) dX10_mustWait_99 (fun rv σ' hpo => ?_)
              obtain ⟨rfl, h1⟩ := hpo
              refine n_iconst (v := 1) hC dX10_mustWait_102 (by decide) ?_
              refine n_zret hC dX10_mustWait_103 rfl ?_
              exact Or.inl ⟨_, Or.inr (Or.inr ⟨rfl, t, x, r, hst, ⟨hr, ex, ep⟩, ha, rfl⟩), rfl, h1⟩
          · refine n_if_eq (tgt := 104) hC dX10_mustWait_86 (by decide) (fun h => ?_) (fun h => ?_)
            · refine n_iconst (v := 0) hC dX10_mustWait_104 (by decide) ?_
              refine n_zret hC dX10_mustWait_105 rfl ?_
              refine Or.inr ⟨⟨fun z => by omega, fun z => by omega, fun _ => ⟨t, x, hst, fun z => ?_⟩⟩, rfl, hM⟩
              obtain ⟨r2, ⟨hr2, ex2, -⟩, g⟩ := z
              have := nV_inj hr hr2 (ex.symm.trans ex2)
              subst this
              exact ha g
            · exact absurd rfl h
        · first | refine n_astore_n hC dX10_mustWait_77 rfl (Nat.le_of_ble_eq_true rfl) ?_ | refine n_astore_nN hC dX10_mustWait_77 rfl (Nat.le_of_ble_eq_true rfl) ?_
          refine n_aload_nN hC dX10_mustWait_78 rfl rfl ?_
          first | refine n_ifnull hC dX10_mustWait_79 ?_ | refine n_ifnullN (tgt := 104) hC dX10_mustWait_79 (by decide) ?_
          refine n_iconst (v := 0) hC dX10_mustWait_104 (by decide) ?_
          refine n_zret hC dX10_mustWait_105 rfl ?_
          exact Or.inr ⟨⟨fun z => by omega, fun z => by omega, fun _ => ⟨t, x, hst, fun z => by obtain ⟨r2, hk2, -⟩ := z; exact hn ⟨r2, hk2⟩⟩⟩, rfl, hM⟩
      · refine n_aload_n hC dX10_mustWait_0 rfl rfl ?_
        refine e_gs hC hX (k := 31) (by decide) wfX10_88 dX10_mustWait_1 ?_
        first | refine e_acne_f (tgt := 29) hC dX10_mustWait_4 (by decide) ?_ | refine e_acne_t (tgt := 29) hC hX (by omega) (by omega) (by omega) dX10_mustWait_4 (by decide) ?_
        refine n_aload_n hC dX10_mustWait_29 rfl rfl ?_
        refine e_gs hC hX (k := 33) (by decide) wfX10_105 dX10_mustWait_30 ?_
        first | refine e_acne_f (tgt := 58) hC dX10_mustWait_33 (by decide) ?_ | refine e_acne_t (tgt := 58) hC hX (by omega) (by omega) (by omega) dX10_mustWait_33 (by decide) ?_
        refine n_aload_n hC dX10_mustWait_58 rfl rfl ?_
        refine e_gs hC hX (k := 35) (by decide) wfX10_111 dX10_mustWait_59 ?_
        first | refine e_acne_f (tgt := 104) hC dX10_mustWait_62 (by decide) ?_ | refine e_acne_t (tgt := 104) hC hX (by omega) (by omega) (by omega) dX10_mustWait_62 (by decide) ?_
        refine n_iconst (v := 0) hC dX10_mustWait_104 (by decide) ?_
        refine n_zret hC dX10_mustWait_105 rfl ?_
        exact Or.inr ⟨⟨fun z => absurd z k31, fun z => absurd z k33, fun z => absurd z k35⟩, rfl, hM⟩
theorem c_obstacle (hX : ∀ U H, Ex U H → cE ad ae ts U H) (d q k : Nat) (hk : k < 43) (M : n_M) (σ : n_S) (hq : n_V q) (hM : RepC M σ) (hI : IR M) : n_Ct l (cw D ca ad ae Ex) (d + 4) yX10_obstacleTo cX10_obstacleTo 3 (some .int) [.ref (ad 20 0), .ref (ad 21 q), .ref (ae k)] σ (fun rv σ' => ((M.2 0 q).length < m_ne k ∧ rv = some (.int (-2)) ∧ RepC M σ') ∨ (m_ne k ≤ (M.2 0 q).length ∧ ((∃ M', m_mw M q k M' ∧ rv = some (.int 2) ∧ RepC M' σ') ∨ (m_nw M q k ∧ ((40 < (M.2 0 q).length + m_gr k ∧ rv = some (.int (-3)) ∧ RepC M σ') ∨ ((M.2 0 q).length + m_gr k ≤ 40 ∧ rv = some (.int 0) ∧ RepC M σ')))))) := by
  obtain ⟨g1, g2⟩ := m_ne_le k hk
  have h40 := hM.stk hq
  refine n_ofW (by decide) (Nat.le_of_ble_eq_true rfl) ?_
  intro p e s m below meth c hC
  have hd : cw_dom 21 q := hq
  have e1 : σ 21 q 5 = nI (M.2 0 q).length := (hM.2 0 q hq).2.1
  refine n_aload_n hC dX10_obstacleTo_0 rfl rfl ?_
  refine g21_depth hC (by first | exact rfl | with_reducible assumption) wfX10_73 dX10_obstacleTo_1 ?_
  rw [e1]
  refine n_aload_n hC dX10_obstacleTo_4 rfl rfl ?_
  refine e_gf hC hX (by omega) ("ShareMonitor$Op", "needs", "I", cE_ne) (by simp [cE_F]) wfX10_76 dX10_obstacleTo_5 ?_
  rw [m_ne_ok k hk]
  refine n_icmp_ge (tgt := 14) hC dX10_obstacleTo_8 (by decide) (fun h => ?_) (fun h => ?_)
  · have hle : m_ne k ≤ (M.2 0 q).length := (nI_leI (by omega) (by omega)).mp h
    clear h
    refine n_aload_n hC dX10_obstacleTo_14 rfl rfl ?_
    refine n_aload_n hC dX10_obstacleTo_15 rfl rfl ?_
    refine n_aload_n hC dX10_obstacleTo_16 rfl rfl ?_
    refine n_callV hC (c_mustWait hX d q k hk M σ hq hM hI hle) (Nat.le_refl _) (by decide) (by first | exact rfl | with_reducible assumption) rfl rfl rfl ⟨wmX10_81, wi_yX10_mustWait, wv_yX10_mustWait, wzX10, wc_yX10_mustWait⟩ hy_yX10_mustWait rfl (Nat.le_of_ble_eq_true rfl) dX10_obstacleTo_17 (fun rv σ' hpo => ?_)
    rcases hpo with ⟨M', hw, rfl, h1⟩ | ⟨hw, rfl, h1⟩
    · refine n_if_eq (tgt := 25) hC dX10_obstacleTo_20 (by decide) (fun h => ?_) (fun h => ?_)
      · exact absurd h (by decide)
      · refine n_iconst (v := 2) hC dX10_obstacleTo_23 (by decide) ?_
        refine n_iret hC dX10_obstacleTo_24 ?_
        exact Or.inr ⟨hle, Or.inl ⟨M', hw, rfl, h1⟩⟩
    · refine n_if_eq (tgt := 25) hC dX10_obstacleTo_20 (by decide) (fun h => ?_) (fun h => ?_)
      · clear h
        refine n_aload_n hC dX10_obstacleTo_25 rfl rfl ?_
        refine g21_depth hC (by first | exact rfl | with_reducible assumption) wfX10_73 dX10_obstacleTo_26 ?_
        rw [show σ' 21 q 5 = nI (M.2 0 q).length from (h1.2 0 q hq).2.1]
        refine n_aload_n hC dX10_obstacleTo_29 rfl rfl ?_
        refine e_gf hC hX (by omega) ("ShareMonitor$Op", "grows", "I", cE_gr) (by simp [cE_F]) wfX10_85 dX10_obstacleTo_30 ?_
        rw [m_gr_ok k hk]
        refine n_iadd hC dX10_obstacleTo_33 ?_
        rw [nI_add]
        refine n_bipush (v := 40) hC dX10_obstacleTo_34 (by decide) ?_
        refine n_icmp_le (tgt := 44) hC dX10_obstacleTo_36 (by decide) (fun h => ?_) (fun h => ?_)
        · refine n_iconst (v := 0) hC dX10_obstacleTo_44 (by decide) ?_
          refine n_iret hC dX10_obstacleTo_45 ?_
          exact Or.inr ⟨hle, Or.inr ⟨hw, Or.inr ⟨(nI_leI (b := 40) (by omega) (by decide)).mp h, rfl, h1⟩⟩⟩
        · refine n_bipush (v := -3) hC dX10_obstacleTo_39 (by decide) ?_
          refine n_goto (tgt := 45) hC dX10_obstacleTo_41 (by decide) ?_
          refine n_iret hC dX10_obstacleTo_45 ?_
          exact Or.inr ⟨hle, Or.inr ⟨hw, Or.inl ⟨Nat.lt_of_not_le fun z => h (nI_le (b := 40) z (by decide)), rfl, h1⟩⟩⟩
      · exact absurd rfl h
  · refine n_bipush (v := -2) hC dX10_obstacleTo_11 (by decide) ?_
    refine n_iret hC dX10_obstacleTo_13 ?_
    exact Or.inl ⟨Nat.lt_of_not_le fun z => h (nI_le z (by omega)), rfl, hM⟩
end WK7
