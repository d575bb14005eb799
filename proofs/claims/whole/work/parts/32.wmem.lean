section WK3
variable {l : Launch} {D : va_G} {ca : Nat → ClassId} {ad : Nat → Nat → Nat} {ae : Nat → Nat} {ts : Nat} {Ex : State → Heap → Prop}
theorem c_release (d q : Nat) (x : Int32) (M : n_M) (σ : n_S) (hq : 1 ≤ q ∧ q ≤ 12) (hM : RepC M σ) (hB : IB M) : n_Ct l (cw D ca ad ae Ex) (d + 3) yX10_release cX10_release 3 (some .int) [.ref (ad 20 0), .ref (ad 21 q), .int x] σ (fun rv σ' => (m_hf M (nI q) x ∧ rv = some (.int 0) ∧ RepC (m_free M (nI q) x) σ') ∨ (¬ m_hf M (nI q) x ∧ rv = some (.int (-1)) ∧ RepC M σ')) := by
  refine n_ofW (by decide) (Nat.le_of_ble_eq_true rfl) ?_
  intro p e s m below meth c hC
  have hd : cw_dom 21 q := hq
  refine n_aload_n hC dX10_release_0 rfl rfl ?_
  refine g20_desk hC (by first | exact rfl | with_reducible assumption) wfX10_15 dX10_release_1 ?_
  refine g9_memory hC (by first | exact rfl | with_reducible assumption) wfX10_207 dX10_release_4 ?_
  refine n_aload_n hC dX10_release_7 rfl rfl ?_
  refine g21_number hC (by first | exact rfl | with_reducible assumption) wfX10_51 dX10_release_8 ?_
  refine n_iload_n hC dX10_release_11 rfl rfl ?_
  refine n_callV hC (c_holdsFrom (d + 1) (nI q) x M σ hM) (Nat.le_refl _) (by decide) (by first | exact rfl | with_reducible assumption) rfl rfl rfl ⟨wmX10_236, wi_yX3_holdsFrom, wv_yX3_holdsFrom, wzX3, wc_yX3_holdsFrom⟩ hy_yX3_holdsFrom rfl (Nat.le_of_ble_eq_true rfl) dX10_release_12 (fun rv σ' hpo => ?_)
  obtain ⟨hpo, rfl⟩ := hpo
  rcases hpo with ⟨h1, rfl⟩ | ⟨h1, rfl⟩
  · refine n_if_ne (tgt := 20) hC dX10_release_15 (by decide) (fun h => ?_) (fun h => ?_)
    · clear h
      refine n_aload_n hC dX10_release_20 rfl rfl ?_
      refine g20_desk hC (by first | exact rfl | with_reducible assumption) wfX10_15 dX10_release_21 ?_
      refine g9_memory hC (by first | exact rfl | with_reducible assumption) wfX10_207 dX10_release_24 ?_
      refine n_aload_n hC dX10_release_27 rfl rfl ?_
      refine g21_number hC (by first | exact rfl | with_reducible assumption) wfX10_51 dX10_release_28 ?_
      refine n_iload_n hC dX10_release_31 rfl rfl ?_
      refine n_callV hC (c_regain d (nI q) x (m_nsl M) (M.2 11 0) M _ hM hB) (Nat.le_refl _) (by decide) (by first | exact rfl | with_reducible assumption) rfl rfl rfl ⟨wmX10_239, wi_yX3_regain, wv_yX3_regain, wzX3, wc_yX3_regain⟩ hy_yX3_regain rfl (Nat.le_of_ble_eq_true rfl) dX10_release_32 (fun rv σ' hpo => ?_)
      obtain ⟨rfl, h2⟩ := hpo
      refine n_iconst (v := 0) hC dX10_release_35 (by decide) ?_
      refine n_iret hC dX10_release_36 ?_
      exact Or.inl ⟨h1, rfl, h2⟩
    · exact absurd h (by decide)
  · refine n_if_ne (tgt := 20) hC dX10_release_15 (by decide) (fun h => ?_) (fun h => ?_)
    · exact absurd rfl h
    · refine n_iconst (v := -1) hC dX10_release_18 (by decide) ?_
      refine n_iret hC dX10_release_19 ?_
      exact Or.inr ⟨h1, rfl, hM⟩
theorem m_hf_j {M : n_M} {o x : Int32} (hB : IB M) (h : m_hf M o x) : ∃ j, j < (m_nsl M).length ∧ x = nI ((m_nsl M).take j).sum ∧ (M.2 11 0).getD j 0 = o := by
  obtain ⟨k, hk, rfl, h1, h2⟩ := h
  obtain ⟨⟨b1, b2, b3⟩, -, -, b6, b7⟩ := hB
  rw [b6 k hk] at h1
  rw [b7 k hk] at h2
  have key : ∀ (ns : List Nat) (os : List Int32) (k : Nat), ns.length = os.length → 0 < m_sz ns k → ∃ j, j < ns.length ∧ k = (ns.take j).sum ∧ m_hs ns os k = os.getD j 0 := by
    intro ns
    induction ns with
    | nil => intro os k _ h; simp [m_sz] at h
    | cons n ns ih =>
      intro os k hl h
      cases os with
      | nil => simp at hl
      | cons o os =>
        simp only [m_sz] at h
        by_cases h0 : k = 0
        · subst h0
          rw [if_pos rfl] at h
          refine ⟨0, by simp, by simp, ?_⟩
          simp [m_hs, h]
        · rw [if_neg h0] at h
          by_cases h3 : k < n
          · rw [if_pos h3] at h
            omega
          · rw [if_neg h3] at h
            obtain ⟨j, hj, e1, e2⟩ := ih os (k - n) (by simpa using hl) h
            refine ⟨j + 1, by simpa using hj, by simp; omega, ?_⟩
            simp only [m_hs]
            rw [if_neg h3, e2]
            simp
  have hpos : 0 < m_sz (m_nsl M) k := Nat.pos_of_ne_zero fun z => by
    rw [z] at h2
    exact absurd h2 (by decide)
  obtain ⟨j, hj, e1, e2⟩ := key (m_nsl M) (M.2 11 0) k b1 hpos
  exact ⟨j, hj, by rw [← e1], by rw [← e2]; exact h1⟩
def m_own1 (M : n_M) (j : Nat) (o : Int32) : n_M := m_mem M (m_nsl M) ((M.2 11 0).take j ++ o :: (M.2 11 0).drop (j + 1))
def m_at (M : n_M) (o x : Int32) (j : Nat) : Prop := j < (m_nsl M).length ∧ x = nI ((m_nsl M).take j).sum ∧ (M.2 11 0).getD j 0 = o
theorem IB_l {M : n_M} (h : IB M) {c i : Nat} {v : List Int32} (hc : c ≠ 10 ∧ c ≠ 11) : IB (m_l M c i v) := by
  have e1 : (m_l M c i v).2 10 0 = M.2 10 0 := ml_n (by omega)
  have e2 : (m_l M c i v).2 11 0 = M.2 11 0 := ml_n (by omega)
  have e3 : m_nsl (m_l M c i v) = m_nsl M := by unfold m_nsl; rw [e1]
  unfold IB at h ⊢
  rw [e3, e2]
  obtain ⟨a, b, c2, d, e⟩ := h
  exact ⟨a, by rw [e1]; exact b, e2, d, e⟩
theorem IB_s {M : n_M} (h : IB M) {c i : Nat} {v : Int32} (hc : c ≠ 11 ∧ c ≠ 13) : IB (m_s M c i v) := by
  unfold IB at h ⊢
  obtain ⟨a, b, c2, d, e⟩ := h
  exact ⟨a, b, c2, fun k hk => by rw [ms_n (by omega)]; exact d k hk, fun k hk => by rw [ms_n (by omega)]; exact e k hk⟩
theorem c_give0 (d q : Nat) (x : Int32) (M : n_M) (σ : n_S) (hM : RepC M σ) : n_Ct l (cw D ca ad ae Ex) d yX10_give cX10_give 4 (some .int) [.ref (ad 20 0), .ref (ad 21 q), .int x, .null] σ (fun rv σ' => rv = some (.int (-1)) ∧ RepC M σ') := by
  refine n_ofW (by decide) (Nat.le_of_ble_eq_true rfl) ?_
  intro p e s m below meth c hC
  refine n_aload_nN hC dX10_give_0 rfl rfl ?_
  first | refine n_ifnull hC dX10_give_1 ?_ | refine n_ifnullN (tgt := 29) hC dX10_give_1 (by decide) ?_
  refine n_iconst (v := -1) hC dX10_give_29 (by decide) ?_
  refine n_iret hC dX10_give_30 ?_
  exact ⟨rfl, hM⟩
theorem c_give1 (d q r : Nat) (x : Int32) (M : n_M) (σ : n_S) (hq : 1 ≤ q ∧ q ≤ 12) (hr : 1 ≤ r ∧ r ≤ 12) (hM : RepC M σ) (hB : IB M) : n_Ct l (cw D ca ad ae Ex) (d + 3) yX10_give cX10_give 4 (some .int) [.ref (ad 20 0), .ref (ad 21 q), .int x, .ref (ad 21 r)] σ (fun rv σ' => (m_al M r ∧ ∃ j, m_at M (nI q) x j ∧ rv = some (.int 0) ∧ RepC (m_own1 M j (nI r)) σ') ∨ (¬ (m_al M r ∧ m_hf M (nI q) x) ∧ rv = some (.int (-1)) ∧ RepC M σ')) := by
  refine n_ofW (by decide) (Nat.le_of_ble_eq_true rfl) ?_
  intro p e s m below meth c hC
  have hd : cw_dom 21 q := hq
  have hd2 : cw_dom 21 r := hr
  refine n_aload_n hC dX10_give_0 rfl rfl ?_
  first | refine n_ifnull hC dX10_give_1 ?_ | refine n_ifnullN (tgt := 29) hC dX10_give_1 (by decide) ?_
  refine n_aload_n hC dX10_give_4 rfl rfl ?_
  refine n_callV hC (c_alive (d + 2) r M σ hM hr) (Nat.le_refl _) (by decide) (by first | exact rfl | with_reducible assumption) rfl rfl rfl ⟨wmX10_121, wi_yX9_isAlive, wv_yX9_isAlive, wzX9, wc_yX9_isAlive⟩ hy_yX9_isAlive rfl (Nat.le_of_ble_eq_true rfl) dX10_give_5 (fun rv σ' hpo => ?_)
  obtain ⟨hpo, rfl⟩ := hpo
  rcases hpo with ⟨ha, rfl⟩ | ⟨ha, rfl⟩
  · refine n_if_eq (tgt := 29) hC dX10_give_8 (by decide) (fun h => ?_) (fun h => ?_)
    · exact absurd h (by decide)
    · clear h
      refine n_aload_n hC dX10_give_11 rfl rfl ?_
      refine g20_desk hC (by first | exact rfl | with_reducible assumption) wfX10_15 dX10_give_12 ?_
      refine g9_memory hC (by first | exact rfl | with_reducible assumption) wfX10_207 dX10_give_15 ?_
      refine n_aload_n hC dX10_give_18 rfl rfl ?_
      refine g21_number hC (by first | exact rfl | with_reducible assumption) wfX10_51 dX10_give_19 ?_
      refine n_iload_n hC dX10_give_22 rfl rfl ?_
      refine n_callV hC (c_holdsFrom (d + 1) (nI q) x M _ hM) (Nat.le_refl _) (by decide) (by first | exact rfl | with_reducible assumption) rfl rfl rfl ⟨wmX10_236, wi_yX3_holdsFrom, wv_yX3_holdsFrom, wzX3, wc_yX3_holdsFrom⟩ hy_yX3_holdsFrom rfl (Nat.le_of_ble_eq_true rfl) dX10_give_23 (fun rv σ' hpo => ?_)
      obtain ⟨hpo, rfl⟩ := hpo
      rcases hpo with ⟨h1, rfl⟩ | ⟨h1, rfl⟩
      · refine n_if_ne (tgt := 31) hC dX10_give_26 (by decide) (fun h => ?_) (fun h => ?_)
        · clear h
          obtain ⟨j, hj, ex, eo⟩ := m_hf_j hB h1
          subst ex
          refine n_aload_n hC dX10_give_31 rfl rfl ?_
          refine g20_desk hC (by first | exact rfl | with_reducible assumption) wfX10_15 dX10_give_32 ?_
          refine g9_memory hC (by first | exact rfl | with_reducible assumption) wfX10_207 dX10_give_35 ?_
          refine n_iload_n hC dX10_give_38 rfl rfl ?_
          refine n_aload_n hC dX10_give_39 rfl rfl ?_
          refine g21_number hC (by first | exact rfl | with_reducible assumption) wfX10_51 dX10_give_40 ?_
          refine n_callV hC (c_hand d j (nI r) (m_nsl M) (M.2 11 0) M _ hM hB hj) (Nat.le_refl _) (by decide) (by first | exact rfl | with_reducible assumption) rfl rfl rfl ⟨wmX10_243, wi_yX3_hand, wv_yX3_hand, wzX3, wc_yX3_hand⟩ hy_yX3_hand rfl (Nat.le_of_ble_eq_true rfl) dX10_give_43 (fun rv σ' hpo => ?_)
          obtain ⟨rfl, h2⟩ := hpo
          refine n_iconst (v := 0) hC dX10_give_46 (by decide) ?_
          refine n_iret hC dX10_give_47 ?_
          exact Or.inl ⟨ha, j, ⟨hj, rfl, eo⟩, rfl, h2⟩
        · exact absurd h (by decide)
      · refine n_if_ne (tgt := 31) hC dX10_give_26 (by decide) (fun h => ?_) (fun h => ?_)
        · exact absurd rfl h
        · refine n_iconst (v := -1) hC dX10_give_29 (by decide) ?_
          refine n_iret hC dX10_give_30 ?_
          exact Or.inr ⟨fun z => h1 z.2, rfl, hM⟩
  · refine n_if_eq (tgt := 29) hC dX10_give_8 (by decide) (fun h => ?_) (fun h => ?_)
    · refine n_iconst (v := -1) hC dX10_give_29 (by decide) ?_
      refine n_iret hC dX10_give_30 ?_
      exact Or.inr ⟨fun z => ha z.1, rfl, hM⟩
    · exact absurd rfl h
theorem c_fetch (hX : ∀ U H, Ex U H → cE ad ae ts U H) (d q : Nat) (a : Int32) (t : List Int32) (M : n_M) (σ : n_S) (hq : 1 ≤ q ∧ q ≤ 12) (hM : RepC M σ) (hl : M.2 0 q = t ++ [a]) : n_Ct l (cw D ca ad ae Ex) (d + 1) yX10_useMemory cX10_useMemory 5 (some .int) [.ref (ad 20 0), .ref (ad 21 q), .ref (ae 25)] σ (fun rv σ' => (∃ k, (k < 1024 ∧ a = nI k ∧ M.1 11 k = nI q) ∧ rv = some (.int 0) ∧ RepC (m_l M 0 q (t ++ [M.1 10 k])) σ') ∨ (¬ m_hd M (nI q) a ∧ rv = some (.int (-5)) ∧ RepC (m_l M 0 q t) σ')) := by
  have hlen : t.length < 40 := by
    have h1 := (hM.2 0 q hq).1
    rw [hl] at h1
    simp [m_cap] at h1
    omega
  refine n_ofW (by decide) (Nat.le_of_ble_eq_true rfl) ?_
  intro p e s m below meth c hC
  have hd : cw_dom 21 q := hq
  refine n_aload_n hC dX10_useMemory_0 rfl rfl ?_
  refine g20_desk hC (by first | exact rfl | with_reducible assumption) wfX10_15 dX10_useMemory_1 ?_
  refine g9_memory hC (by first | exact rfl | with_reducible assumption) wfX10_207 dX10_useMemory_4 ?_
  first | refine n_astore_n hC dX10_useMemory_7 rfl (Nat.le_of_ble_eq_true rfl) ?_ | refine n_astore_nN hC dX10_useMemory_7 rfl (Nat.le_of_ble_eq_true rfl) ?_
  refine n_aload_n hC dX10_useMemory_8 rfl rfl ?_
  refine n_callV hC (c_pop d q a t M σ hM hq hl) (Nat.le_refl _) (by decide) (by first | exact rfl | with_reducible assumption) rfl rfl rfl ⟨wmX10_57, wi_yX9_pop, wv_yX9_pop, wzX9, wc_yX9_pop⟩ hy_yX9_pop rfl (Nat.le_of_ble_eq_true rfl) dX10_useMemory_9 (fun rv σ' hpo => ?_)
  obtain ⟨rfl, h1⟩ := hpo
  refine n_istore hC dX10_useMemory_12 (Nat.le_of_ble_eq_true rfl) ?_
  refine e_gm hC hX wfX10_192 dX10_useMemory_14 ?_
  refine n_aload_n hC dX10_useMemory_17 rfl rfl ?_
  refine e_ord hC hX (by omega) (Nat.le_of_ble_eq_true rfl) dX10_useMemory_18 ?_
  refine e_sw hC hX (by decide) (v := 17) rfl dX10_useMemory_21 ?_
  refine n_tableIn (off := 30) (tgt := 52) hC dX10_useMemory_22 (by decide) (by decide) (by decide) (by decide) ?_
  refine n_aload_n hC dX10_useMemory_52 rfl rfl ?_
  refine n_aload_n hC dX10_useMemory_53 rfl rfl ?_
  refine g21_number hC (by first | exact rfl | with_reducible assumption) wfX10_51 dX10_useMemory_54 ?_
  refine n_iload hC dX10_useMemory_57 rfl ?_
  refine n_callV hC (c_holds d (nI q) a _ _ h1) (Nat.le_refl _) (by decide) (by first | exact rfl | with_reducible assumption) rfl rfl rfl ⟨wmX10_211, wi_yX3_holds, wv_yX3_holds, wzX3, wc_yX3_holds⟩ hy_yX3_holds rfl (Nat.le_of_ble_eq_true rfl) dX10_useMemory_59 (fun rv σ' hpo => ?_)
  obtain ⟨hpo, rfl⟩ := hpo
  rcases hpo with ⟨⟨k, hk, rfl, ho⟩, rfl⟩ | ⟨hn, rfl⟩
  · refine n_if_ne (tgt := 68) hC dX10_useMemory_62 (by decide) (fun h => ?_) (fun h => ?_)
    · clear h
      refine n_aload_n hC dX10_useMemory_68 rfl rfl ?_
      refine n_aload_n hC dX10_useMemory_69 rfl rfl ?_
      refine g15_cells hC (by first | exact rfl | with_reducible assumption) wfX10_217 dX10_useMemory_70 ?_
      refine n_iload hC dX10_useMemory_73 rfl ?_
      refine c_iald hC (by first | exact rfl | with_reducible assumption) (fun _ => rfl) (by first | exact vp_in_nI (by omega) (by decide) | with_reducible assumption) dX10_useMemory_75 ?_
      have e1 : (nI k).toNatClampNeg = k := nI_clamp (by omega)
      rw [e1, show σ' 16 0 k = M.1 10 k from h1.1 10 k hk]
      refine n_callV hC (c_ps d q (M.1 10 k) t M _ hq h1 hlen) (Nat.le_refl _) (by decide) (by first | exact rfl | with_reducible assumption) rfl rfl rfl ⟨wmX10_159, wi_yX9_push, wv_yX9_push, wzX9, wc_yX9_push⟩ hy_yX9_push rfl (Nat.le_of_ble_eq_true rfl) dX10_useMemory_76 (fun rv σ' hpo => ?_)
      obtain ⟨rfl, h2⟩ := hpo
      refine n_iconst (v := 0) hC dX10_useMemory_79 (by decide) ?_
      refine n_iret hC dX10_useMemory_80 ?_
      exact Or.inl ⟨k, ⟨hk, rfl, ho⟩, rfl, h2⟩
    · exact absurd h (by decide)
  · refine n_if_ne (tgt := 68) hC dX10_useMemory_62 (by decide) (fun h => ?_) (fun h => ?_)
    · exact absurd rfl h
    · refine n_bipush (v := -5) hC dX10_useMemory_65 (by decide) ?_
      refine n_iret hC dX10_useMemory_67 ?_
      exact Or.inr ⟨hn, rfl, h1⟩
theorem c_store (hX : ∀ U H, Ex U H → cE ad ae ts U H) (d q : Nat) (x a : Int32) (t : List Int32) (M : n_M) (σ : n_S) (hq : 1 ≤ q ∧ q ≤ 12) (hM : RepC M σ) (hl : M.2 0 q = t ++ [x] ++ [a]) : n_Ct l (cw D ca ad ae Ex) (d + 1) yX10_useMemory cX10_useMemory 5 (some .int) [.ref (ad 20 0), .ref (ad 21 q), .ref (ae 26)] σ (fun rv σ' => (∃ k, (k < 1024 ∧ a = nI k ∧ M.1 11 k = nI q) ∧ rv = some (.int 0) ∧ RepC (m_s (m_l M 0 q t) 10 k x) σ') ∨ (¬ m_hd M (nI q) a ∧ rv = some (.int (-5)) ∧ RepC (m_l M 0 q (t ++ [x])) σ')) := by
  refine n_ofW (by decide) (Nat.le_of_ble_eq_true rfl) ?_
  intro p e s m below meth c hC
  have hd : cw_dom 21 q := hq
  refine n_aload_n hC dX10_useMemory_0 rfl rfl ?_
  refine g20_desk hC (by first | exact rfl | with_reducible assumption) wfX10_15 dX10_useMemory_1 ?_
  refine g9_memory hC (by first | exact rfl | with_reducible assumption) wfX10_207 dX10_useMemory_4 ?_
  first | refine n_astore_n hC dX10_useMemory_7 rfl (Nat.le_of_ble_eq_true rfl) ?_ | refine n_astore_nN hC dX10_useMemory_7 rfl (Nat.le_of_ble_eq_true rfl) ?_
  refine n_aload_n hC dX10_useMemory_8 rfl rfl ?_
  refine n_callV hC (c_pop d q a (t ++ [x]) M σ hM hq hl) (Nat.le_refl _) (by decide) (by first | exact rfl | with_reducible assumption) rfl rfl rfl ⟨wmX10_57, wi_yX9_pop, wv_yX9_pop, wzX9, wc_yX9_pop⟩ hy_yX9_pop rfl (Nat.le_of_ble_eq_true rfl) dX10_useMemory_9 (fun rv σ' hpo => ?_)
  obtain ⟨rfl, h1⟩ := hpo
  refine n_istore hC dX10_useMemory_12 (Nat.le_of_ble_eq_true rfl) ?_
  refine e_gm hC hX wfX10_192 dX10_useMemory_14 ?_
  refine n_aload_n hC dX10_useMemory_17 rfl rfl ?_
  refine e_ord hC hX (by omega) (Nat.le_of_ble_eq_true rfl) dX10_useMemory_18 ?_
  refine e_sw hC hX (by decide) (v := 18) rfl dX10_useMemory_21 ?_
  refine n_tableIn (off := 59) (tgt := 81) hC dX10_useMemory_22 (by decide) (by decide) (by decide) (by decide) ?_
  refine n_aload_n hC dX10_useMemory_81 rfl rfl ?_
  refine n_aload_n hC dX10_useMemory_82 rfl rfl ?_
  refine g21_number hC (by first | exact rfl | with_reducible assumption) wfX10_51 dX10_useMemory_83 ?_
  refine n_iload hC dX10_useMemory_86 rfl ?_
  refine n_callV hC (c_holds d (nI q) a _ _ h1) (Nat.le_refl _) (by decide) (by first | exact rfl | with_reducible assumption) rfl rfl rfl ⟨wmX10_211, wi_yX3_holds, wv_yX3_holds, wzX3, wc_yX3_holds⟩ hy_yX3_holds rfl (Nat.le_of_ble_eq_true rfl) dX10_useMemory_88 (fun rv σ' hpo => ?_)
  obtain ⟨hpo, rfl⟩ := hpo
  rcases hpo with ⟨⟨k, hk, rfl, ho⟩, rfl⟩ | ⟨hn, rfl⟩
  · refine n_if_ne (tgt := 97) hC dX10_useMemory_91 (by decide) (fun h => ?_) (fun h => ?_)
    · clear h
      refine n_aload_n hC dX10_useMemory_97 rfl rfl ?_
      refine g15_cells hC (by first | exact rfl | with_reducible assumption) wfX10_217 dX10_useMemory_98 ?_
      refine n_iload hC dX10_useMemory_101 rfl ?_
      refine n_aload_n hC dX10_useMemory_103 rfl rfl ?_
      refine n_callV hC (c_pp d q x t M _ hq h1) (Nat.le_refl _) (by decide) (by first | exact rfl | with_reducible assumption) rfl rfl rfl ⟨wmX10_57, wi_yX9_pop, wv_yX9_pop, wzX9, wc_yX9_pop⟩ hy_yX9_pop rfl (Nat.le_of_ble_eq_true rfl) dX10_useMemory_104 (fun rv σ' hpo => ?_)
      obtain ⟨rfl, h2⟩ := hpo
      have e1 : (nI k).toNatClampNeg = k := nI_clamp (by omega)
      refine c_iast hC (by first | exact rfl | with_reducible assumption) (fun _ => rfl) (by first | exact vp_in_nI (by omega) (by decide) | with_reducible assumption) dX10_useMemory_107 ?_
      rw [e1]
      refine n_iconst (v := 0) hC dX10_useMemory_108 (by decide) ?_
      refine n_iret hC dX10_useMemory_109 ?_
      exact Or.inl ⟨k, ⟨hk, rfl, ho⟩, rfl, cu_10 h2 hk⟩
    · exact absurd h (by decide)
  · refine n_if_ne (tgt := 97) hC dX10_useMemory_91 (by decide) (fun h => ?_) (fun h => ?_)
    · exact absurd rfl h
    · refine n_bipush (v := -5) hC dX10_useMemory_94 (by decide) ?_
      refine n_iret hC dX10_useMemory_96 ?_
      exact Or.inr ⟨hn, rfl, h1⟩
theorem c_alloc (hX : ∀ U H, Ex U H → cE ad ae ts U H) (d q : Nat) (a : Int32) (t : List Int32) (M : n_M) (σ : n_S) (hq : 1 ≤ q ∧ q ≤ 12) (hM : RepC M σ) (hB : IB M) (hl : M.2 0 q = t ++ [a]) : n_Ct l (cw D ca ad ae Ex) (d + 4) yX10_useMemory cX10_useMemory 5 (some .int) [.ref (ad 20 0), .ref (ad 21 q), .ref (ae 27)] σ (fun rv σ' => rv = some (.int 0) ∧ ((∃ n j, (1 ≤ n ∧ n ≤ 1024) ∧ a = nI n ∧ m_fst (m_nsl M) (M.2 11 0) n j ∧ RepC (m_l (m_cut (m_l M 0 q t) (m_nsl M) (M.2 11 0) j n (nI q)) 0 q (t ++ [nI ((m_nsl M).take j).sum])) σ') ∨ ((∀ n, (1 ≤ n ∧ n ≤ 1024) → a = nI n → m_non (m_nsl M) (M.2 11 0) n) ∧ RepC (m_l M 0 q (t ++ [-1])) σ'))) := by
  have hlen : t.length < 40 := by
    have h1 := (hM.2 0 q hq).1
    rw [hl] at h1
    simp [m_cap] at h1
    omega
  have hB1 : m_isB (m_l M 0 q t) (m_nsl M) (M.2 11 0) := by
    have := IB_l hB (c := 0) (i := q) (v := t) (by omega)
    unfold IB m_nsl at this
    rw [ml_n (by omega), ml_n (by omega)] at this
    exact this
  refine n_ofW (by decide) (Nat.le_of_ble_eq_true rfl) ?_
  intro p e s m below meth c hC
  have hd : cw_dom 21 q := hq
  refine n_aload_n hC dX10_useMemory_0 rfl rfl ?_
  refine g20_desk hC (by first | exact rfl | with_reducible assumption) wfX10_15 dX10_useMemory_1 ?_
  refine g9_memory hC (by first | exact rfl | with_reducible assumption) wfX10_207 dX10_useMemory_4 ?_
  first | refine n_astore_n hC dX10_useMemory_7 rfl (Nat.le_of_ble_eq_true rfl) ?_ | refine n_astore_nN hC dX10_useMemory_7 rfl (Nat.le_of_ble_eq_true rfl) ?_
  refine n_aload_n hC dX10_useMemory_8 rfl rfl ?_
  refine n_callV hC (c_pop (d + 3) q a t M σ hM hq hl) (Nat.le_refl _) (by decide) (by first | exact rfl | with_reducible assumption) rfl rfl rfl ⟨wmX10_57, wi_yX9_pop, wv_yX9_pop, wzX9, wc_yX9_pop⟩ hy_yX9_pop rfl (Nat.le_of_ble_eq_true rfl) dX10_useMemory_9 (fun rv σ' hpo => ?_)
  obtain ⟨rfl, h1⟩ := hpo
  refine n_istore hC dX10_useMemory_12 (Nat.le_of_ble_eq_true rfl) ?_
  refine e_gm hC hX wfX10_192 dX10_useMemory_14 ?_
  refine n_aload_n hC dX10_useMemory_17 rfl rfl ?_
  refine e_ord hC hX (by omega) (Nat.le_of_ble_eq_true rfl) dX10_useMemory_18 ?_
  refine e_sw hC hX (by decide) (v := 19) rfl dX10_useMemory_21 ?_
  refine n_tableIn (off := 88) (tgt := 110) hC dX10_useMemory_22 (by decide) (by decide) (by decide) (by decide) ?_
  refine n_aload_n hC dX10_useMemory_110 rfl rfl ?_
  refine n_aload_n hC dX10_useMemory_111 rfl rfl ?_
  refine n_iload hC dX10_useMemory_112 rfl ?_
  refine n_aload_n hC dX10_useMemory_114 rfl rfl ?_
  refine g21_number hC (by first | exact rfl | with_reducible assumption) wfX10_51 dX10_useMemory_115 ?_
  refine n_callV hC (c_take d a (nI q) (m_nsl M) (M.2 11 0) _ _ h1 hB1) (Nat.le_refl _) (by decide) (by first | exact rfl | with_reducible assumption) rfl rfl rfl ⟨wmX10_220, wi_yX3_take, wv_yX3_take, wzX3, wc_yX3_take⟩ hy_yX3_take rfl (Nat.le_of_ble_eq_true rfl) dX10_useMemory_118 (fun rv σ' hpo => ?_)
  rcases hpo with ⟨n, j, hn, rfl, hf, rfl, h2⟩ | ⟨hf, rfl, h2⟩
  · have e1 : (m_cut (m_l M 0 q t) (m_nsl M) (M.2 11 0) j n (nI q)).2 0 q = t := by
      unfold m_cut m_fl m_mem
      simp [ml_e]
    refine n_callV hC (c_push (d + 3) q (nI ((m_nsl M).take j).sum) _ _ h2 hq (by rw [e1]; exact hlen)) (Nat.le_refl _) (by decide) (by first | exact rfl | with_reducible assumption) rfl rfl rfl ⟨wmX10_159, wi_yX9_push, wv_yX9_push, wzX9, wc_yX9_push⟩ hy_yX9_push rfl (Nat.le_of_ble_eq_true rfl) dX10_useMemory_121 (fun rv σ' hpo => ?_)
    obtain ⟨rfl, h3⟩ := hpo
    rw [e1] at h3
    refine n_iconst (v := 0) hC dX10_useMemory_124 (by decide) ?_
    refine n_iret hC dX10_useMemory_125 ?_
    exact ⟨rfl, Or.inl ⟨n, j, hn, rfl, hf, h3⟩⟩
  · refine n_callV hC (c_ps (d + 3) q (-1) t M _ hq h2 hlen) (Nat.le_refl _) (by decide) (by first | exact rfl | with_reducible assumption) rfl rfl rfl ⟨wmX10_159, wi_yX9_push, wv_yX9_push, wzX9, wc_yX9_push⟩ hy_yX9_push rfl (Nat.le_of_ble_eq_true rfl) dX10_useMemory_121 (fun rv σ' hpo => ?_)
    obtain ⟨rfl, h3⟩ := hpo
    refine n_iconst (v := 0) hC dX10_useMemory_124 (by decide) ?_
    refine n_iret hC dX10_useMemory_125 ?_
    exact ⟨rfl, Or.inr ⟨hf, h3⟩⟩
theorem c_mfree (hX : ∀ U H, Ex U H → cE ad ae ts U H) (d q : Nat) (a : Int32) (t : List Int32) (M : n_M) (σ : n_S) (hq : 1 ≤ q ∧ q ≤ 12) (hM : RepC M σ) (hB : IB M) (hl : M.2 0 q = t ++ [a]) : n_Ct l (cw D ca ad ae Ex) (d + 4) yX10_useMemory cX10_useMemory 5 (some .int) [.ref (ad 20 0), .ref (ad 21 q), .ref (ae 28)] σ (fun rv σ' => rv = some (.int 0) ∧ ((m_hf M (nI q) a ∧ RepC (m_l (m_free (m_l M 0 q t) (nI q) a) 0 q (t ++ [0])) σ') ∨ (¬ m_hf M (nI q) a ∧ RepC (m_l M 0 q (t ++ [-1])) σ'))) := by
  have hlen : t.length < 40 := by
    have h1 := (hM.2 0 q hq).1
    rw [hl] at h1
    simp [m_cap] at h1
    omega
  refine n_ofW (by decide) (Nat.le_of_ble_eq_true rfl) ?_
  intro p e s m below meth c hC
  have hd : cw_dom 21 q := hq
  refine n_aload_n hC dX10_useMemory_0 rfl rfl ?_
  refine g20_desk hC (by first | exact rfl | with_reducible assumption) wfX10_15 dX10_useMemory_1 ?_
  refine g9_memory hC (by first | exact rfl | with_reducible assumption) wfX10_207 dX10_useMemory_4 ?_
  first | refine n_astore_n hC dX10_useMemory_7 rfl (Nat.le_of_ble_eq_true rfl) ?_ | refine n_astore_nN hC dX10_useMemory_7 rfl (Nat.le_of_ble_eq_true rfl) ?_
  refine n_aload_n hC dX10_useMemory_8 rfl rfl ?_
  refine n_callV hC (c_pop (d + 3) q a t M σ hM hq hl) (Nat.le_refl _) (by decide) (by first | exact rfl | with_reducible assumption) rfl rfl rfl ⟨wmX10_57, wi_yX9_pop, wv_yX9_pop, wzX9, wc_yX9_pop⟩ hy_yX9_pop rfl (Nat.le_of_ble_eq_true rfl) dX10_useMemory_9 (fun rv σ' hpo => ?_)
  obtain ⟨rfl, h1⟩ := hpo
  refine n_istore hC dX10_useMemory_12 (Nat.le_of_ble_eq_true rfl) ?_
  refine e_gm hC hX wfX10_192 dX10_useMemory_14 ?_
  refine n_aload_n hC dX10_useMemory_17 rfl rfl ?_
  refine e_ord hC hX (by omega) (Nat.le_of_ble_eq_true rfl) dX10_useMemory_18 ?_
  refine e_sw hC hX (by decide) (v := 20) rfl dX10_useMemory_21 ?_
  refine n_tableIn (off := 104) (tgt := 126) hC dX10_useMemory_22 (by decide) (by decide) (by decide) (by decide) ?_
  refine n_aload_n hC dX10_useMemory_126 rfl rfl ?_
  refine n_aload_n hC dX10_useMemory_127 rfl rfl ?_
  refine n_aload_n hC dX10_useMemory_128 rfl rfl ?_
  refine n_iload hC dX10_useMemory_129 rfl ?_
  refine n_callV hC (c_release d q a _ _ hq h1 (IB_l hB (by omega))) (Nat.le_refl _) (by decide) (by first | exact rfl | with_reducible assumption) rfl rfl rfl ⟨wmX10_224, wi_yX10_release, wv_yX10_release, wzX10, wc_yX10_release⟩ hy_yX10_release rfl (Nat.le_of_ble_eq_true rfl) dX10_useMemory_131 (fun rv σ' hpo => ?_)
  rcases hpo with ⟨hf, rfl, h2⟩ | ⟨hf, rfl, h2⟩
  · have e1 : (m_free (m_l M 0 q t) (nI q) a).2 0 q = t := by
      show (m_mem (m_l M 0 q t) _ _).2 0 q = t
      unfold m_mem
      simp [ml_e]
    refine n_callV hC (c_push (d + 3) q 0 _ _ h2 hq (by rw [e1]; exact hlen)) (Nat.le_refl _) (by decide) (by first | exact rfl | with_reducible assumption) rfl rfl rfl ⟨wmX10_159, wi_yX9_push, wv_yX9_push, wzX9, wc_yX9_push⟩ hy_yX9_push rfl (Nat.le_of_ble_eq_true rfl) dX10_useMemory_134 (fun rv σ' hpo => ?_)
    obtain ⟨rfl, h3⟩ := hpo
    rw [e1] at h3
    refine n_iconst (v := 0) hC dX10_useMemory_137 (by decide) ?_
    refine n_iret hC dX10_useMemory_138 ?_
    exact ⟨rfl, Or.inl ⟨hf, h3⟩⟩
  · refine n_callV hC (c_ps (d + 3) q (-1) t M _ hq h2 hlen) (Nat.le_refl _) (by decide) (by first | exact rfl | with_reducible assumption) rfl rfl rfl ⟨wmX10_159, wi_yX9_push, wv_yX9_push, wzX9, wc_yX9_push⟩ hy_yX9_push rfl (Nat.le_of_ble_eq_true rfl) dX10_useMemory_134 (fun rv σ' hpo => ?_)
    obtain ⟨rfl, h3⟩ := hpo
    refine n_iconst (v := 0) hC dX10_useMemory_137 (by decide) ?_
    refine n_iret hC dX10_useMemory_138 ?_
    exact ⟨rfl, Or.inr ⟨hf, h3⟩⟩
theorem c_mgive (hX : ∀ U H, Ex U H → cE ad ae ts U H) (d q : Nat) (a x : Int32) (t : List Int32) (M : n_M) (σ : n_S) (hq : 1 ≤ q ∧ q ≤ 12) (hM : RepC M σ) (hB : IB M) (hl : M.2 0 q = t ++ [a] ++ [x]) : n_Ct l (cw D ca ad ae Ex) (d + 4) yX10_useMemory cX10_useMemory 5 (some .int) [.ref (ad 20 0), .ref (ad 21 q), .ref (ae 29)] σ (fun rv σ' => rv = some (.int 0) ∧ ((∃ r j, n_V r ∧ x = nI r ∧ m_al M r ∧ m_at M (nI q) a j ∧ RepC (m_l (m_own1 (m_l M 0 q t) j (nI r)) 0 q (t ++ [0])) σ') ∨ ((¬ ∃ r, n_V r ∧ x = nI r ∧ m_al M r ∧ m_hf M (nI q) a) ∧ RepC (m_l M 0 q (t ++ [-1])) σ'))) := by
  have hlen : t.length < 40 := by
    have h1 := (hM.2 0 q hq).1
    rw [hl] at h1
    simp [m_cap] at h1
    omega
  refine n_ofW (by decide) (Nat.le_of_ble_eq_true rfl) ?_
  intro p e s m below meth c hC
  have hd : cw_dom 21 q := hq
  refine n_aload_n hC dX10_useMemory_0 rfl rfl ?_
  refine g20_desk hC (by first | exact rfl | with_reducible assumption) wfX10_15 dX10_useMemory_1 ?_
  refine g9_memory hC (by first | exact rfl | with_reducible assumption) wfX10_207 dX10_useMemory_4 ?_
  first | refine n_astore_n hC dX10_useMemory_7 rfl (Nat.le_of_ble_eq_true rfl) ?_ | refine n_astore_nN hC dX10_useMemory_7 rfl (Nat.le_of_ble_eq_true rfl) ?_
  refine n_aload_n hC dX10_useMemory_8 rfl rfl ?_
  refine n_callV hC (c_pop (d + 3) q x (t ++ [a]) M σ hM hq hl) (Nat.le_refl _) (by decide) (by first | exact rfl | with_reducible assumption) rfl rfl rfl ⟨wmX10_57, wi_yX9_pop, wv_yX9_pop, wzX9, wc_yX9_pop⟩ hy_yX9_pop rfl (Nat.le_of_ble_eq_true rfl) dX10_useMemory_9 (fun rv σ' hpo => ?_)
  obtain ⟨rfl, h1⟩ := hpo
  refine n_istore hC dX10_useMemory_12 (Nat.le_of_ble_eq_true rfl) ?_
  refine e_gm hC hX wfX10_192 dX10_useMemory_14 ?_
  refine n_aload_n hC dX10_useMemory_17 rfl rfl ?_
  refine e_ord hC hX (by omega) (Nat.le_of_ble_eq_true rfl) dX10_useMemory_18 ?_
  refine e_sw hC hX (by decide) (v := 0) rfl dX10_useMemory_21 ?_
  refine n_tableOut (tgt := 139) hC dX10_useMemory_22 (by decide) (by decide) ?_
  refine n_aload_n hC dX10_useMemory_139 rfl rfl ?_
  refine n_aload_n hC dX10_useMemory_140 rfl rfl ?_
  refine n_aload_n hC dX10_useMemory_141 rfl rfl ?_
  refine n_aload_n hC dX10_useMemory_142 rfl rfl ?_
  refine n_callV hC (c_pp (d + 3) q a t M _ hq h1) (Nat.le_refl _) (by decide) (by first | exact rfl | with_reducible assumption) rfl rfl rfl ⟨wmX10_57, wi_yX9_pop, wv_yX9_pop, wzX9, wc_yX9_pop⟩ hy_yX9_pop rfl (Nat.le_of_ble_eq_true rfl) dX10_useMemory_143 (fun rv σ' hpo => ?_)
  obtain ⟨rfl, h2⟩ := hpo
  rename_i σ1
  refine n_aload_n hC dX10_useMemory_146 rfl rfl ?_
  refine g20_desk hC (by first | exact rfl | with_reducible assumption) wfX10_15 dX10_useMemory_147 ?_
  refine n_iload hC dX10_useMemory_150 rfl ?_
  refine n_callV hC (c_find (d + 3) x σ') (Nat.le_refl _) (by decide) (by first | exact rfl | with_reducible assumption) rfl rfl rfl ⟨wmX10_228, wi_yX2_find, wv_yX2_find, wzX2, wc_yX2_find⟩ hy_yX2_find rfl (Nat.le_of_ble_eq_true rfl) dX10_useMemory_152 (fun rv σ' hpo => ?_)
  obtain ⟨hpo, rfl⟩ := hpo
  rcases hpo with ⟨r, hr, rfl, rfl⟩ | ⟨hx, rfl⟩
  · refine n_callV hC (c_give1 d q r a _ _ hq hr h2 (IB_l hB (by omega))) (Nat.le_refl _) (by decide) (by first | exact rfl | with_reducible assumption) rfl rfl rfl ⟨wmX10_232, wi_yX10_give, wv_yX10_give, wzX10, wc_yX10_give⟩ hy_yX10_give rfl (Nat.le_of_ble_eq_true rfl) dX10_useMemory_155 (fun rv σ' hpo => ?_)
    rcases hpo with ⟨ha, j, hat, rfl, h3⟩ | ⟨hn, rfl, h3⟩
    · have hat2 : m_at M (nI q) a j := by
        obtain ⟨g1, g2, g3⟩ := hat
        have e3 : m_nsl (m_l M 0 q t) = m_nsl M := by unfold m_nsl; rw [ml_n (by omega)]
        rw [e3] at g1 g2
        rw [ml_n (by omega)] at g3
        exact ⟨g1, g2, g3⟩
      have e1 : (m_own1 (m_l M 0 q t) j (nI r)).2 0 q = t := by
        show (m_mem (m_l M 0 q t) _ _).2 0 q = t
        unfold m_mem
        simp [ml_e]
      refine n_callV hC (c_push (d + 3) q 0 _ _ h3 hq (by rw [e1]; exact hlen)) (Nat.le_refl _) (by decide) (by first | exact rfl | with_reducible assumption) rfl rfl rfl ⟨wmX10_159, wi_yX9_push, wv_yX9_push, wzX9, wc_yX9_push⟩ hy_yX9_push rfl (Nat.le_of_ble_eq_true rfl) dX10_useMemory_158 (fun rv σ' hpo => ?_)
      obtain ⟨rfl, h4⟩ := hpo
      rw [e1] at h4
      refine n_iconst (v := 0) hC dX10_useMemory_161 (by decide) ?_
      refine n_iret hC dX10_useMemory_162 ?_
      exact ⟨rfl, Or.inl ⟨r, j, hr, rfl, ha, hat2, h4⟩⟩
    · refine n_callV hC (c_ps (d + 3) q (-1) t M _ hq h3 hlen) (Nat.le_refl _) (by decide) (by first | exact rfl | with_reducible assumption) rfl rfl rfl ⟨wmX10_159, wi_yX9_push, wv_yX9_push, wzX9, wc_yX9_push⟩ hy_yX9_push rfl (Nat.le_of_ble_eq_true rfl) dX10_useMemory_158 (fun rv σ' hpo => ?_)
      obtain ⟨rfl, h4⟩ := hpo
      refine n_iconst (v := 0) hC dX10_useMemory_161 (by decide) ?_
      refine n_iret hC dX10_useMemory_162 ?_
      refine ⟨rfl, Or.inr ⟨fun z => ?_, h4⟩⟩
      obtain ⟨r2, hr2, e2, g1, g2⟩ := z
      have := nV_inj hr hr2 e2
      subst this
      exact hn ⟨g1, g2⟩
  · refine n_callV hC (c_give0 (d + 3) q a _ _ h2) (Nat.le_refl _) (by decide) (by first | exact rfl | with_reducible assumption) rfl rfl rfl ⟨wmX10_232, wi_yX10_give, wv_yX10_give, wzX10, wc_yX10_give⟩ hy_yX10_give rfl (Nat.le_of_ble_eq_true rfl) dX10_useMemory_155 (fun rv σ' hpo => ?_)
    obtain ⟨rfl, h3⟩ := hpo
    refine n_callV hC (c_ps (d + 3) q (-1) t M _ hq h3 hlen) (Nat.le_refl _) (by decide) (by first | exact rfl | with_reducible assumption) rfl rfl rfl ⟨wmX10_159, wi_yX9_push, wv_yX9_push, wzX9, wc_yX9_push⟩ hy_yX9_push rfl (Nat.le_of_ble_eq_true rfl) dX10_useMemory_158 (fun rv σ' hpo => ?_)
    obtain ⟨rfl, h4⟩ := hpo
    refine n_iconst (v := 0) hC dX10_useMemory_161 (by decide) ?_
    refine n_iret hC dX10_useMemory_162 ?_
    refine ⟨rfl, Or.inr ⟨fun z => ?_, h4⟩⟩
    obtain ⟨r2, ⟨b1, b2⟩, e2, -⟩ := z
    refine hx ?_
    rw [e2]
    exact ⟨nI_le (a := 1) (by omega) (by omega), nI_le (b := 12) (by omega) (by omega)⟩
end WK3
