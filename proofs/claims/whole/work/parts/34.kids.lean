def m_spn (M : n_M) (q r i : Nat) (n : Int32) : n_M := m_s (m_s (m_adm M r i (M.1 2 q)) 3 r (nI q)) 5 r n
theorem m_adm_l {M : n_M} {r i c j : Nat} {a : Int32} (h : c ≠ 5) : (m_adm M r i a).2 c j = M.2 c j := by
  unfold m_adm
  rw [m_rdy_l h]
  rfl
def m_lfree (M : n_M) (r : Nat) : Prop := n_V r ∧ M.1 0 r = 0 ∧ ∀ r', 1 ≤ r' → r' < r → M.1 0 r' ≠ 0
def m_nofree (M : n_M) : Prop := ∀ r, 1 ≤ r → r ≤ 12 → M.1 0 r ≠ 0
def m_kid (M : n_M) (q : Nat) (x : Int32) (r : Nat) : Prop := n_V r ∧ x = nI r ∧ M.1 3 r = nI q
theorem m_kids_l (q : Nat) {c i : Nat} (hc : c ≠ 0 ∧ c ≠ 1 ∧ c ≠ 2 ∧ c ≠ 3) : ∀ (n : Nat) (M : n_M), (m_kids q n M).2 c i = M.2 c i
  | 0, _ => rfl
  | n + 1, M => by
    rw [← m_kids_l q hc n M]
    show (m_kid1 (m_kids q n M) q (n + 1)).2 c i = _
    generalize m_kids q n M = K
    unfold m_kid1
    split
    · split
      · unfold m_van
        rw [m_s_l, m_s_l, m_s_l, m_s_l, m_s_l, m_s_l, m_usr_l]
        unfold m_emp
        rw [m_s_l, m_s_l, m_s_l, ml_n (by omega), ml_n (by omega), ml_n (by omega), ml_n (by omega), ml_n (by omega), ml_n (by omega)]
        rfl
      · rfl
    · rfl
theorem m_van_l {M : n_M} {p c i : Nat} (h : ¬ (i = p ∨ i = 2 * p ∨ i = 2 * p + 1) ∨ 4 ≤ c) : (m_van M p).2 c i = M.2 c i := by
  unfold m_van
  rw [m_s_l, m_s_l, m_s_l, m_s_l, m_s_l, m_s_l, m_usr_l]
  unfold m_emp
  rw [m_s_l, m_s_l, m_s_l, ml_n (by omega), ml_n (by omega), ml_n (by omega), ml_n (by omega), ml_n (by omega), ml_n (by omega)]
theorem m_van_0 {M : n_M} {p i : Nat} (h : i ≠ p) : (m_van M p).2 0 i = M.2 0 i := by
  unfold m_van
  rw [m_s_l, m_s_l, m_s_l, m_s_l, m_s_l, m_s_l, m_usr_l]
  unfold m_emp
  rw [m_s_l, m_s_l, m_s_l, ml_n (by omega), ml_n (by omega), ml_n (by omega), ml_n (by omega), ml_n (by omega), ml_n (by omega)]
theorem m_kids_0 {q i : Nat} : ∀ (n : Nat) (M : n_M), (∀ p, n_V p → M.1 3 p = nI q → p ≠ i) → n ≤ 12 → (m_kids q n M).2 0 i = M.2 0 i ∧ (∀ p, n_V p → (m_kids q n M).1 3 p = nI q → p ≠ i)
  | 0, _, h, _ => ⟨rfl, h⟩
  | n + 1, M, h, hn => by
    obtain ⟨h1, h2⟩ := m_kids_0 n M h (by omega)
    have hp : n_V (n + 1) := ⟨by omega, hn⟩
    show (m_kid1 (m_kids q n M) q (n + 1)).2 0 i = _ ∧ ∀ p, n_V p → (m_kid1 (m_kids q n M) q (n + 1)).1 3 p = nI q → p ≠ i
    rw [← h1]
    generalize m_kids q n M = K at h1 h2
    unfold m_kid1
    by_cases e : K.1 3 (n + 1) = nI q
    · rw [if_pos e]
      have hne := h2 _ hp e
      by_cases e7 : K.1 0 (n + 1) = 7
      · rw [if_pos e7]
        refine ⟨by rw [m_van_0 (fun z => hne z.symm)]; rfl, fun p hpv hz => ?_⟩
        by_cases z : p = n + 1
        · rw [z]; exact hne
        · rw [m_van_o (by omega) z, ms_n (by omega)] at hz
          exact h2 p hpv hz
      · rw [if_neg e7]
        refine ⟨rfl, fun p hpv hz => ?_⟩
        by_cases z : p = n + 1
        · rw [z]; exact hne
        · rw [ms_n (by omega)] at hz
          exact h2 p hpv hz
    · rw [if_neg e]
      exact ⟨rfl, h2⟩
theorem m_fin_0 {M : n_M} {r i : Nat} {v : Int32} (hi : i ≠ r) (h : ∀ p, n_V p → M.1 3 p = nI r → p ≠ i) : (m_fin M r v).2 0 i = M.2 0 i := by
  have e1 : (m_fin1 M r v).2 0 i = M.2 0 i := by
    rw [m_fin1_eq, m_s_l, m_s_l]
    unfold m_K
    rw [(m_kids_0 12 _ (fun p hp hz => ?_) (Nat.le_refl _)).1]
    · unfold m_emp
      rw [m_s_l, m_s_l, m_s_l, ml_n (by omega), ml_n (by omega), ml_n (by omega), ml_n (by omega), ml_n (by omega), ml_n (by omega), m_outs_l, if_neg (by omega)]
      simp [m_free, m_mem]
    · rw [m_emp_s (by omega), m_outs_s, m_free_s (by omega)] at hz
      exact h p hp hz
  unfold m_fin
  split
  · rw [m_rdy_l (by omega), e1]
  · exact e1
section WK5
variable {l : Launch} {D : va_G} {ca : Nat → ClassId} {ad : Nat → Nat → Nat} {ae : Nat → Nat} {ts : Nat} {Ex : State → Heap → Prop}
theorem c_spawn (d q i : Nat) (n : Int32) (M : n_M) (σ : n_S) (hq : n_V q) (hM : RepC M σ) (hI : IR M) (hi : i < 12) (hp : M.1 4 q = nI (i + 1)) : n_Ct l (cw D ca ad ae Ex) (d + 3) yX10_spawn cX10_spawn 4 (some .int) [.ref (ad 20 0), .ref (ad 21 q), .int n] σ (fun rv σ' => (∃ r, m_lfree M r ∧ rv = some (.int (nI r)) ∧ RepC (m_spn M q r i n) σ') ∨ (m_nofree M ∧ rv = some (.int (-1)) ∧ RepC M σ')) := by
  refine n_ofW (by decide) (Nat.le_of_ble_eq_true rfl) ?_
  intro p e s m below meth c hC
  have hd : cw_dom 21 q := hq
  have e1 : σ 21 q 11 = M.1 4 q := hM.1 4 q hq
  have e2 : σ 21 q 9 = M.1 2 q := hM.1 2 q hq
  refine n_aload_n hC dX10_spawn_0 rfl rfl ?_
  refine g20_desk hC (by first | exact rfl | with_reducible assumption) wfX10_15 dX10_spawn_1 ?_
  refine n_callV hC (c_leastFree (d + 2) M σ hM) (Nat.le_refl _) (by decide) (by first | exact rfl | with_reducible assumption) rfl rfl rfl ⟨wmX10_272, wi_yX2_leastFree, wv_yX2_leastFree, wzX2, wc_yX2_leastFree⟩ hy_yX2_leastFree rfl (Nat.le_of_ble_eq_true rfl) dX10_spawn_4 (fun rv σ' hpo => ?_)
  obtain ⟨hpo, rfl⟩ := hpo
  rcases hpo with ⟨r, hr, h0, hlt, rfl⟩ | ⟨hn, rfl⟩
  · have hrV : n_V r := hr
    have hd2 : cw_dom 21 r := hr
    first | refine n_astore_n hC dX10_spawn_7 rfl (Nat.le_of_ble_eq_true rfl) ?_ | refine n_astore_nN hC dX10_spawn_7 rfl (Nat.le_of_ble_eq_true rfl) ?_
    refine n_aload_n hC dX10_spawn_8 rfl rfl ?_
    first | refine n_ifnull hC dX10_spawn_9 ?_ | refine n_ifnullN (tgt := 19) hC dX10_spawn_9 (by decide) ?_
    refine n_aload_n hC dX10_spawn_12 rfl rfl ?_
    refine g21_program hC (by first | exact rfl | with_reducible assumption) wfX10_275 dX10_spawn_13 ?_
    rw [e1, hp, cw_pg_i ad hi]
    first | refine n_ifnonnull (tgt := 21) hC dX10_spawn_16 (by decide) ?_ | refine n_ifnonnullN hC dX10_spawn_16 ?_
    refine n_aload_n hC dX10_spawn_21 rfl rfl ?_
    refine g20_desk hC (by first | exact rfl | with_reducible assumption) wfX10_15 dX10_spawn_22 ?_
    refine n_aload_n hC dX10_spawn_25 rfl rfl ?_
    refine n_aload_n hC dX10_spawn_26 rfl rfl ?_
    refine g21_program hC (by first | exact rfl | with_reducible assumption) wfX10_275 dX10_spawn_27 ?_
    rw [e1, hp, cw_pg_i ad hi]
    refine n_aload_n hC dX10_spawn_30 rfl rfl ?_
    refine g21_level hC (by first | exact rfl | with_reducible assumption) wfX10_67 dX10_spawn_31 ?_
    rw [e2]
    refine n_callV hC (c_taken d r i (M.1 2 q) M _ hM hr hi (hI.1 q hq) (hI.row hrV (hI.lv hq).1 (hI.notrow hrV (hI.lv hq).1 (by rw [h0]; decide)))) (Nat.le_refl _) (by decide) (by first | exact rfl | with_reducible assumption) rfl rfl rfl ⟨wmX10_279, wi_yX2_taken, wv_yX2_taken, wzX2, wc_yX2_taken⟩ hy_yX2_taken rfl (Nat.le_of_ble_eq_true rfl) dX10_spawn_34 (fun rv σ' hpo => ?_)
    obtain ⟨rfl, h1⟩ := hpo
    refine n_aload_n hC dX10_spawn_37 rfl rfl ?_
    refine n_aload_n hC dX10_spawn_38 rfl rfl ?_
    refine g21_number hC (by first | exact rfl | with_reducible assumption) wfX10_51 dX10_spawn_39 ?_
    refine p21_parent hC (by first | exact rfl | with_reducible assumption) wfX10_283 dX10_spawn_42 ?_
    refine n_aload_n hC dX10_spawn_45 rfl rfl ?_
    refine n_iload_n hC dX10_spawn_46 rfl rfl ?_
    refine p21_next hC (by first | exact rfl | with_reducible assumption) wfX10_128 dX10_spawn_47 ?_
    refine n_aload_n hC dX10_spawn_50 rfl rfl ?_
    refine g21_number hC (by first | exact rfl | with_reducible assumption) wfX10_51 dX10_spawn_51 ?_
    refine n_iret hC dX10_spawn_54 ?_
    exact Or.inl ⟨r, ⟨hr, h0, hlt⟩, rfl, cu_5 (cu_3 h1 hr) hr⟩
  · first | refine n_astore_n hC dX10_spawn_7 rfl (Nat.le_of_ble_eq_true rfl) ?_ | refine n_astore_nN hC dX10_spawn_7 rfl (Nat.le_of_ble_eq_true rfl) ?_
    refine n_aload_nN hC dX10_spawn_8 rfl rfl ?_
    first | refine n_ifnull hC dX10_spawn_9 ?_ | refine n_ifnullN (tgt := 19) hC dX10_spawn_9 (by decide) ?_
    refine n_iconst (v := -1) hC dX10_spawn_19 (by decide) ?_
    refine n_iret hC dX10_spawn_20 ?_
    exact Or.inr ⟨hn, rfl, hM⟩
theorem c_kspawn (hX : ∀ U H, Ex U H → cE ad ae ts U H) (d q i : Nat) (n : Int32) (M : n_M) (σ : n_S) (hq : n_V q) (hM : RepC M σ) (hI : IR M) (hi : i < 12) (hp : M.1 4 q = nI (i + 1)) (hl : (M.2 0 q).length < 40) : n_Ct l (cw D ca ad ae Ex) (d + 4) yX10_useChildren cX10_useChildren 6 (some .int) [.ref (ad 20 0), .ref (ad 21 q), .ref (ae 34), .int n] σ (fun rv σ' => rv = some (.int 0) ∧ ((∃ r, m_lfree M r ∧ RepC (m_l (m_spn M q r i n) 0 q (M.2 0 q ++ [nI r])) σ') ∨ (m_nofree M ∧ RepC (m_l M 0 q (M.2 0 q ++ [-1])) σ'))) := by
  refine n_ofW (by decide) (Nat.le_of_ble_eq_true rfl) ?_
  intro p e s m below meth c hC
  have hd : cw_dom 21 q := hq
  refine e_gm hC hX wfX10_192 dX10_useChildren_0 ?_
  refine n_aload_n hC dX10_useChildren_3 rfl rfl ?_
  refine e_ord hC hX (by omega) (Nat.le_of_ble_eq_true rfl) dX10_useChildren_4 ?_
  refine e_sw hC hX (by decide) (v := 24) rfl dX10_useChildren_7 ?_
  refine n_tableIn (off := 28) (tgt := 36) hC dX10_useChildren_8 (by decide) (by decide) (by decide) (by decide) ?_
  refine n_aload_n hC dX10_useChildren_36 rfl rfl ?_
  refine n_aload_n hC dX10_useChildren_37 rfl rfl ?_
  refine n_aload_n hC dX10_useChildren_38 rfl rfl ?_
  refine n_iload_n hC dX10_useChildren_39 rfl rfl ?_
  refine n_callV hC (c_spawn d q i n M σ hq hM hI hi hp) (Nat.le_refl _) (by decide) (by first | exact rfl | with_reducible assumption) rfl rfl rfl ⟨wmX10_265, wi_yX10_spawn, wv_yX10_spawn, wzX10, wc_yX10_spawn⟩ hy_yX10_spawn rfl (Nat.le_of_ble_eq_true rfl) dX10_useChildren_40 (fun rv σ' hpo => ?_)
  rcases hpo with ⟨r, hr, rfl, h1⟩ | ⟨hn, rfl, h1⟩
  · have e1 : (m_spn M q r i n).2 0 q = M.2 0 q := by
      unfold m_spn
      rw [m_s_l, m_s_l, m_adm_l (by omega)]
    refine n_callV hC (c_push (d + 3) q (nI r) _ _ h1 hq (by rw [e1]; exact hl)) (Nat.le_refl _) (by decide) (by first | exact rfl | with_reducible assumption) rfl rfl rfl ⟨wmX10_159, wi_yX9_push, wv_yX9_push, wzX9, wc_yX9_push⟩ hy_yX9_push rfl (Nat.le_of_ble_eq_true rfl) dX10_useChildren_43 (fun rv σ' hpo => ?_)
    obtain ⟨rfl, h2⟩ := hpo
    rw [e1] at h2
    refine n_iconst (v := 0) hC dX10_useChildren_46 (by decide) ?_
    refine n_iret hC dX10_useChildren_47 ?_
    exact ⟨rfl, Or.inl ⟨r, hr, h2⟩⟩
  · refine n_callV hC (c_push (d + 3) q (-1) M _ h1 hq hl) (Nat.le_refl _) (by decide) (by first | exact rfl | with_reducible assumption) rfl rfl rfl ⟨wmX10_159, wi_yX9_push, wv_yX9_push, wzX9, wc_yX9_push⟩ hy_yX9_push rfl (Nat.le_of_ble_eq_true rfl) dX10_useChildren_43 (fun rv σ' hpo => ?_)
    obtain ⟨rfl, h2⟩ := hpo
    refine n_iconst (v := 0) hC dX10_useChildren_46 (by decide) ?_
    refine n_iret hC dX10_useChildren_47 ?_
    exact ⟨rfl, Or.inr ⟨hn, h2⟩⟩
theorem c_collect0 (d q : Nat) (M : n_M) (σ : n_S) (hq : n_V q) (hM : RepC M σ) (hl : (M.2 0 q).length + 2 ≤ 40) : n_Ct l (cw D ca ad ae Ex) (d + 1) yX10_collect cX10_collect 3 none [.ref (ad 20 0), .ref (ad 21 q), .null] σ (fun rv σ' => rv = none ∧ RepC (m_l M 0 q (M.2 0 q ++ [0] ++ [0])) σ') := by
  refine n_ofW (by decide) (Nat.le_of_ble_eq_true rfl) ?_
  intro p e s m below meth c hC
  have hd : cw_dom 21 q := hq
  refine n_aload_nN hC dX10_collect_0 rfl rfl ?_
  first | refine n_ifnonnull (tgt := 17) hC dX10_collect_1 (by decide) ?_ | refine n_ifnonnullN hC dX10_collect_1 ?_
  refine n_aload_n hC dX10_collect_4 rfl rfl ?_
  refine n_iconst (v := 0) hC dX10_collect_5 (by decide) ?_
  refine n_callV hC (c_push d q 0 M σ hM hq (by omega)) (Nat.le_refl _) (by decide) (by first | exact rfl | with_reducible assumption) rfl rfl rfl ⟨wmX10_159, wi_yX9_push, wv_yX9_push, wzX9, wc_yX9_push⟩ hy_yX9_push rfl (Nat.le_of_ble_eq_true rfl) dX10_collect_6 (fun rv σ' hpo => ?_)
  obtain ⟨rfl, h1⟩ := hpo
  refine n_aload_n hC dX10_collect_9 rfl rfl ?_
  refine n_iconst (v := 0) hC dX10_collect_10 (by decide) ?_
  refine n_callV hC (c_ps d q 0 (M.2 0 q ++ [0]) M _ hq h1 (by simp; omega)) (Nat.le_refl _) (by decide) (by first | exact rfl | with_reducible assumption) rfl rfl rfl ⟨wmX10_159, wi_yX9_push, wv_yX9_push, wzX9, wc_yX9_push⟩ hy_yX9_push rfl (Nat.le_of_ble_eq_true rfl) dX10_collect_11 (fun rv σ' hpo => ?_)
  obtain ⟨rfl, h2⟩ := hpo
  refine n_goto (tgt := 34) hC dX10_collect_14 (by decide) ?_
  refine n_vret hC dX10_collect_34 ?_
  exact ⟨rfl, h2⟩
theorem c_collect1 (d q r : Nat) (M : n_M) (σ : n_S) (hq : n_V q) (hr : n_V r) (hM : RepC M σ) (hp : m_pok M r) (hl : (M.2 0 q).length + 2 ≤ 40) : n_Ct l (cw D ca ad ae Ex) (d + 2) yX10_collect cX10_collect 3 none [.ref (ad 20 0), .ref (ad 21 q), .ref (ad 21 r)] σ (fun rv σ' => rv = none ∧ RepC (m_van (m_l M 0 q (M.2 0 q ++ [M.1 1 r] ++ [1])) r) σ') := by
  refine n_ofW (by decide) (Nat.le_of_ble_eq_true rfl) ?_
  intro p e s m below meth c hC
  have hd : cw_dom 21 q := hq
  have hd2 : cw_dom 21 r := hr
  refine n_aload_n hC dX10_collect_0 rfl rfl ?_
  first | refine n_ifnonnull (tgt := 17) hC dX10_collect_1 (by decide) ?_ | refine n_ifnonnullN hC dX10_collect_1 ?_
  refine n_aload_n hC dX10_collect_17 rfl rfl ?_
  refine n_aload_n hC dX10_collect_18 rfl rfl ?_
  refine g21_code hC (by first | exact rfl | with_reducible assumption) wfX10_286 dX10_collect_19 ?_
  rw [show σ 21 r 8 = M.1 1 r from hM.1 1 r hr]
  refine n_callV hC (c_push (d + 1) q (M.1 1 r) M σ hM hq (by omega)) (Nat.le_refl _) (by decide) (by first | exact rfl | with_reducible assumption) rfl rfl rfl ⟨wmX10_159, wi_yX9_push, wv_yX9_push, wzX9, wc_yX9_push⟩ hy_yX9_push rfl (Nat.le_of_ble_eq_true rfl) dX10_collect_22 (fun rv σ' hpo => ?_)
  obtain ⟨rfl, h1⟩ := hpo
  refine n_aload_n hC dX10_collect_25 rfl rfl ?_
  refine n_iconst (v := 1) hC dX10_collect_26 (by decide) ?_
  refine n_callV hC (c_ps (d + 1) q 1 (M.2 0 q ++ [M.1 1 r]) M _ hq h1 (by simp; omega)) (Nat.le_refl _) (by decide) (by first | exact rfl | with_reducible assumption) rfl rfl rfl ⟨wmX10_159, wi_yX9_push, wv_yX9_push, wzX9, wc_yX9_push⟩ hy_yX9_push rfl (Nat.le_of_ble_eq_true rfl) dX10_collect_27 (fun rv σ' hpo => ?_)
  obtain ⟨rfl, h2⟩ := hpo
  refine n_aload_n hC dX10_collect_30 rfl rfl ?_
  refine n_callV hC (c_vanish d r _ _ h2 hr hp) (Nat.le_refl _) (by decide) (by first | exact rfl | with_reducible assumption) rfl rfl rfl ⟨wmX10_289, wi_yX9_vanish, wv_yX9_vanish, wzX9, wc_yX9_vanish⟩ hy_yX9_vanish rfl (Nat.le_of_ble_eq_true rfl) dX10_collect_31 (fun rv σ' hpo => ?_)
  obtain ⟨rfl, h3⟩ := hpo
  refine n_vret hC dX10_collect_34 ?_
  exact ⟨rfl, h3⟩
theorem c_kwait (hX : ∀ U H, Ex U H → cE ad ae ts U H) (d q : Nat) (n x : Int32) (t : List Int32) (M : n_M) (σ : n_S) (hq : n_V q) (hM : RepC M σ) (hP : IP M) (hl : M.2 0 q = t ++ [x]) (hlen : t.length + 2 ≤ 40) : n_Ct l (cw D ca ad ae Ex) (d + 3) yX10_useChildren cX10_useChildren 6 (some .int) [.ref (ad 20 0), .ref (ad 21 q), .ref (ae 35), .int n] σ (fun rv σ' => rv = some (.int 0) ∧ ((∃ r, m_kid M q x r ∧ RepC (m_van (m_l M 0 q (t ++ [M.1 1 r] ++ [1])) r) σ') ∨ ((¬ ∃ r, m_kid M q x r) ∧ RepC (m_l M 0 q (t ++ [0] ++ [0])) σ'))) := by
  refine n_ofW (by decide) (Nat.le_of_ble_eq_true rfl) ?_
  intro p e s m below meth c hC
  have hd : cw_dom 21 q := hq
  refine e_gm hC hX wfX10_192 dX10_useChildren_0 ?_
  refine n_aload_n hC dX10_useChildren_3 rfl rfl ?_
  refine e_ord hC hX (by omega) (Nat.le_of_ble_eq_true rfl) dX10_useChildren_4 ?_
  refine e_sw hC hX (by decide) (v := 25) rfl dX10_useChildren_7 ?_
  refine n_tableIn (off := 40) (tgt := 48) hC dX10_useChildren_8 (by decide) (by decide) (by decide) (by decide) ?_
  refine n_aload_n hC dX10_useChildren_48 rfl rfl ?_
  refine n_aload_n hC dX10_useChildren_49 rfl rfl ?_
  refine n_aload_n hC dX10_useChildren_50 rfl rfl ?_
  refine g20_desk hC (by first | exact rfl | with_reducible assumption) wfX10_15 dX10_useChildren_51 ?_
  refine n_aload_n hC dX10_useChildren_54 rfl rfl ?_
  refine n_aload_n hC dX10_useChildren_55 rfl rfl ?_
  refine n_callV hC (c_pop (d + 2) q x t M σ hM hq hl) (Nat.le_refl _) (by decide) (by first | exact rfl | with_reducible assumption) rfl rfl rfl ⟨wmX10_57, wi_yX9_pop, wv_yX9_pop, wzX9, wc_yX9_pop⟩ hy_yX9_pop rfl (Nat.le_of_ble_eq_true rfl) dX10_useChildren_56 (fun rv σ' hpo => ?_)
  obtain ⟨rfl, h1⟩ := hpo
  refine n_callV hC (c_findChild (d + 1) q x _ _ h1 hq) (Nat.le_refl _) (by decide) (by first | exact rfl | with_reducible assumption) rfl rfl rfl ⟨wmX10_117, wi_yX2_findChild, wv_yX2_findChild, wzX2, wc_yX2_findChild⟩ hy_yX2_findChild rfl (Nat.le_of_ble_eq_true rfl) dX10_useChildren_59 (fun rv σ' hpo => ?_)
  obtain ⟨hpo, rfl⟩ := hpo
  rcases hpo with ⟨r, hr, ex, ep, rfl⟩ | ⟨hn, rfl⟩
  · refine n_callV hC (c_collect1 d q r _ _ hq hr h1 (hP r hr) (by rw [ml_e]; exact hlen)) (Nat.le_refl _) (by decide) (by first | exact rfl | with_reducible assumption) rfl rfl rfl ⟨wmX10_268, wi_yX10_collect, wv_yX10_collect, wzX10, wc_yX10_collect⟩ hy_yX10_collect rfl (Nat.le_of_ble_eq_true rfl) dX10_useChildren_62 (fun rv σ' hpo => ?_)
    obtain ⟨rfl, h2⟩ := hpo
    rw [ml_e, ml_ml] at h2
    refine n_iconst (v := 0) hC dX10_useChildren_65 (by decide) ?_
    refine n_iret hC dX10_useChildren_66 ?_
    exact ⟨rfl, Or.inl ⟨r, ⟨hr, ex, ep⟩, h2⟩⟩
  · refine n_callV hC (c_collect0 (d + 1) q _ _ hq h1 (by rw [ml_e]; exact hlen)) (Nat.le_refl _) (by decide) (by first | exact rfl | with_reducible assumption) rfl rfl rfl ⟨wmX10_268, wi_yX10_collect, wv_yX10_collect, wzX10, wc_yX10_collect⟩ hy_yX10_collect rfl (Nat.le_of_ble_eq_true rfl) dX10_useChildren_62 (fun rv σ' hpo => ?_)
    obtain ⟨rfl, h2⟩ := hpo
    rw [ml_e, ml_ml] at h2
    refine n_iconst (v := 0) hC dX10_useChildren_65 (by decide) ?_
    refine n_iret hC dX10_useChildren_66 ?_
    exact ⟨rfl, Or.inr ⟨hn, h2⟩⟩
theorem c_kself (hX : ∀ U H, Ex U H → cE ad ae ts U H) (d q : Nat) (n : Int32) (M : n_M) (σ : n_S) (hq : n_V q) (hM : RepC M σ) (hl : (M.2 0 q).length < 40) : n_Ct l (cw D ca ad ae Ex) (d + 1) yX10_useChildren cX10_useChildren 6 (some .int) [.ref (ad 20 0), .ref (ad 21 q), .ref (ae 37), .int n] σ (fun rv σ' => rv = some (.int 0) ∧ RepC (m_l M 0 q (M.2 0 q ++ [nI q])) σ') := by
  refine n_ofW (by decide) (Nat.le_of_ble_eq_true rfl) ?_
  intro p e s m below meth c hC
  have hd : cw_dom 21 q := hq
  refine e_gm hC hX wfX10_192 dX10_useChildren_0 ?_
  refine n_aload_n hC dX10_useChildren_3 rfl rfl ?_
  refine e_ord hC hX (by omega) (Nat.le_of_ble_eq_true rfl) dX10_useChildren_4 ?_
  refine e_sw hC hX (by decide) (v := 0) rfl dX10_useChildren_7 ?_
  refine n_tableOut (tgt := 132) hC dX10_useChildren_8 (by decide) (by decide) ?_
  refine n_aload_n hC dX10_useChildren_132 rfl rfl ?_
  refine n_aload_n hC dX10_useChildren_133 rfl rfl ?_
  refine g21_number hC (by first | exact rfl | with_reducible assumption) wfX10_51 dX10_useChildren_134 ?_
  refine n_callV hC (c_push d q (nI q) M σ hM hq hl) (Nat.le_refl _) (by decide) (by first | exact rfl | with_reducible assumption) rfl rfl rfl ⟨wmX10_159, wi_yX9_push, wv_yX9_push, wzX9, wc_yX9_push⟩ hy_yX9_push rfl (Nat.le_of_ble_eq_true rfl) dX10_useChildren_137 (fun rv σ' hpo => ?_)
  obtain ⟨rfl, h2⟩ := hpo
  refine n_iconst (v := 0) hC dX10_useChildren_140 (by decide) ?_
  refine n_iret hC dX10_useChildren_141 ?_
  exact ⟨rfl, h2⟩
theorem c_kkill (hX : ∀ U H, Ex U H → cE ad ae ts U H) (d q : Nat) (n x : Int32) (t : List Int32) (M : n_M) (σ : n_S) (hq : n_V q) (hM : RepC M σ) (hB : IB M) (hI : IR M) (hP : IP M) (hpar : ∀ r, n_V r → M.1 3 r = 0 ∨ ∃ r', n_V r' ∧ r' ≠ r ∧ M.1 3 r = nI r') (hacy : ∀ r, n_V r → M.1 3 r = nI q → M.1 3 q ≠ nI r) (hl : M.2 0 q = t ++ [x]) (hlen : t.length < 40) : n_Ct l (cw D ca ad ae Ex) (d + 4) yX10_useChildren cX10_useChildren 6 (some .int) [.ref (ad 20 0), .ref (ad 21 q), .ref (ae 36), .int n] σ (fun rv σ' => rv = some (.int 0) ∧ ((∃ r, m_kid M q x r ∧ m_al M r ∧ RepC (m_l (m_fin (m_l M 0 q t) r (-1)) 0 q (t ++ [0])) σ') ∨ ((¬ ∃ r, m_kid M q x r ∧ m_al M r) ∧ RepC (m_l M 0 q (t ++ [-1])) σ'))) := by
  refine n_ofW (by decide) (Nat.le_of_ble_eq_true rfl) ?_
  intro p e s m below meth c hC
  have hd : cw_dom 21 q := hq
  have no : ∀ (σ1 : n_S) (z4 : Option Value), (z4 = some .null ∨ ∃ a, z4 = some (.ref a)) → RepC (m_l M 0 q t) σ1 → (¬ ∃ r, m_kid M q x r ∧ m_al M r) → n_W p l e s m [Value.ref (ad 20 0), Value.ref (ad 21 q), Value.ref (ae 36), Value.int n].toArray below meth c (cw D ca ad ae Ex) (d + 4) (fun rv σ' => rv = some (.int 0) ∧ ((∃ r, m_kid M q x r ∧ m_al M r ∧ RepC (m_l (m_fin (m_l M 0 q t) r (-1)) 0 q (t ++ [0])) σ') ∨ ((¬ ∃ r, m_kid M q x r ∧ m_al M r) ∧ RepC (m_l M 0 q (t ++ [-1])) σ'))) 98 [some (.ref (ad 20 0)), some (.ref (ad 21 q)), some (.ref (ae 36)), some (.int n), z4, none] [] σ1 := by
    intro σ1 z4 hz h1 hn
    refine n_iconst (v := 0) hC dX10_useChildren_98 (by decide) ?_
    refine n_istore hC dX10_useChildren_99 (Nat.le_of_ble_eq_true rfl) ?_
    rw [show n_st1 [some (Value.ref (ad 20 0)), some (Value.ref (ad 21 q)), some (Value.ref (ae 36)), some (Value.int n), z4, none] 5 (Value.int 0) = [some (Value.ref (ad 20 0)), some (Value.ref (ad 21 q)), some (Value.ref (ae 36)), some (Value.int n), z4, some (Value.int 0)] by rcases hz with rfl | ⟨a, rfl⟩ <;> rfl]
    refine n_iload hC dX10_useChildren_101 rfl ?_
    refine n_if_eq (tgt := 116) hC dX10_useChildren_103 (by decide) (fun h => ?_) (fun h => ?_)
    · refine n_aload_n hC dX10_useChildren_116 rfl rfl ?_
      refine n_iload hC dX10_useChildren_117 rfl ?_
      refine n_if_eq (tgt := 126) hC dX10_useChildren_119 (by decide) (fun h => ?_) (fun h => ?_)
      · refine n_iconst (v := -1) hC dX10_useChildren_126 (by decide) ?_
        refine n_callV hC (c_ps (d + 3) q (-1) t M _ hq h1 hlen) (Nat.le_refl _) (by decide) (by first | exact rfl | with_reducible assumption) rfl rfl rfl ⟨wmX10_159, wi_yX9_push, wv_yX9_push, wzX9, wc_yX9_push⟩ hy_yX9_push rfl (Nat.le_of_ble_eq_true rfl) dX10_useChildren_127 (fun rv σ' hpo => ?_)
        obtain ⟨rfl, h2⟩ := hpo
        refine n_iconst (v := 0) hC dX10_useChildren_130 (by decide) ?_
        refine n_iret hC dX10_useChildren_131 ?_
        exact ⟨rfl, Or.inr ⟨hn, h2⟩⟩
      · exact absurd rfl h
    · exact absurd rfl h
  refine e_gm hC hX wfX10_192 dX10_useChildren_0 ?_
  refine n_aload_n hC dX10_useChildren_3 rfl rfl ?_
  refine e_ord hC hX (by omega) (Nat.le_of_ble_eq_true rfl) dX10_useChildren_4 ?_
  refine e_sw hC hX (by decide) (v := 26) rfl dX10_useChildren_7 ?_
  refine n_tableIn (off := 59) (tgt := 67) hC dX10_useChildren_8 (by decide) (by decide) (by decide) (by decide) ?_
  refine n_aload_n hC dX10_useChildren_67 rfl rfl ?_
  refine g20_desk hC (by first | exact rfl | with_reducible assumption) wfX10_15 dX10_useChildren_68 ?_
  refine n_aload_n hC dX10_useChildren_71 rfl rfl ?_
  refine n_aload_n hC dX10_useChildren_72 rfl rfl ?_
  refine n_callV hC (c_pop (d + 3) q x t M σ hM hq hl) (Nat.le_refl _) (by decide) (by first | exact rfl | with_reducible assumption) rfl rfl rfl ⟨wmX10_57, wi_yX9_pop, wv_yX9_pop, wzX9, wc_yX9_pop⟩ hy_yX9_pop rfl (Nat.le_of_ble_eq_true rfl) dX10_useChildren_73 (fun rv σ' hpo => ?_)
  obtain ⟨rfl, h1⟩ := hpo
  refine n_callV hC (c_findChild (d + 2) q x _ _ h1 hq) (Nat.le_refl _) (by decide) (by first | exact rfl | with_reducible assumption) rfl rfl rfl ⟨wmX10_117, wi_yX2_findChild, wv_yX2_findChild, wzX2, wc_yX2_findChild⟩ hy_yX2_findChild rfl (Nat.le_of_ble_eq_true rfl) dX10_useChildren_76 (fun rv σ' hpo => ?_)
  obtain ⟨hpo, rfl⟩ := hpo
  rcases hpo with ⟨r, hr, ex, ep, rfl⟩ | ⟨hn, rfl⟩
  · have hrV : n_V r := hr
    have hd2 : cw_dom 21 r := hr
    have hkid : m_kid M q x r := ⟨hr, ex, ep⟩
    first | refine n_astore hC dX10_useChildren_79 (Nat.le_of_ble_eq_true rfl) ?_ | refine n_astoreN hC dX10_useChildren_79 (Nat.le_of_ble_eq_true rfl) ?_
    refine n_aload hC dX10_useChildren_81 rfl ?_
    first | refine n_ifnull hC dX10_useChildren_83 ?_ | refine n_ifnullN (tgt := 98) hC dX10_useChildren_83 (by decide) ?_
    refine n_aload hC dX10_useChildren_86 rfl ?_
    refine n_callV hC (c_alive (d + 3) r _ _ h1 hr) (Nat.le_refl _) (by decide) (by first | exact rfl | with_reducible assumption) rfl rfl rfl ⟨wmX10_121, wi_yX9_isAlive, wv_yX9_isAlive, wzX9, wc_yX9_isAlive⟩ hy_yX9_isAlive rfl (Nat.le_of_ble_eq_true rfl) dX10_useChildren_88 (fun rv σ' hpo => ?_)
    obtain ⟨hpo, rfl⟩ := hpo
    rcases hpo with ⟨ha, rfl⟩ | ⟨ha, rfl⟩
    · refine n_if_eq (tgt := 98) hC dX10_useChildren_91 (by decide) (fun h => ?_) (fun h => ?_)
      · exact absurd h (by decide)
      · clear h
        refine n_iconst (v := 1) hC dX10_useChildren_94 (by decide) ?_
        refine n_goto (tgt := 99) hC dX10_useChildren_95 (by decide) ?_
        refine n_istore hC dX10_useChildren_99 (Nat.le_of_ble_eq_true rfl) ?_
        refine n_iload hC dX10_useChildren_101 rfl ?_
        refine n_if_eq (tgt := 116) hC dX10_useChildren_103 (by decide) (fun h => ?_) (fun h => ?_)
        · exact absurd h (by decide)
        · clear h
          have hne : q ≠ r := by
            intro z
            rcases hpar r hrV with h | ⟨r', hr', hne, h⟩
            · have ep2 : M.1 3 r = nI q := ep
              rw [h] at ep2
              exact nI_ne0 hq.1 (by obtain ⟨a1, a2⟩ := hq; omega) ep2.symm
            · have ep2 : M.1 3 r = nI q := ep
              rw [h] at ep2
              exact hne ((nV_inj hr' hq ep2).trans z)
          have e1 : (m_fin (m_l M 0 q t) r (-1)).2 0 q = t := by
            rw [m_fin_0 hne (fun p hp hz e => ?_), ml_e]
            subst e
            exact hacy r hrV ep hz
          refine n_aload_n hC dX10_useChildren_106 rfl rfl ?_
          refine g20_desk hC (by first | exact rfl | with_reducible assumption) wfX10_15 dX10_useChildren_107 ?_
          refine n_aload hC dX10_useChildren_110 rfl ?_
          refine n_iconst (v := -1) hC dX10_useChildren_112 (by decide) ?_
          refine n_callV hC (c_finish d r (-1) _ _ h1 (IB_l hB (by omega)) (IR_l hI (by omega)) hP hrV (hpar r hrV)) (by omega) (by decide) (by first | exact rfl | with_reducible assumption) rfl rfl rfl ⟨wmX10_54, wi_yX2_finish, wv_yX2_finish, wzX2, wc_yX2_finish⟩ hy_yX2_finish rfl (Nat.le_of_ble_eq_true rfl) dX10_useChildren_113 (fun rv σ' hpo => ?_)
          obtain ⟨rfl, h2⟩ := hpo
          refine n_aload_n hC dX10_useChildren_116 rfl rfl ?_
          refine n_iload hC dX10_useChildren_117 rfl ?_
          refine n_if_eq (tgt := 126) hC dX10_useChildren_119 (by decide) (fun h => ?_) (fun h => ?_)
          · exact absurd h (by decide)
          · clear h
            refine n_iconst (v := 0) hC dX10_useChildren_122 (by decide) ?_
            refine n_goto (tgt := 127) hC dX10_useChildren_123 (by decide) ?_
            refine n_callV hC (c_push (d + 3) q 0 _ _ h2 hq (by rw [e1]; exact hlen)) (Nat.le_refl _) (by decide) (by first | exact rfl | with_reducible assumption) rfl rfl rfl ⟨wmX10_159, wi_yX9_push, wv_yX9_push, wzX9, wc_yX9_push⟩ hy_yX9_push rfl (Nat.le_of_ble_eq_true rfl) dX10_useChildren_127 (fun rv σ' hpo => ?_)
            obtain ⟨rfl, h3⟩ := hpo
            rw [e1] at h3
            refine n_iconst (v := 0) hC dX10_useChildren_130 (by decide) ?_
            refine n_iret hC dX10_useChildren_131 ?_
            exact ⟨rfl, Or.inl ⟨r, hkid, ha, h3⟩⟩
    · refine n_if_eq (tgt := 98) hC dX10_useChildren_91 (by decide) (fun h => ?_) (fun h => ?_)
      · refine no _ _ (Or.inr ⟨_, rfl⟩) h1 (fun z => ?_)
        obtain ⟨r2, ⟨hr2, ex2, -⟩, g⟩ := z
        have := nV_inj hr hr2 (ex.symm.trans ex2)
        subst this
        exact ha g
      · exact absurd rfl h
  · first | refine n_astore hC dX10_useChildren_79 (Nat.le_of_ble_eq_true rfl) ?_ | refine n_astoreN hC dX10_useChildren_79 (Nat.le_of_ble_eq_true rfl) ?_
    refine n_aloadN hC dX10_useChildren_81 rfl ?_
    first | refine n_ifnull hC dX10_useChildren_83 ?_ | refine n_ifnullN (tgt := 98) hC dX10_useChildren_83 (by decide) ?_
    exact no _ _ (Or.inl rfl) h1 (fun z => by obtain ⟨r2, hk, -⟩ := z; exact hn ⟨r2, hk⟩)
end WK5
