/-- what an instruction does: M with next put on, v the outcome, M' the state behind -/
def m_do (q k : Nat) (n : Int32) (M : n_M) (v : Int32) (M' : n_M) : Prop :=
  (k ≤ 6 ∧ v = 0 ∧ ∃ st', m_shr k n (M.2 0 q) st' ∧ M' = m_l M 0 q st') ∨
  ((7 ≤ k ∧ k ≤ 19) ∧ ∃ t a b, M.2 0 q = t ++ [a] ++ [b] ∧ (((b = 0 ∧ (k = 10 ∨ k = 11)) ∧ v = -4 ∧ M' = m_l M 0 q t) ∨ (¬ (b = 0 ∧ (k = 10 ∨ k = 11)) ∧ v = 0 ∧ M' = m_l M 0 q (t ++ [m_res k a b])))) ∨
  (k = 20 ∧ v = 0 ∧ M' = m_s M 5 q n) ∨
  (k = 21 ∧ v = 0 ∧ ∃ t a, M.2 0 q = t ++ [a] ∧ M' = if a = 0 then m_s (m_l M 0 q t) 5 q n else m_l M 0 q t) ∨
  (k = 22 ∧ ((20 ≤ (M.2 1 q).length ∧ v = -6 ∧ M' = M) ∨ ((M.2 1 q).length < 20 ∧ v = 0 ∧ M' = m_s (m_l M 1 q (M.2 1 q ++ [M.1 5 q])) 5 q n))) ∨
  (k = 23 ∧ ((M.2 1 q = [] ∧ v = -6 ∧ M' = M) ∨ (∃ t a, M.2 1 q = t ++ [a] ∧ v = 0 ∧ M' = m_s (m_l M 1 q t) 5 q a))) ∨
  (k = 24 ∧ v = 3 ∧ M' = M) ∨
  (k = 25 ∧ ∃ t a, M.2 0 q = t ++ [a] ∧ ((∃ j, (j < 1024 ∧ a = nI j ∧ M.1 11 j = nI q) ∧ v = 0 ∧ M' = m_l M 0 q (t ++ [M.1 10 j])) ∨ (¬ m_hd M (nI q) a ∧ v = -5 ∧ M' = m_l M 0 q t))) ∨
  (k = 26 ∧ ∃ t x a, M.2 0 q = t ++ [x] ++ [a] ∧ ((∃ j, (j < 1024 ∧ a = nI j ∧ M.1 11 j = nI q) ∧ v = 0 ∧ M' = m_s (m_l M 0 q t) 10 j x) ∨ (¬ m_hd M (nI q) a ∧ v = -5 ∧ M' = m_l M 0 q (t ++ [x])))) ∨
  (k = 27 ∧ v = 0 ∧ ∃ t a, M.2 0 q = t ++ [a] ∧ ((∃ n j, (1 ≤ n ∧ n ≤ 1024) ∧ a = nI n ∧ m_fst (m_nsl M) (M.2 11 0) n j ∧ M' = m_l (m_cut (m_l M 0 q t) (m_nsl M) (M.2 11 0) j n (nI q)) 0 q (t ++ [nI ((m_nsl M).take j).sum])) ∨ ((∀ n, (1 ≤ n ∧ n ≤ 1024) → a = nI n → m_non (m_nsl M) (M.2 11 0) n) ∧ M' = m_l M 0 q (t ++ [-1])))) ∨
  (k = 28 ∧ v = 0 ∧ ∃ t a, M.2 0 q = t ++ [a] ∧ ((m_hf M (nI q) a ∧ M' = m_l (m_free (m_l M 0 q t) (nI q) a) 0 q (t ++ [0])) ∨ (¬ m_hf M (nI q) a ∧ M' = m_l M 0 q (t ++ [-1])))) ∨
  (k = 29 ∧ v = 0 ∧ ∃ t a x, M.2 0 q = t ++ [a] ++ [x] ∧ ((∃ r j, n_V r ∧ x = nI r ∧ m_al M r ∧ m_at M (nI q) a j ∧ M' = m_l (m_own1 (m_l M 0 q t) j (nI r)) 0 q (t ++ [0])) ∨ ((¬ ∃ r, n_V r ∧ x = nI r ∧ m_al M r ∧ m_hf M (nI q) a) ∧ M' = m_l M 0 q (t ++ [-1])))) ∨
  (k = 30 ∧ v = 0 ∧ ∃ t x y, M.2 0 q = t ++ [x] ++ [y] ∧ (((¬ ∃ r, n_V r ∧ y = nI r ∧ m_al M r) ∧ M' = m_l M 0 q (t ++ [-1])) ∨ (∃ r, n_V r ∧ y = nI r ∧ m_al M r ∧ ((8 ≤ (M.2 2 (2 * r)).length ∧ M' = m_l M 0 q (t ++ [-2])) ∨ ((M.2 2 (2 * r)).length < 8 ∧ M' = m_l (m_del (m_l M 0 q t) r x (nI q)) 0 q (t ++ [0])))))) ∨
  (k = 31 ∧ v = 0 ∧ ∃ x y bs ws, M.2 2 (2 * q) = x :: bs ∧ M.2 3 (2 * q) = y :: ws ∧ M' = m_l (m_l (m_l M 0 q (M.2 0 q ++ [x] ++ [y])) 2 (2 * q) bs) 3 (2 * q) ws) ∨
  (k = 32 ∧ v = 0 ∧ ∃ t x, M.2 0 q = t ++ [x] ∧ M' = m_show (m_l M 0 q t) x) ∨
  (k = 33 ∧ v = 0 ∧ ∃ x bs, M.2 2 (2 * q + 1) = x :: bs ∧ M' = m_l (m_l (m_l M 0 q (M.2 0 q ++ [x])) 2 (2 * q + 1) bs) 3 (2 * q + 1) (M.2 3 (2 * q + 1)).tail) ∨
  (k = 34 ∧ v = 0 ∧ ((∃ r i, i < 12 ∧ M.1 4 q = nI (i + 1) ∧ m_lfree M r ∧ M' = m_l (m_spn M q r i n) 0 q (M.2 0 q ++ [nI r])) ∨ (m_nofree M ∧ M' = m_l M 0 q (M.2 0 q ++ [-1])))) ∨
  (k = 35 ∧ v = 0 ∧ ∃ t x, M.2 0 q = t ++ [x] ∧ ((∃ r, m_kid M q x r ∧ M' = m_van (m_l M 0 q (t ++ [M.1 1 r] ++ [1])) r) ∨ ((¬ ∃ r, m_kid M q x r) ∧ M' = m_l M 0 q (t ++ [0] ++ [0])))) ∨
  (k = 36 ∧ v = 0 ∧ ∃ t x, M.2 0 q = t ++ [x] ∧ ((∃ r, m_kid M q x r ∧ m_al M r ∧ M' = m_l (m_fin (m_l M 0 q t) r (-1)) 0 q (t ++ [0])) ∨ ((¬ ∃ r, m_kid M q x r ∧ m_al M r) ∧ M' = m_l M 0 q (t ++ [-1])))) ∨
  (k = 37 ∧ v = 0 ∧ M' = m_l M 0 q (M.2 0 q ++ [nI q])) ∨
  (k = 38 ∧ ∃ t a, M.2 0 q = t ++ [a] ∧ (((∃ r, r < 3 ∧ a = nI r) ∧ v = 1 ∧ M' = m_plast (m_l M 0 q t) q a) ∨ ((¬ ∃ r, r < 3 ∧ a = nI r) ∧ v = -9 ∧ M' = m_l M 0 q t))) ∨
  (k = 39 ∧ v = 1 ∧ M' = m_plast M q (M.1 2 q)) ∨
  (k = 40 ∧ v = 1 ∧ ∃ t a, M.2 0 q = t ++ [a] ∧ M' = if a < 1 then m_plast (m_l M 0 q t) q (M.1 2 q) else m_slp (m_l M 0 q t) q a) ∨
  (k = 41 ∧ ∃ t a, M.2 0 q = t ++ [a] ∧ ((∃ k, k < 8 ∧ a = nI k ∧ ((0 < M.1 9 k ∧ v = 0 ∧ M' = m_s (m_l M 0 q t) 9 k (M.1 9 k - 1)) ∨ (¬ 0 < M.1 9 k ∧ v = 1 ∧ M' = m_jn (m_l M 0 q t) q k))) ∨ ((¬ ∃ k, k < 8 ∧ a = nI k) ∧ v = -8 ∧ M' = m_l M 0 q t))) ∨
  (k = 42 ∧ ∃ t a, M.2 0 q = t ++ [a] ∧ ((∃ k, k < 8 ∧ a = nI k ∧ v = 0 ∧ ((∃ r u, n_V r ∧ M.2 5 (k + 3) = nI r :: u ∧ M' = m_rdy (m_out (m_l M 0 q t) (k + 3) r) r) ∨ (M.2 5 (k + 3) = [] ∧ M' = if M.1 9 k < 1000000 then m_s (m_l M 0 q t) 9 k (M.1 9 k + 1) else m_l M 0 q t))) ∨ ((¬ ∃ k, k < 8 ∧ a = nI k) ∧ v = -8 ∧ M' = m_l M 0 q t)))
theorem m_shr_ex {k : Nat} (hk : k ≤ 6) (n : Int32) {st : List Int32} (hn : m_ne k ≤ st.length) (hg : st.length + m_gr k ≤ 40) : ∃ st', m_shr k n st st' ∧ st'.length ≤ 40 := by
  have h7 : k = 0 ∨ k = 1 ∨ k = 2 ∨ k = 3 ∨ k = 4 ∨ k = 5 ∨ k = 6 := by omega
  rcases h7 with rfl | rfl | rfl | rfl | rfl | rfl | rfl
  · exact ⟨_, rfl, by simpa [m_gr, m_grL] using hg⟩
  · obtain ⟨t, c, rfl⟩ := m_last1 (l := st) hn
    exact ⟨_, ⟨t, c, rfl, rfl⟩, by simpa [m_gr, m_grL] using hg⟩
  · obtain ⟨t, c, rfl⟩ := m_last1 (l := st) hn
    exact ⟨t, ⟨c, rfl⟩, by simp [m_gr, m_grL] at hg; omega⟩
  · obtain ⟨t, b, c, rfl⟩ := m_last2 (l := st) hn
    exact ⟨_, ⟨t, b, c, rfl, rfl⟩, by simpa [m_gr, m_grL] using hg⟩
  · obtain ⟨t, b, c, rfl⟩ := m_last2 (l := st) hn
    exact ⟨_, ⟨t, b, c, rfl, rfl⟩, by simpa [m_gr, m_grL] using hg⟩
  · obtain ⟨t, a, b, c, rfl⟩ := m_last3 (l := st) hn
    exact ⟨_, ⟨t, a, b, c, rfl, rfl⟩, by simpa [m_gr, m_grL] using hg⟩
  · obtain ⟨t, c, rfl⟩ := m_last1 (l := st) hn
    exact ⟨_, ⟨t, c, rfl, rfl⟩, by simpa [m_gr, m_grL] using hg⟩
theorem m_ne2 : ∀ k, 7 ≤ k → k ≤ 19 → m_ne k = 2 := by
  have : ∀ k, k < 43 → 7 ≤ k → k ≤ 19 → m_ne k = 2 := by decide +kernel
  intro k a b
  exact this k (by omega) a b
theorem m_kd : ∀ k, k < 43 → cE_kd.getD k 0 = if k ≤ 6 then 0 else if k ≤ 19 then 1 else if k ≤ 24 then 2 else if k ≤ 29 then 3 else if k ≤ 33 then 4 else if k ≤ 37 then 5 else 6 := by decide +kernel
theorem RepC.l {M : n_M} {σ : n_S} {c i : Nat} {l : List Int32} (h : RepC M σ) (hl : M.2 c i = l) : RepC (m_l M c i l) σ := by rw [ml_id hl]; exact h
section WK8
variable {l : Launch} {D : va_G} {ca : Nat → ClassId} {ad : Nat → Nat → Nat} {ae : Nat → Nat} {ts : Nat} {Ex : State → Heap → Prop}
/-PERF-/
set_option maxHeartbeats 4000000 in
theorem c_perform (hX : ∀ U H, Ex U H → cE ad ae ts U H) (d q k i n0 : Nat) (hk : k < 43) (M : n_M) (σ : n_S) (hq : n_V q) (hM : RepC M σ) (hI : IR M) (hB : IB M) (hP : IP M) (hpar : ∀ r, n_V r → M.1 3 r = 0 ∨ ∃ r', n_V r' ∧ r' ≠ r ∧ M.1 3 r = nI r') (hacy : ∀ r, n_V r → M.1 3 r = nI q → M.1 3 q ≠ nI r) (hs : M.1 0 q = 1) (hi : i < 12) (hp : M.1 4 q = nI (i + 1)) (hn : M.1 5 q = nI n0) (hn0 : n0 < (M.2 13 i).length) (hne : m_ne k ≤ (M.2 0 q).length) (hnw : m_nw M q k) (hgr : (M.2 0 q).length + m_gr k ≤ 40) : n_Ct l (cw D ca ad ae Ex) (d + 5) yX10_perform cX10_perform 4 (some .int) [.ref (ad 20 0), .ref (ad 21 q), .ref (ae k)] σ (fun rv σ' => ∃ v M', m_do q k ((M.2 13 i).getD n0 0) (m_s M 5 q (nI (n0 + 1))) v M' ∧ rv = some (.int v) ∧ RepC M' σ') := by
  have hkd := m_kd k hk
  have hj : 2 ≤ 2 * q ∧ 2 * q ≤ 25 := by obtain ⟨_, _⟩ := id hq; omega
  refine n_ofW (by decide) (Nat.le_of_ble_eq_true rfl) ?_
  intro p e s m below meth c hC
  have hd : cw_dom 21 q := hq
  refine n_aload_n hC dX10_perform_0 rfl rfl ?_
  refine n_callV hC (c_nextNumber (d + 4) q i n0 M σ hM hq hi hp hn hn0) (Nat.le_refl _) (by decide) (by first | exact rfl | with_reducible assumption) rfl rfl rfl ⟨wmX10_125, wi_yX9_nextNumber, wv_yX9_nextNumber, wzX9, wc_yX9_nextNumber⟩ hy_yX9_nextNumber rfl (Nat.le_of_ble_eq_true rfl) dX10_perform_1 (fun rv σ' hpo => ?_)
  obtain ⟨rfl, rfl⟩ := hpo
  have e5 : σ' 21 q 12 = nI n0 := (hM.1 5 q hq).trans hn
  refine n_istore_n hC dX10_perform_4 rfl (Nat.le_of_ble_eq_true rfl) ?_
  refine n_aload_n hC dX10_perform_5 rfl rfl ?_
  refine n_dup hC dX10_perform_6 rfl ?_
  refine g21_next hC (by first | exact rfl | with_reducible assumption) wfX10_128 dX10_perform_7 ?_
  rw [e5]
  refine n_iconst (v := 1) hC dX10_perform_10 (by decide) ?_
  refine n_iadd hC dX10_perform_11 ?_
  rw [show nI n0 + 1 = nI (n0 + 1) from (nI_succ n0).symm]
  refine p21_next hC (by first | exact rfl | with_reducible assumption) wfX10_128 dX10_perform_12 ?_
  have hM1 := cu_5 (v := nI (n0 + 1)) hM hq
  have hI1 : IR (m_s M 5 q (nI (n0 + 1))) := IR_s hI (by omega)
  have hB1 : IB (m_s M 5 q (nI (n0 + 1))) := IB_s hB (by omega)
  have hP1 : IP (m_s M 5 q (nI (n0 + 1))) := fun r hr => hP r hr
  have hs1 : (m_s M 5 q (nI (n0 + 1))).1 0 q = 1 := hs
  have hp1 : (m_s M 5 q (nI (n0 + 1))).1 4 q = nI (i + 1) := hp
  have hpar1 : ∀ r, n_V r → (m_s M 5 q (nI (n0 + 1))).1 3 r = 0 ∨ ∃ r', n_V r' ∧ r' ≠ r ∧ (m_s M 5 q (nI (n0 + 1))).1 3 r = nI r' := hpar
  have hacy1 : ∀ r, n_V r → (m_s M 5 q (nI (n0 + 1))).1 3 r = nI q → (m_s M 5 q (nI (n0 + 1))).1 3 q ≠ nI r := hacy
  have hne1 : m_ne k ≤ ((m_s M 5 q (nI (n0 + 1))).2 0 q).length := hne
  have hgr1 : ((m_s M 5 q (nI (n0 + 1))).2 0 q).length + m_gr k ≤ 40 := hgr
  have hnw1 : m_nw (m_s M 5 q (nI (n0 + 1))) q k := hnw
  generalize hNN : m_s M 5 q (nI (n0 + 1)) = N at hM1 hI1 hB1 hP1 hs1 hp1 hpar1 hacy1 hne1 hgr1 hnw1 ⊢
  clear hNN hM hI hB hP hs hp hn hne hnw hgr hpar hacy e5
  generalize (M.2 13 i).getD n0 0 = nn
  generalize n_up σ' 21 q 12 (nI (n0 + 1)) = σ1 at hM1 ⊢
  clear hn0
  refine n_aload_n hC dX10_perform_15 rfl rfl ?_
  refine e_gf hC hX (by omega) ("ShareMonitor$Op", "kind", "I", cE_kd) (by simp [cE_F]) wfX10_131 dX10_perform_16 ?_
  rw [hkd]
  by_cases k6 : k ≤ 6
  · rw [if_pos k6]
    obtain ⟨st', hsh, hle⟩ := m_shr_ex k6 nn hne1 hgr1
    refine n_tableIn (off := 37) (tgt := 56) hC dX10_perform_19 (by decide) (by decide) (by decide) (by decide) ?_
    refine n_aload_n hC dX10_perform_56 rfl rfl ?_
    refine n_aload_n hC dX10_perform_57 rfl rfl ?_
    refine n_aload_n hC dX10_perform_58 rfl rfl ?_
    refine n_iload_n hC dX10_perform_59 rfl rfl ?_
    refine n_callV hC (c_shuffle hX (d + 2) k q k6 nn (N.2 0 q) st' N σ1 hq hsh (hM1.l rfl) hle) (Nat.le_refl _) (by decide) (by first | exact rfl | with_reducible assumption) rfl rfl rfl ⟨wmX10_134, wi_yX10_shuffle, wv_yX10_shuffle, wzX10, wc_yX10_shuffle⟩ hy_yX10_shuffle rfl (Nat.le_of_ble_eq_true rfl) dX10_perform_60 (fun rv σ' hpo => ?_)
    obtain ⟨rfl, h1⟩ := hpo
    refine n_iret hC dX10_perform_63 ?_
    exact ⟨_, _, Or.inl ⟨k6, rfl, st', hsh, rfl⟩, rfl, h1⟩
  rw [if_neg k6]
  by_cases k19 : k ≤ 19
  · rw [if_pos k19]
    obtain ⟨t, x, y, hst⟩ := m_last2 (l := N.2 0 q) (by rw [m_ne2 k (by omega) k19] at hne1; exact hne1)
    have hle : t.length < 40 := by rw [hst] at hgr1; simp at hgr1; omega
    refine n_tableIn (off := 45) (tgt := 64) hC dX10_perform_19 (by decide) (by decide) (by decide) (by decide) ?_
    refine n_aload_n hC dX10_perform_64 rfl rfl ?_
    refine n_aload_n hC dX10_perform_65 rfl rfl ?_
    refine n_aload_n hC dX10_perform_66 rfl rfl ?_
    refine n_callV hC (c_compute hX (d + 2) k q ⟨by omega, k19⟩ x y t N σ1 hq (hM1.l hst) hle) (Nat.le_refl _) (by decide) (by first | exact rfl | with_reducible assumption) rfl rfl rfl ⟨wmX10_138, wi_yX10_compute, wv_yX10_compute, wzX10, wc_yX10_compute⟩ hy_yX10_compute rfl (Nat.le_of_ble_eq_true rfl) dX10_perform_67 (fun rv σ' hpo => ?_)
    rcases hpo with ⟨hz, rfl, h1⟩ | ⟨hz, rfl, h1⟩
    · refine n_iret hC dX10_perform_70 ?_
      exact ⟨_, _, Or.inr (Or.inl ⟨⟨by omega, k19⟩, t, x, y, hst, Or.inl ⟨hz, rfl, rfl⟩⟩), rfl, h1⟩
    · refine n_iret hC dX10_perform_70 ?_
      exact ⟨_, _, Or.inr (Or.inl ⟨⟨by omega, k19⟩, t, x, y, hst, Or.inr ⟨hz, rfl, rfl⟩⟩), rfl, h1⟩
  rw [if_neg k19]
  by_cases kk24 : k ≤ 24
  · rw [if_pos kk24]
    have hc : k = 20 ∨ k = 21 ∨ k = 22 ∨ k = 23 ∨ k = 24 := by omega
    rcases hc with rfl | rfl | rfl | rfl | rfl
    · refine n_tableIn (off := 52) (tgt := 71) hC dX10_perform_19 (by decide) (by decide) (by decide) (by decide) ?_
      refine n_aload_n hC dX10_perform_71 rfl rfl ?_
      refine n_aload_n hC dX10_perform_72 rfl rfl ?_
      refine n_aload_n hC dX10_perform_73 rfl rfl ?_
      refine n_iload_n hC dX10_perform_74 rfl rfl ?_
      refine n_callV hC (c_jump hX (d + 3) q nn N σ1 hq hM1) (Nat.le_refl _) (by decide) (by first | exact rfl | with_reducible assumption) rfl rfl rfl ⟨wmX10_141, wi_yX10_follow, wv_yX10_follow, wzX10, wc_yX10_follow⟩ hy_yX10_follow rfl (Nat.le_of_ble_eq_true rfl) dX10_perform_75 (fun rv σ' hpo => ?_)
      obtain ⟨rfl, h1⟩ := hpo
      refine n_iret hC dX10_perform_78 ?_
      exact ⟨_, _, Or.inr (Or.inr (Or.inl (⟨rfl, rfl, rfl⟩))), rfl, h1⟩
    · obtain ⟨t, x, hst⟩ := m_last1 (l := N.2 0 q) hne1
      refine n_tableIn (off := 52) (tgt := 71) hC dX10_perform_19 (by decide) (by decide) (by decide) (by decide) ?_
      refine n_aload_n hC dX10_perform_71 rfl rfl ?_
      refine n_aload_n hC dX10_perform_72 rfl rfl ?_
      refine n_aload_n hC dX10_perform_73 rfl rfl ?_
      refine n_iload_n hC dX10_perform_74 rfl rfl ?_
      refine n_callV hC (c_zero hX (d + 3) q nn x t N σ1 hq hM1 hst) (Nat.le_refl _) (by decide) (by first | exact rfl | with_reducible assumption) rfl rfl rfl ⟨wmX10_141, wi_yX10_follow, wv_yX10_follow, wzX10, wc_yX10_follow⟩ hy_yX10_follow rfl (Nat.le_of_ble_eq_true rfl) dX10_perform_75 (fun rv σ' hpo => ?_)
      obtain ⟨rfl, h1⟩ := hpo
      refine n_iret hC dX10_perform_78 ?_
      exact ⟨_, _, Or.inr (Or.inr (Or.inr (Or.inl (⟨rfl, rfl, t, x, hst, rfl⟩)))), rfl, h1⟩
    · refine n_tableIn (off := 52) (tgt := 71) hC dX10_perform_19 (by decide) (by decide) (by decide) (by decide) ?_
      refine n_aload_n hC dX10_perform_71 rfl rfl ?_
      refine n_aload_n hC dX10_perform_72 rfl rfl ?_
      refine n_aload_n hC dX10_perform_73 rfl rfl ?_
      refine n_iload_n hC dX10_perform_74 rfl rfl ?_
      refine n_callV hC (c_calls hX (d + 3) q nn N σ1 hq hM1) (Nat.le_refl _) (by decide) (by first | exact rfl | with_reducible assumption) rfl rfl rfl ⟨wmX10_141, wi_yX10_follow, wv_yX10_follow, wzX10, wc_yX10_follow⟩ hy_yX10_follow rfl (Nat.le_of_ble_eq_true rfl) dX10_perform_75 (fun rv σ' hpo => ?_)
      rcases hpo with ⟨hz, rfl, h1⟩ | ⟨hz, rfl, h1⟩
      · refine n_iret hC dX10_perform_78 ?_
        exact ⟨_, _, Or.inr (Or.inr (Or.inr (Or.inr (Or.inl (⟨rfl, Or.inl ⟨hz, rfl, rfl⟩⟩))))), rfl, h1⟩
      · refine n_iret hC dX10_perform_78 ?_
        exact ⟨_, _, Or.inr (Or.inr (Or.inr (Or.inr (Or.inl (⟨rfl, Or.inr ⟨hz, rfl, rfl⟩⟩))))), rfl, h1⟩
    · cases hr : (N.2 1 q).reverse with
      | nil =>
        have hr0 : N.2 1 q = [] := by simpa using hr
        refine n_tableIn (off := 52) (tgt := 71) hC dX10_perform_19 (by decide) (by decide) (by decide) (by decide) ?_
        refine n_aload_n hC dX10_perform_71 rfl rfl ?_
        refine n_aload_n hC dX10_perform_72 rfl rfl ?_
        refine n_aload_n hC dX10_perform_73 rfl rfl ?_
        refine n_iload_n hC dX10_perform_74 rfl rfl ?_
        refine n_callV hC (c_return0 hX (d + 3) q nn N σ1 hq hM1 hr0) (Nat.le_refl _) (by decide) (by first | exact rfl | with_reducible assumption) rfl rfl rfl ⟨wmX10_141, wi_yX10_follow, wv_yX10_follow, wzX10, wc_yX10_follow⟩ hy_yX10_follow rfl (Nat.le_of_ble_eq_true rfl) dX10_perform_75 (fun rv σ' hpo => ?_)
        obtain ⟨rfl, h1⟩ := hpo
        refine n_iret hC dX10_perform_78 ?_
        exact ⟨_, _, Or.inr (Or.inr (Or.inr (Or.inr (Or.inr (Or.inl (⟨rfl, Or.inl ⟨hr0, rfl, rfl⟩⟩)))))), rfl, h1⟩
      | cons x t =>
        have hr0 : N.2 1 q = t.reverse ++ [x] := by have := congrArg List.reverse hr; simpa using this
        refine n_tableIn (off := 52) (tgt := 71) hC dX10_perform_19 (by decide) (by decide) (by decide) (by decide) ?_
        refine n_aload_n hC dX10_perform_71 rfl rfl ?_
        refine n_aload_n hC dX10_perform_72 rfl rfl ?_
        refine n_aload_n hC dX10_perform_73 rfl rfl ?_
        refine n_iload_n hC dX10_perform_74 rfl rfl ?_
        refine n_callV hC (c_return1 hX (d + 3) q nn x t.reverse N σ1 hq hM1 hr0) (Nat.le_refl _) (by decide) (by first | exact rfl | with_reducible assumption) rfl rfl rfl ⟨wmX10_141, wi_yX10_follow, wv_yX10_follow, wzX10, wc_yX10_follow⟩ hy_yX10_follow rfl (Nat.le_of_ble_eq_true rfl) dX10_perform_75 (fun rv σ' hpo => ?_)
        obtain ⟨rfl, h1⟩ := hpo
        refine n_iret hC dX10_perform_78 ?_
        exact ⟨_, _, Or.inr (Or.inr (Or.inr (Or.inr (Or.inr (Or.inl (⟨rfl, Or.inr ⟨_, _, hr0, rfl, rfl⟩⟩)))))), rfl, h1⟩
    · refine n_tableIn (off := 52) (tgt := 71) hC dX10_perform_19 (by decide) (by decide) (by decide) (by decide) ?_
      refine n_aload_n hC dX10_perform_71 rfl rfl ?_
      refine n_aload_n hC dX10_perform_72 rfl rfl ?_
      refine n_aload_n hC dX10_perform_73 rfl rfl ?_
      refine n_iload_n hC dX10_perform_74 rfl rfl ?_
      refine n_callV hC (c_exit hX (d + 3) q nn N σ1 hM1) (Nat.le_refl _) (by decide) (by first | exact rfl | with_reducible assumption) rfl rfl rfl ⟨wmX10_141, wi_yX10_follow, wv_yX10_follow, wzX10, wc_yX10_follow⟩ hy_yX10_follow rfl (Nat.le_of_ble_eq_true rfl) dX10_perform_75 (fun rv σ' hpo => ?_)
      obtain ⟨rfl, h1⟩ := hpo
      refine n_iret hC dX10_perform_78 ?_
      exact ⟨_, _, Or.inr (Or.inr (Or.inr (Or.inr (Or.inr (Or.inr (Or.inl (⟨rfl, rfl, rfl⟩))))))), rfl, h1⟩
  rw [if_neg kk24]
  by_cases kk29 : k ≤ 29
  · rw [if_pos kk29]
    have hc : k = 25 ∨ k = 26 ∨ k = 27 ∨ k = 28 ∨ k = 29 := by omega
    rcases hc with rfl | rfl | rfl | rfl | rfl
    · obtain ⟨t, x, hst⟩ := m_last1 (l := N.2 0 q) hne1
      refine n_tableIn (off := 60) (tgt := 79) hC dX10_perform_19 (by decide) (by decide) (by decide) (by decide) ?_
      refine n_aload_n hC dX10_perform_79 rfl rfl ?_
      refine n_aload_n hC dX10_perform_80 rfl rfl ?_
      refine n_aload_n hC dX10_perform_81 rfl rfl ?_
      refine n_callV hC (c_fetch hX (d + 3) q x t N σ1 hq hM1 hst) (Nat.le_refl _) (by decide) (by first | exact rfl | with_reducible assumption) rfl rfl rfl ⟨wmX10_144, wi_yX10_useMemory, wv_yX10_useMemory, wzX10, wc_yX10_useMemory⟩ hy_yX10_useMemory rfl (Nat.le_of_ble_eq_true rfl) dX10_perform_82 (fun rv σ' hpo => ?_)
      rcases hpo with ⟨j, hz, rfl, h1⟩ | ⟨hz, rfl, h1⟩
      · refine n_iret hC dX10_perform_85 ?_
        exact ⟨_, _, Or.inr (Or.inr (Or.inr (Or.inr (Or.inr (Or.inr (Or.inr (Or.inl (⟨rfl, t, x, hst, Or.inl ⟨j, hz, rfl, rfl⟩⟩)))))))), rfl, h1⟩
      · refine n_iret hC dX10_perform_85 ?_
        exact ⟨_, _, Or.inr (Or.inr (Or.inr (Or.inr (Or.inr (Or.inr (Or.inr (Or.inl (⟨rfl, t, x, hst, Or.inr ⟨hz, rfl, rfl⟩⟩)))))))), rfl, h1⟩
    · obtain ⟨t, x, y, hst⟩ := m_last2 (l := N.2 0 q) hne1
      refine n_tableIn (off := 60) (tgt := 79) hC dX10_perform_19 (by decide) (by decide) (by decide) (by decide) ?_
      refine n_aload_n hC dX10_perform_79 rfl rfl ?_
      refine n_aload_n hC dX10_perform_80 rfl rfl ?_
      refine n_aload_n hC dX10_perform_81 rfl rfl ?_
      refine n_callV hC (c_store hX (d + 3) q x y t N σ1 hq hM1 hst) (Nat.le_refl _) (by decide) (by first | exact rfl | with_reducible assumption) rfl rfl rfl ⟨wmX10_144, wi_yX10_useMemory, wv_yX10_useMemory, wzX10, wc_yX10_useMemory⟩ hy_yX10_useMemory rfl (Nat.le_of_ble_eq_true rfl) dX10_perform_82 (fun rv σ' hpo => ?_)
      rcases hpo with ⟨j, hz, rfl, h1⟩ | ⟨hz, rfl, h1⟩
      · refine n_iret hC dX10_perform_85 ?_
        exact ⟨_, _, Or.inr (Or.inr (Or.inr (Or.inr (Or.inr (Or.inr (Or.inr (Or.inr (Or.inl (⟨rfl, t, x, y, hst, Or.inl ⟨j, hz, rfl, rfl⟩⟩))))))))), rfl, h1⟩
      · refine n_iret hC dX10_perform_85 ?_
        exact ⟨_, _, Or.inr (Or.inr (Or.inr (Or.inr (Or.inr (Or.inr (Or.inr (Or.inr (Or.inl (⟨rfl, t, x, y, hst, Or.inr ⟨hz, rfl, rfl⟩⟩))))))))), rfl, h1⟩
    · obtain ⟨t, x, hst⟩ := m_last1 (l := N.2 0 q) hne1
      refine n_tableIn (off := 60) (tgt := 79) hC dX10_perform_19 (by decide) (by decide) (by decide) (by decide) ?_
      refine n_aload_n hC dX10_perform_79 rfl rfl ?_
      refine n_aload_n hC dX10_perform_80 rfl rfl ?_
      refine n_aload_n hC dX10_perform_81 rfl rfl ?_
      refine n_callV hC (c_alloc hX d q x t N σ1 hq hM1 hB1 hst) (Nat.le_refl _) (by decide) (by first | exact rfl | with_reducible assumption) rfl rfl rfl ⟨wmX10_144, wi_yX10_useMemory, wv_yX10_useMemory, wzX10, wc_yX10_useMemory⟩ hy_yX10_useMemory rfl (Nat.le_of_ble_eq_true rfl) dX10_perform_82 (fun rv σ' hpo => ?_)
      obtain ⟨rfl, hpo⟩ := hpo
      rcases hpo with ⟨n, j, hz, hy, hw, h1⟩ | ⟨hz, h1⟩
      · refine n_iret hC dX10_perform_85 ?_
        exact ⟨_, _, Or.inr (Or.inr (Or.inr (Or.inr (Or.inr (Or.inr (Or.inr (Or.inr (Or.inr (Or.inl (⟨rfl, rfl, t, x, hst, Or.inl ⟨n, j, hz, hy, hw, rfl⟩⟩)))))))))), rfl, h1⟩
      · refine n_iret hC dX10_perform_85 ?_
        exact ⟨_, _, Or.inr (Or.inr (Or.inr (Or.inr (Or.inr (Or.inr (Or.inr (Or.inr (Or.inr (Or.inl (⟨rfl, rfl, t, x, hst, Or.inr ⟨hz, rfl⟩⟩)))))))))), rfl, h1⟩
    · obtain ⟨t, x, hst⟩ := m_last1 (l := N.2 0 q) hne1
      refine n_tableIn (off := 60) (tgt := 79) hC dX10_perform_19 (by decide) (by decide) (by decide) (by decide) ?_
      refine n_aload_n hC dX10_perform_79 rfl rfl ?_
      refine n_aload_n hC dX10_perform_80 rfl rfl ?_
      refine n_aload_n hC dX10_perform_81 rfl rfl ?_
      refine n_callV hC (c_mfree hX d q x t N σ1 hq hM1 hB1 hst) (Nat.le_refl _) (by decide) (by first | exact rfl | with_reducible assumption) rfl rfl rfl ⟨wmX10_144, wi_yX10_useMemory, wv_yX10_useMemory, wzX10, wc_yX10_useMemory⟩ hy_yX10_useMemory rfl (Nat.le_of_ble_eq_true rfl) dX10_perform_82 (fun rv σ' hpo => ?_)
      obtain ⟨rfl, hpo⟩ := hpo
      rcases hpo with ⟨hz, h1⟩ | ⟨hz, h1⟩
      · refine n_iret hC dX10_perform_85 ?_
        exact ⟨_, _, Or.inr (Or.inr (Or.inr (Or.inr (Or.inr (Or.inr (Or.inr (Or.inr (Or.inr (Or.inr (Or.inl (⟨rfl, rfl, t, x, hst, Or.inl ⟨hz, rfl⟩⟩))))))))))), rfl, h1⟩
      · refine n_iret hC dX10_perform_85 ?_
        exact ⟨_, _, Or.inr (Or.inr (Or.inr (Or.inr (Or.inr (Or.inr (Or.inr (Or.inr (Or.inr (Or.inr (Or.inl (⟨rfl, rfl, t, x, hst, Or.inr ⟨hz, rfl⟩⟩))))))))))), rfl, h1⟩
    · obtain ⟨t, x, y, hst⟩ := m_last2 (l := N.2 0 q) hne1
      refine n_tableIn (off := 60) (tgt := 79) hC dX10_perform_19 (by decide) (by decide) (by decide) (by decide) ?_
      refine n_aload_n hC dX10_perform_79 rfl rfl ?_
      refine n_aload_n hC dX10_perform_80 rfl rfl ?_
      refine n_aload_n hC dX10_perform_81 rfl rfl ?_
      refine n_callV hC (c_mgive hX d q x y t N σ1 hq hM1 hB1 hst) (Nat.le_refl _) (by decide) (by first | exact rfl | with_reducible assumption) rfl rfl rfl ⟨wmX10_144, wi_yX10_useMemory, wv_yX10_useMemory, wzX10, wc_yX10_useMemory⟩ hy_yX10_useMemory rfl (Nat.le_of_ble_eq_true rfl) dX10_perform_82 (fun rv σ' hpo => ?_)
      obtain ⟨rfl, hpo⟩ := hpo
      rcases hpo with ⟨r, j, hz, hy, hw, ha, h1⟩ | ⟨hz, h1⟩
      · refine n_iret hC dX10_perform_85 ?_
        exact ⟨_, _, Or.inr (Or.inr (Or.inr (Or.inr (Or.inr (Or.inr (Or.inr (Or.inr (Or.inr (Or.inr (Or.inr (Or.inl (⟨rfl, rfl, t, x, y, hst, Or.inl ⟨r, j, hz, hy, hw, ha, rfl⟩⟩)))))))))))), rfl, h1⟩
      · refine n_iret hC dX10_perform_85 ?_
        exact ⟨_, _, Or.inr (Or.inr (Or.inr (Or.inr (Or.inr (Or.inr (Or.inr (Or.inr (Or.inr (Or.inr (Or.inr (Or.inl (⟨rfl, rfl, t, x, y, hst, Or.inr ⟨hz, rfl⟩⟩)))))))))))), rfl, h1⟩
  rw [if_neg kk29]
  by_cases kk33 : k ≤ 33
  · rw [if_pos kk33]
    have hc : k = 30 ∨ k = 31 ∨ k = 32 ∨ k = 33 := by omega
    rcases hc with rfl | rfl | rfl | rfl
    · obtain ⟨t, x, y, hst⟩ := m_last2 (l := N.2 0 q) hne1
      refine n_tableIn (off := 67) (tgt := 86) hC dX10_perform_19 (by decide) (by decide) (by decide) (by decide) ?_
      refine n_aload_n hC dX10_perform_86 rfl rfl ?_
      refine n_aload_n hC dX10_perform_87 rfl rfl ?_
      refine n_aload_n hC dX10_perform_88 rfl rfl ?_
      refine n_callV hC (c_tsend hX d q x y t N σ1 hq hM1 hI1 hst) (Nat.le_refl _) (by decide) (by first | exact rfl | with_reducible assumption) rfl rfl rfl ⟨wmX10_147, wi_yX10_talk, wv_yX10_talk, wzX10, wc_yX10_talk⟩ hy_yX10_talk rfl (Nat.le_of_ble_eq_true rfl) dX10_perform_89 (fun rv σ' hpo => ?_)
      obtain ⟨rfl, hpo⟩ := hpo
      rcases hpo with ⟨hz, h1⟩ | ⟨r, hz, hy, hw, ⟨ha, h1⟩ | ⟨ha, h1⟩⟩
      · refine n_iret hC dX10_perform_92 ?_
        exact ⟨_, _, Or.inr (Or.inr (Or.inr (Or.inr (Or.inr (Or.inr (Or.inr (Or.inr (Or.inr (Or.inr (Or.inr (Or.inr (Or.inl (⟨rfl, rfl, t, x, y, hst, Or.inl ⟨hz, rfl⟩⟩))))))))))))), rfl, h1⟩
      · refine n_iret hC dX10_perform_92 ?_
        exact ⟨_, _, Or.inr (Or.inr (Or.inr (Or.inr (Or.inr (Or.inr (Or.inr (Or.inr (Or.inr (Or.inr (Or.inr (Or.inr (Or.inl (⟨rfl, rfl, t, x, y, hst, Or.inr ⟨r, hz, hy, hw, Or.inl ⟨ha, rfl⟩⟩⟩))))))))))))), rfl, h1⟩
      · refine n_iret hC dX10_perform_92 ?_
        exact ⟨_, _, Or.inr (Or.inr (Or.inr (Or.inr (Or.inr (Or.inr (Or.inr (Or.inr (Or.inr (Or.inr (Or.inr (Or.inr (Or.inl (⟨rfl, rfl, t, x, y, hst, Or.inr ⟨r, hz, hy, hw, Or.inr ⟨ha, rfl⟩⟩⟩))))))))))))), rfl, h1⟩
    · have hbl := hM1.box hj
      obtain ⟨x, bs, hx⟩ : ∃ x bs, N.2 2 (2 * q) = x :: bs := by
        cases hb : N.2 2 (2 * q) with
        | nil => exact absurd hb (hnw1.1 rfl)
        | cons x bs => exact ⟨x, bs, rfl⟩
      obtain ⟨y, ws, hy⟩ : ∃ y ws, N.2 3 (2 * q) = y :: ws := by
        cases hb : N.2 3 (2 * q) with
        | nil => rw [hb, hx] at hbl; simp at hbl
        | cons x bs => exact ⟨x, bs, rfl⟩
      refine n_tableIn (off := 67) (tgt := 86) hC dX10_perform_19 (by decide) (by decide) (by decide) (by decide) ?_
      refine n_aload_n hC dX10_perform_86 rfl rfl ?_
      refine n_aload_n hC dX10_perform_87 rfl rfl ?_
      refine n_aload_n hC dX10_perform_88 rfl rfl ?_
      refine n_callV hC (c_trecv hX (d + 2) q x y bs ws N σ1 hq hM1 hx hy hgr1) (Nat.le_refl _) (by decide) (by first | exact rfl | with_reducible assumption) rfl rfl rfl ⟨wmX10_147, wi_yX10_talk, wv_yX10_talk, wzX10, wc_yX10_talk⟩ hy_yX10_talk rfl (Nat.le_of_ble_eq_true rfl) dX10_perform_89 (fun rv σ' hpo => ?_)
      obtain ⟨rfl, h1⟩ := hpo
      refine n_iret hC dX10_perform_92 ?_
      exact ⟨_, _, Or.inr (Or.inr (Or.inr (Or.inr (Or.inr (Or.inr (Or.inr (Or.inr (Or.inr (Or.inr (Or.inr (Or.inr (Or.inr (Or.inl (⟨rfl, rfl, x, y, bs, ws, hx, hy, rfl⟩)))))))))))))), rfl, h1⟩
    · obtain ⟨t, x, hst⟩ := m_last1 (l := N.2 0 q) hne1
      refine n_tableIn (off := 67) (tgt := 86) hC dX10_perform_19 (by decide) (by decide) (by decide) (by decide) ?_
      refine n_aload_n hC dX10_perform_86 rfl rfl ?_
      refine n_aload_n hC dX10_perform_87 rfl rfl ?_
      refine n_aload_n hC dX10_perform_88 rfl rfl ?_
      refine n_callV hC (c_temit hX (d + 3) q x t N σ1 hq hM1 hst) (Nat.le_refl _) (by decide) (by first | exact rfl | with_reducible assumption) rfl rfl rfl ⟨wmX10_147, wi_yX10_talk, wv_yX10_talk, wzX10, wc_yX10_talk⟩ hy_yX10_talk rfl (Nat.le_of_ble_eq_true rfl) dX10_perform_89 (fun rv σ' hpo => ?_)
      obtain ⟨rfl, h1⟩ := hpo
      refine n_iret hC dX10_perform_92 ?_
      exact ⟨_, _, Or.inr (Or.inr (Or.inr (Or.inr (Or.inr (Or.inr (Or.inr (Or.inr (Or.inr (Or.inr (Or.inr (Or.inr (Or.inr (Or.inr (Or.inl (⟨rfl, rfl, t, x, hst, rfl⟩))))))))))))))), rfl, h1⟩
    · obtain ⟨x, bs, hx⟩ : ∃ x bs, N.2 2 (2 * q + 1) = x :: bs := by
        cases hb : N.2 2 (2 * q + 1) with
        | nil => exact absurd hb (hnw1.2.1 rfl)
        | cons x bs => exact ⟨x, bs, rfl⟩
      refine n_tableIn (off := 67) (tgt := 86) hC dX10_perform_19 (by decide) (by decide) (by decide) (by decide) ?_
      refine n_aload_n hC dX10_perform_86 rfl rfl ?_
      refine n_aload_n hC dX10_perform_87 rfl rfl ?_
      refine n_aload_n hC dX10_perform_88 rfl rfl ?_
      refine n_callV hC (c_tkey hX (d + 2) q x bs N σ1 hq hM1 hx hgr1) (Nat.le_refl _) (by decide) (by first | exact rfl | with_reducible assumption) rfl rfl rfl ⟨wmX10_147, wi_yX10_talk, wv_yX10_talk, wzX10, wc_yX10_talk⟩ hy_yX10_talk rfl (Nat.le_of_ble_eq_true rfl) dX10_perform_89 (fun rv σ' hpo => ?_)
      obtain ⟨rfl, h1⟩ := hpo
      refine n_iret hC dX10_perform_92 ?_
      exact ⟨_, _, Or.inr (Or.inr (Or.inr (Or.inr (Or.inr (Or.inr (Or.inr (Or.inr (Or.inr (Or.inr (Or.inr (Or.inr (Or.inr (Or.inr (Or.inr (Or.inl (⟨rfl, rfl, x, bs, hx, rfl⟩)))))))))))))))), rfl, h1⟩
  rw [if_neg kk33]
  by_cases kk37 : k ≤ 37
  · rw [if_pos kk37]
    have hc : k = 34 ∨ k = 35 ∨ k = 36 ∨ k = 37 := by omega
    rcases hc with rfl | rfl | rfl | rfl
    · refine n_tableIn (off := 74) (tgt := 93) hC dX10_perform_19 (by decide) (by decide) (by decide) (by decide) ?_
      refine n_aload_n hC dX10_perform_93 rfl rfl ?_
      refine n_aload_n hC dX10_perform_94 rfl rfl ?_
      refine n_aload_n hC dX10_perform_95 rfl rfl ?_
      refine n_iload_n hC dX10_perform_96 rfl rfl ?_
      refine n_callV hC (c_kspawn hX d q i nn N σ1 hq hM1 hI1 hi hp1 hgr1) (Nat.le_refl _) (by decide) (by first | exact rfl | with_reducible assumption) rfl rfl rfl ⟨wmX10_150, wi_yX10_useChildren, wv_yX10_useChildren, wzX10, wc_yX10_useChildren⟩ hy_yX10_useChildren rfl (Nat.le_of_ble_eq_true rfl) dX10_perform_97 (fun rv σ' hpo => ?_)
      obtain ⟨rfl, hpo⟩ := hpo
      rcases hpo with ⟨r, hz, h1⟩ | ⟨hz, h1⟩
      · refine n_iret hC dX10_perform_100 ?_
        exact ⟨_, _, Or.inr (Or.inr (Or.inr (Or.inr (Or.inr (Or.inr (Or.inr (Or.inr (Or.inr (Or.inr (Or.inr (Or.inr (Or.inr (Or.inr (Or.inr (Or.inr (Or.inl (⟨rfl, rfl, Or.inl ⟨r, i, hi, hp1, hz, rfl⟩⟩))))))))))))))))), rfl, h1⟩
      · refine n_iret hC dX10_perform_100 ?_
        exact ⟨_, _, Or.inr (Or.inr (Or.inr (Or.inr (Or.inr (Or.inr (Or.inr (Or.inr (Or.inr (Or.inr (Or.inr (Or.inr (Or.inr (Or.inr (Or.inr (Or.inr (Or.inl (⟨rfl, rfl, Or.inr ⟨hz, rfl⟩⟩))))))))))))))))), rfl, h1⟩
    · obtain ⟨t, x, hst⟩ := m_last1 (l := N.2 0 q) hne1
      have hle : t.length + 2 ≤ 40 := by rw [hst] at hgr1; simp [m_gr, m_grL] at hgr1; omega
      refine n_tableIn (off := 74) (tgt := 93) hC dX10_perform_19 (by decide) (by decide) (by decide) (by decide) ?_
      refine n_aload_n hC dX10_perform_93 rfl rfl ?_
      refine n_aload_n hC dX10_perform_94 rfl rfl ?_
      refine n_aload_n hC dX10_perform_95 rfl rfl ?_
      refine n_iload_n hC dX10_perform_96 rfl rfl ?_
      refine n_callV hC (c_kwait hX (d + 1) q nn x t N σ1 hq hM1 hP1 hst hle) (Nat.le_refl _) (by decide) (by first | exact rfl | with_reducible assumption) rfl rfl rfl ⟨wmX10_150, wi_yX10_useChildren, wv_yX10_useChildren, wzX10, wc_yX10_useChildren⟩ hy_yX10_useChildren rfl (Nat.le_of_ble_eq_true rfl) dX10_perform_97 (fun rv σ' hpo => ?_)
      obtain ⟨rfl, hpo⟩ := hpo
      rcases hpo with ⟨r, hz, h1⟩ | ⟨hz, h1⟩
      · refine n_iret hC dX10_perform_100 ?_
        exact ⟨_, _, Or.inr (Or.inr (Or.inr (Or.inr (Or.inr (Or.inr (Or.inr (Or.inr (Or.inr (Or.inr (Or.inr (Or.inr (Or.inr (Or.inr (Or.inr (Or.inr (Or.inr (Or.inl (⟨rfl, rfl, t, x, hst, Or.inl ⟨r, hz, rfl⟩⟩)))))))))))))))))), rfl, h1⟩
      · refine n_iret hC dX10_perform_100 ?_
        exact ⟨_, _, Or.inr (Or.inr (Or.inr (Or.inr (Or.inr (Or.inr (Or.inr (Or.inr (Or.inr (Or.inr (Or.inr (Or.inr (Or.inr (Or.inr (Or.inr (Or.inr (Or.inr (Or.inl (⟨rfl, rfl, t, x, hst, Or.inr ⟨hz, rfl⟩⟩)))))))))))))))))), rfl, h1⟩
    · obtain ⟨t, x, hst⟩ := m_last1 (l := N.2 0 q) hne1
      have hle : t.length < 40 := by rw [hst] at hgr1; simp [m_gr, m_grL] at hgr1; omega
      refine n_tableIn (off := 74) (tgt := 93) hC dX10_perform_19 (by decide) (by decide) (by decide) (by decide) ?_
      refine n_aload_n hC dX10_perform_93 rfl rfl ?_
      refine n_aload_n hC dX10_perform_94 rfl rfl ?_
      refine n_aload_n hC dX10_perform_95 rfl rfl ?_
      refine n_iload_n hC dX10_perform_96 rfl rfl ?_
      refine n_callV hC (c_kkill hX d q nn x t N σ1 hq hM1 hB1 hI1 hP1 hpar1 hacy1 hst hle) (Nat.le_refl _) (by decide) (by first | exact rfl | with_reducible assumption) rfl rfl rfl ⟨wmX10_150, wi_yX10_useChildren, wv_yX10_useChildren, wzX10, wc_yX10_useChildren⟩ hy_yX10_useChildren rfl (Nat.le_of_ble_eq_true rfl) dX10_perform_97 (fun rv σ' hpo => ?_)
      obtain ⟨rfl, hpo⟩ := hpo
      rcases hpo with ⟨r, hz, hy, h1⟩ | ⟨hz, h1⟩
      · refine n_iret hC dX10_perform_100 ?_
        exact ⟨_, _, Or.inr (Or.inr (Or.inr (Or.inr (Or.inr (Or.inr (Or.inr (Or.inr (Or.inr (Or.inr (Or.inr (Or.inr (Or.inr (Or.inr (Or.inr (Or.inr (Or.inr (Or.inr (Or.inl (⟨rfl, rfl, t, x, hst, Or.inl ⟨r, hz, hy, rfl⟩⟩))))))))))))))))))), rfl, h1⟩
      · refine n_iret hC dX10_perform_100 ?_
        exact ⟨_, _, Or.inr (Or.inr (Or.inr (Or.inr (Or.inr (Or.inr (Or.inr (Or.inr (Or.inr (Or.inr (Or.inr (Or.inr (Or.inr (Or.inr (Or.inr (Or.inr (Or.inr (Or.inr (Or.inl (⟨rfl, rfl, t, x, hst, Or.inr ⟨hz, rfl⟩⟩))))))))))))))))))), rfl, h1⟩
    · refine n_tableIn (off := 74) (tgt := 93) hC dX10_perform_19 (by decide) (by decide) (by decide) (by decide) ?_
      refine n_aload_n hC dX10_perform_93 rfl rfl ?_
      refine n_aload_n hC dX10_perform_94 rfl rfl ?_
      refine n_aload_n hC dX10_perform_95 rfl rfl ?_
      refine n_iload_n hC dX10_perform_96 rfl rfl ?_
      refine n_callV hC (c_kself hX (d + 3) q nn N σ1 hq hM1 hgr1) (Nat.le_refl _) (by decide) (by first | exact rfl | with_reducible assumption) rfl rfl rfl ⟨wmX10_150, wi_yX10_useChildren, wv_yX10_useChildren, wzX10, wc_yX10_useChildren⟩ hy_yX10_useChildren rfl (Nat.le_of_ble_eq_true rfl) dX10_perform_97 (fun rv σ' hpo => ?_)
      obtain ⟨rfl, h1⟩ := hpo
      refine n_iret hC dX10_perform_100 ?_
      exact ⟨_, _, Or.inr (Or.inr (Or.inr (Or.inr (Or.inr (Or.inr (Or.inr (Or.inr (Or.inr (Or.inr (Or.inr (Or.inr (Or.inr (Or.inr (Or.inr (Or.inr (Or.inr (Or.inr (Or.inr (Or.inl (⟨rfl, rfl, rfl⟩)))))))))))))))))))), rfl, h1⟩
  rw [if_neg kk37]
  have hc : k = 38 ∨ k = 39 ∨ k = 40 ∨ k = 41 ∨ k = 42 := by omega
  rcases hc with rfl | rfl | rfl | rfl | rfl
  · obtain ⟨t, x, hst⟩ := m_last1 (l := N.2 0 q) hne1
    refine n_tableOut (tgt := 101) hC dX10_perform_19 (by decide) (by decide) ?_
    refine n_aload_n hC dX10_perform_101 rfl rfl ?_
    refine n_aload_n hC dX10_perform_102 rfl rfl ?_
    refine n_aload_n hC dX10_perform_103 rfl rfl ?_
    refine n_callV hC (c_tlevel hX (d + 1) q x t N σ1 hq hM1 hI1 hst) (Nat.le_refl _) (by decide) (by first | exact rfl | with_reducible assumption) rfl rfl rfl ⟨wmX10_153, wi_yX10_takeTurn, wv_yX10_takeTurn, wzX10, wc_yX10_takeTurn⟩ hy_yX10_takeTurn rfl (Nat.le_of_ble_eq_true rfl) dX10_perform_104 (fun rv σ' hpo => ?_)
    rcases hpo with ⟨hz, rfl, h1⟩ | ⟨hz, rfl, h1⟩
    · refine n_iret hC dX10_perform_107 ?_
      exact ⟨_, _, Or.inr (Or.inr (Or.inr (Or.inr (Or.inr (Or.inr (Or.inr (Or.inr (Or.inr (Or.inr (Or.inr (Or.inr (Or.inr (Or.inr (Or.inr (Or.inr (Or.inr (Or.inr (Or.inr (Or.inr (Or.inl (⟨rfl, t, x, hst, Or.inl ⟨hz, rfl, rfl⟩⟩))))))))))))))))))))), rfl, h1⟩
    · refine n_iret hC dX10_perform_107 ?_
      exact ⟨_, _, Or.inr (Or.inr (Or.inr (Or.inr (Or.inr (Or.inr (Or.inr (Or.inr (Or.inr (Or.inr (Or.inr (Or.inr (Or.inr (Or.inr (Or.inr (Or.inr (Or.inr (Or.inr (Or.inr (Or.inr (Or.inl (⟨rfl, t, x, hst, Or.inr ⟨hz, rfl, rfl⟩⟩))))))))))))))))))))), rfl, h1⟩
  · refine n_tableOut (tgt := 101) hC dX10_perform_19 (by decide) (by decide) ?_
    refine n_aload_n hC dX10_perform_101 rfl rfl ?_
    refine n_aload_n hC dX10_perform_102 rfl rfl ?_
    refine n_aload_n hC dX10_perform_103 rfl rfl ?_
    refine n_callV hC (c_tyield hX (d + 1) q N σ1 hq hM1 hI1) (Nat.le_refl _) (by decide) (by first | exact rfl | with_reducible assumption) rfl rfl rfl ⟨wmX10_153, wi_yX10_takeTurn, wv_yX10_takeTurn, wzX10, wc_yX10_takeTurn⟩ hy_yX10_takeTurn rfl (Nat.le_of_ble_eq_true rfl) dX10_perform_104 (fun rv σ' hpo => ?_)
    obtain ⟨rfl, h1⟩ := hpo
    refine n_iret hC dX10_perform_107 ?_
    exact ⟨_, _, Or.inr (Or.inr (Or.inr (Or.inr (Or.inr (Or.inr (Or.inr (Or.inr (Or.inr (Or.inr (Or.inr (Or.inr (Or.inr (Or.inr (Or.inr (Or.inr (Or.inr (Or.inr (Or.inr (Or.inr (Or.inr (Or.inl (⟨rfl, rfl, rfl⟩)))))))))))))))))))))), rfl, h1⟩
  · obtain ⟨t, x, hst⟩ := m_last1 (l := N.2 0 q) hne1
    refine n_tableOut (tgt := 101) hC dX10_perform_19 (by decide) (by decide) ?_
    refine n_aload_n hC dX10_perform_101 rfl rfl ?_
    refine n_aload_n hC dX10_perform_102 rfl rfl ?_
    refine n_aload_n hC dX10_perform_103 rfl rfl ?_
    refine n_callV hC (c_tsleep hX (d + 1) q x t N σ1 hq hM1 hI1 hst) (Nat.le_refl _) (by decide) (by first | exact rfl | with_reducible assumption) rfl rfl rfl ⟨wmX10_153, wi_yX10_takeTurn, wv_yX10_takeTurn, wzX10, wc_yX10_takeTurn⟩ hy_yX10_takeTurn rfl (Nat.le_of_ble_eq_true rfl) dX10_perform_104 (fun rv σ' hpo => ?_)
    obtain ⟨rfl, h1⟩ := hpo
    refine n_iret hC dX10_perform_107 ?_
    exact ⟨_, _, Or.inr (Or.inr (Or.inr (Or.inr (Or.inr (Or.inr (Or.inr (Or.inr (Or.inr (Or.inr (Or.inr (Or.inr (Or.inr (Or.inr (Or.inr (Or.inr (Or.inr (Or.inr (Or.inr (Or.inr (Or.inr (Or.inr (Or.inl (⟨rfl, rfl, t, x, hst, rfl⟩))))))))))))))))))))))), rfl, h1⟩
  · obtain ⟨t, x, hst⟩ := m_last1 (l := N.2 0 q) hne1
    refine n_tableOut (tgt := 101) hC dX10_perform_19 (by decide) (by decide) ?_
    refine n_aload_n hC dX10_perform_101 rfl rfl ?_
    refine n_aload_n hC dX10_perform_102 rfl rfl ?_
    refine n_aload_n hC dX10_perform_103 rfl rfl ?_
    refine n_callV hC (c_tdown hX (d + 1) q x t N σ1 hq hM1 hI1 hs1 hst) (Nat.le_refl _) (by decide) (by first | exact rfl | with_reducible assumption) rfl rfl rfl ⟨wmX10_153, wi_yX10_takeTurn, wv_yX10_takeTurn, wzX10, wc_yX10_takeTurn⟩ hy_yX10_takeTurn rfl (Nat.le_of_ble_eq_true rfl) dX10_perform_104 (fun rv σ' hpo => ?_)
    rcases hpo with ⟨k, hk, hx, ⟨hz, rfl, h1⟩ | ⟨hz, rfl, h1⟩⟩ | ⟨hz, rfl, h1⟩
    · refine n_iret hC dX10_perform_107 ?_
      exact ⟨_, _, Or.inr (Or.inr (Or.inr (Or.inr (Or.inr (Or.inr (Or.inr (Or.inr (Or.inr (Or.inr (Or.inr (Or.inr (Or.inr (Or.inr (Or.inr (Or.inr (Or.inr (Or.inr (Or.inr (Or.inr (Or.inr (Or.inr (Or.inr (Or.inl (⟨rfl, t, x, hst, Or.inl ⟨k, hk, hx, Or.inl ⟨hz, rfl, rfl⟩⟩⟩)))))))))))))))))))))))), rfl, h1⟩
    · refine n_iret hC dX10_perform_107 ?_
      exact ⟨_, _, Or.inr (Or.inr (Or.inr (Or.inr (Or.inr (Or.inr (Or.inr (Or.inr (Or.inr (Or.inr (Or.inr (Or.inr (Or.inr (Or.inr (Or.inr (Or.inr (Or.inr (Or.inr (Or.inr (Or.inr (Or.inr (Or.inr (Or.inr (Or.inl (⟨rfl, t, x, hst, Or.inl ⟨k, hk, hx, Or.inr ⟨hz, rfl, rfl⟩⟩⟩)))))))))))))))))))))))), rfl, h1⟩
    · refine n_iret hC dX10_perform_107 ?_
      exact ⟨_, _, Or.inr (Or.inr (Or.inr (Or.inr (Or.inr (Or.inr (Or.inr (Or.inr (Or.inr (Or.inr (Or.inr (Or.inr (Or.inr (Or.inr (Or.inr (Or.inr (Or.inr (Or.inr (Or.inr (Or.inr (Or.inr (Or.inr (Or.inr (Or.inl (⟨rfl, t, x, hst, Or.inr ⟨hz, rfl, rfl⟩⟩)))))))))))))))))))))))), rfl, h1⟩
  · obtain ⟨t, x, hst⟩ := m_last1 (l := N.2 0 q) hne1
    refine n_tableOut (tgt := 101) hC dX10_perform_19 (by decide) (by decide) ?_
    refine n_aload_n hC dX10_perform_101 rfl rfl ?_
    refine n_aload_n hC dX10_perform_102 rfl rfl ?_
    refine n_aload_n hC dX10_perform_103 rfl rfl ?_
    refine n_callV hC (c_tup hX (d + 1) q x t N σ1 hq hM1 hI1 hst) (Nat.le_refl _) (by decide) (by first | exact rfl | with_reducible assumption) rfl rfl rfl ⟨wmX10_153, wi_yX10_takeTurn, wv_yX10_takeTurn, wzX10, wc_yX10_takeTurn⟩ hy_yX10_takeTurn rfl (Nat.le_of_ble_eq_true rfl) dX10_perform_104 (fun rv σ' hpo => ?_)
    rcases hpo with ⟨k, hk, hx, rfl, ⟨r, u, hr, hz, h1⟩ | ⟨hz, h1⟩⟩ | ⟨hz, rfl, h1⟩
    · refine n_iret hC dX10_perform_107 ?_
      exact ⟨_, _, Or.inr (Or.inr (Or.inr (Or.inr (Or.inr (Or.inr (Or.inr (Or.inr (Or.inr (Or.inr (Or.inr (Or.inr (Or.inr (Or.inr (Or.inr (Or.inr (Or.inr (Or.inr (Or.inr (Or.inr (Or.inr (Or.inr (Or.inr (Or.inr (⟨rfl, t, x, hst, Or.inl ⟨k, hk, hx, rfl, Or.inl ⟨r, u, hr, hz, rfl⟩⟩⟩)))))))))))))))))))))))), rfl, h1⟩
    · refine n_iret hC dX10_perform_107 ?_
      exact ⟨_, _, Or.inr (Or.inr (Or.inr (Or.inr (Or.inr (Or.inr (Or.inr (Or.inr (Or.inr (Or.inr (Or.inr (Or.inr (Or.inr (Or.inr (Or.inr (Or.inr (Or.inr (Or.inr (Or.inr (Or.inr (Or.inr (Or.inr (Or.inr (Or.inr (⟨rfl, t, x, hst, Or.inl ⟨k, hk, hx, rfl, Or.inr ⟨hz, rfl⟩⟩⟩)))))))))))))))))))))))), rfl, h1⟩
    · refine n_iret hC dX10_perform_107 ?_
      exact ⟨_, _, Or.inr (Or.inr (Or.inr (Or.inr (Or.inr (Or.inr (Or.inr (Or.inr (Or.inr (Or.inr (Or.inr (Or.inr (Or.inr (Or.inr (Or.inr (Or.inr (Or.inr (Or.inr (Or.inr (Or.inr (Or.inr (Or.inr (Or.inr (Or.inr (⟨rfl, t, x, hst, Or.inr ⟨hz, rfl, rfl⟩⟩)))))))))))))))))))))))), rfl, h1⟩
/-END-/
end WK8
