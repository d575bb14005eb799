/-! the law from its entry -/
theorem a_defX11 : ∀ j, j < 4 → defaultValue (tyX11 j) = vp_V [.null, .null, .null, .null] j := by
  intro j hj
  match j, hj with
  | 0, _ => rfl
  | 1, _ => rfl
  | 2, _ => rfl
  | 3, _ => rfl
  | q + 4, h => exact absurd h (by omega)
theorem a_defX12 : ∀ j, j < 53 → defaultValue (tyX12 j) = vp_V [.null, .null, .int 0, .null, .int 0, .int 0, .int 0, .null, .null, .null, .null, .null, .null, .null, .int 0, .null, .null, .int 0, .int 0, .null, .null, .null, .null, .null, .null, .null, .null, .null, .null, .null, .null, .null, .null, .null, .null, .null, .null, .null, .null, .int 0, .int 0, .null, .null, .null, .null, .null, .null, .null, .int 0, .null, .int 0, .int 0, .int 0] j := by
  intro j hj
  match j, hj with
  | 0, _ => rfl
  | 1, _ => rfl
  | 2, _ => rfl
  | 3, _ => rfl
  | 4, _ => rfl
  | 5, _ => rfl
  | 6, _ => rfl
  | 7, _ => rfl
  | 8, _ => rfl
  | 9, _ => rfl
  | 10, _ => rfl
  | 11, _ => rfl
  | 12, _ => rfl
  | 13, _ => rfl
  | 14, _ => rfl
  | 15, _ => rfl
  | 16, _ => rfl
  | 17, _ => rfl
  | 18, _ => rfl
  | 19, _ => rfl
  | 20, _ => rfl
  | 21, _ => rfl
  | 22, _ => rfl
  | 23, _ => rfl
  | 24, _ => rfl
  | 25, _ => rfl
  | 26, _ => rfl
  | 27, _ => rfl
  | 28, _ => rfl
  | 29, _ => rfl
  | 30, _ => rfl
  | 31, _ => rfl
  | 32, _ => rfl
  | 33, _ => rfl
  | 34, _ => rfl
  | 35, _ => rfl
  | 36, _ => rfl
  | 37, _ => rfl
  | 38, _ => rfl
  | 39, _ => rfl
  | 40, _ => rfl
  | 41, _ => rfl
  | 42, _ => rfl
  | 43, _ => rfl
  | 44, _ => rfl
  | 45, _ => rfl
  | 46, _ => rfl
  | 47, _ => rfl
  | 48, _ => rfl
  | 49, _ => rfl
  | 50, _ => rfl
  | 51, _ => rfl
  | 52, _ => rfl
  | q + 53, h => exact absurd h (by omega)
theorem l_to {p : Program} {l : Launch} {e : Env} {s : State} {m : MethodId} {b : Nat} {below : List Frame} {meth : Method} {c : Code} {D : va_G} {ca : Nat → ClassId} {ae : Nat → Nat} {Ex : State → Heap → Prop} {z0 pc n k : Nat} {ls : List (Option Value)} {st : List Value} {σ01 σ1 σ2 : a_S} {bl : va_E}
    (h1 : a_I (aA_C ca (z0 + 1)) z0 (z0 + 1) 186 σ01 σ1 (aO_C (z0 + 1))) (h2 : a_I (aB_M ca) (z0 + 187) (z0 + 188) 40 (a_up σ1 (z0 + 187) bl) σ2 (aO_M (z0 + 188)))
    (kk : l_W p l e s m b below meth c D ca ae Ex z0 pc ls st (c_s0, r_s0, 0, n, k)) : ag_W p l e s m #[Value.ref b] below meth c room_1 (lw_Z below #[Value.ref b] s) D z0 pc ls st (a_up σ2 (z0 + 228) (.inl (ca 2, 1, .inr (.inl fun _ => 0))), z0 + 229, n, k) := by
  intro H locs la z1 z2
  have hpre : ∀ q, q < z0 + 187 → a_up σ2 (z0 + 228) (.inl (ca 2, 1, .inr (.inl fun _ => 0))) q = σ1 q := fun q hq => by
    rw [a_up_ne (by omega), h2.2.2 q (by omega) (by omega), a_up_ne (by omega)]
  have hc : a_I (aA_C ca (z0 + 1)) z0 (z0 + 1) 186 (a_up σ2 (z0 + 228) (.inl (ca 2, 1, .inr (.inl fun _ => 0)))) (a_up σ2 (z0 + 228) (.inl (ca 2, 1, .inr (.inl fun _ => 0)))) (aO_C (z0 + 1)) :=
    ⟨(hpre _ (by omega)).trans h1.1, fun j hj => (hpre _ (by omega)).trans (h1.2.1 j hj), fun _ _ _ => rfl⟩
  have hr : a_I (aB_M ca) (z0 + 187) (z0 + 187 + 1) 40 (a_up σ2 (z0 + 228) (.inl (ca 2, 1, .inr (.inl fun _ => 0)))) (a_up σ2 (z0 + 228) (.inl (ca 2, 1, .inr (.inl fun _ => 0)))) (aO_M (z0 + 187 + 1)) :=
    ⟨(a_up_ne (by omega)).trans h2.1, fun j hj => (a_up_ne (by omega)).trans (h2.2.1 j hj), fun _ _ _ => rfl⟩
  exact kk H locs la z1 ⟨c_rep0 D ca ae Ex hc z2.1, r_rep0 D ca (fun _ _ => True) hr z2.1, z2.1.2 _ _ (a_up_at _ _ _), z2.2⟩
set_option maxRecDepth 100000 in
theorem whole_start {p : Program} {e : Env} {s : State} {m : MethodId} {below : List Frame} {meth : Method} {c : Code} (l : Launch) (hl : l.stackTraces = false) {b L : Nat} {xs : Nat → Int32} (hL : L ≤ 3072) (C0 : lw_At p s m meth c b L xs) : W p l e room_1 s m #[Value.ref b] below meth c s.heap [] 0 0 (lw_Z below #[Value.ref b] s) (entryFrame m ([Value.ref b] : List Value).toArray 7) := by
  obtain ⟨hx, hb, hr, hml, hown, hts, hX, hbl, hlocks, hgv⟩ := C0
  have hq : ∀ w ∈ e_fl, w.before #[Value.ref b] s = true := flat_of_before _ hgv
  have ht : ∀ w ∈ tables_1, w.before #[Value.ref b] s = true := fun w hw => hts w (List.mem_append_right _ hw)
  have hn : ∀ w ∈ n_tb, w.before #[Value.ref b] s = true := fun w hw => hts w (List.mem_filter.mp hw).1
  have hN := e_aN ht
  obtain ⟨D, ca, hK⟩ := e_K hn hN
  obtain ⟨ae, sk, sv, ts, ta, sf, hE⟩ := e_start hq ht
  have hC : n_C p s m #[Value.ref b] meth c (aw D ca) code 7 "ShareMonitorLaw" ret := ⟨hx, hb, hml, hown, hn, hr, hlocks, hK, trivial, aw_ok D ca⟩
  obtain ⟨z0, hz0⟩ : ∃ z0, z0 = s.heap.size := ⟨_, rfl⟩
  rw [← hz0] at hE
  have hAz : ∀ q, n_A (cw D ca (c_ad z0) ae (eX z0 ae sk sv ts ta sf)) q → z0 ≤ q := fun q h => (c_A_lo h).1
  have hK9 : h_K (cw D ca (c_ad z0) ae (eX z0 ae sk sv ts ta sf)) z0 (z0 + 228) := by
    refine ⟨⟨fun κ i κ' i' h h' e => c_ad_inj z0 h h' e, n_clk, fun u U H H1 hW hk hE => ?_⟩, hAz, by omega, fun h => ?_, fun u U H H1 hW hk hE => eX_ok hW hk hE⟩
    · exact eX_ok hW (fun q hq => hk q (Nat.lt_of_lt_of_le hq hE.1) (fun h => absurd (hAz q h) (by omega))) hE
    · have := (c_A_lo h).2
      omega
  have hLC : l_C p s m b meth c D ca ae (eX z0 ae sk sv ts ta sf) z0 L xs := ⟨hC, hz0, hK9, hE, e_hX hq ht, hX, hbl, hL⟩
  have key : ag_W p l e s m #[Value.ref b] below meth c room_1 (lw_Z below #[Value.ref b] s) D z0 0 (n_l0 7 [.ref b]) [] (fun _ => none, z0, 0, 0) := by
    refine al_new (ci := 9) (fs := [.null, .null, .null, .null]) hC rfl wk_L_8 wn_X11 wzX11 tyX11 ttX11 a_defX11 (Nat.le_of_ble_eq_true rfl) (Nat.le_of_ble_eq_true rfl) dW_0 ?_
    refine jg_dup hC dW_3 rfl ?_
    refine al_call (np := 0) (As := []) hC hN (a_X11_init l D ca (a_up_at _ _ _) ⟨by omega, by omega⟩) ⟨Nat.le_of_ble_eq_true rfl, Nat.le_of_ble_eq_true rfl⟩ (by decide) ⟨wmL_78, wi_yX11_init, wzX11, wc_yX11_init⟩ rfl (by decide +kernel) rfl (Nat.le_of_ble_eq_true rfl) (Nat.le_of_ble_eq_true rfl) (Nat.le_of_ble_eq_true rfl) dW_4 (fun σ1 h1 => ?_)
    refine jg_astore_n hC dW_7 rfl (Nat.le_of_ble_eq_true rfl) ?_
    refine al_new (ci := 10) (fs := [.null, .null, .int 0, .null, .int 0, .int 0, .int 0, .null, .null, .null, .null, .null, .null, .null, .int 0, .null, .null, .int 0, .int 0, .null, .null, .null, .null, .null, .null, .null, .null, .null, .null, .null, .null, .null, .null, .null, .null, .null, .null, .null, .null, .int 0, .int 0, .null, .null, .null, .null, .null, .null, .null, .int 0, .null, .int 0, .int 0, .int 0]) hC rfl wk_L_79 wn_X12 wzX12 tyX12 ttX12 a_defX12 (Nat.le_of_ble_eq_true rfl) (Nat.le_of_ble_eq_true rfl) dW_8 ?_
    refine jg_dup hC dW_11 rfl ?_
    refine al_call (np := 0) (As := []) hC hN (a_X12_init l D ca (a_up_at _ _ _) ⟨by omega, by omega⟩) ⟨Nat.le_of_ble_eq_true rfl, Nat.le_of_ble_eq_true rfl⟩ (by decide) ⟨wmL_81, wi_yX12_init, wzX12, wc_yX12_init⟩ rfl (by decide +kernel) rfl (Nat.le_of_ble_eq_true rfl) (Nat.le_of_ble_eq_true rfl) (Nat.le_of_ble_eq_true rfl) dW_12 (fun σ2 h2 => ?_)
    refine jg_astore_n hC dW_15 rfl (Nat.le_of_ble_eq_true rfl) ?_
    refine jg_iconst (v := 1) hC dW_16 (by decide) ?_
    refine al_newa (atype := .long) (ty := .long) (t0 := 2) (N := 1) (a0 := (1, .inr (.inl fun _ => 0))) hC wa_long rfl (fun _ h => by cases h) rfl (fun _ => rfl) (by decide) (by decide) (by decide) (Nat.le_of_ble_eq_true rfl) (Nat.le_of_ble_eq_true rfl) dW_17 ?_
    refine jg_astore_n hC dW_19 rfl (Nat.le_of_ble_eq_true rfl) ?_
    refine jg_iconst (v := 0) hC dW_20 (by decide) ?_
    refine jg_istore hC dW_21 (Nat.le_of_ble_eq_true rfl) ?_
    exact l_to (n := 229) (k := 44806) h1 h2 (l_loop hLC hl (fun U H h => eX_x h) (fun U H h => eX_c h) (fun U H h => eX_s h) 512 0 0 229 44806 c_s0 r_s0 0 m_0 (by omega) ⟨m_0_II, m_0_7, fun j hj => absurd hj (Nat.not_lt_zero _), rfl⟩ m_0_C m_0_R (Nat.le_refl _) (Nat.le_refl _) (Nat.le_refl _) (by omega))
  rw [lg_entry_eq]
  exact key s.heap [] _ (by rw [hml]; exact n_ls0 7 [.ref b] (Nat.le_of_ble_eq_true rfl)) ⟨⟨hz0.symm, fun q x h => by cases h⟩, va_S.rf⟩
