/-! the law's loop -/
section LP
variable {p : Program} {l : Launch} {e : Env} {s : State} {m : MethodId} {b : Nat} {below : List Frame} {meth : Method} {c : Code} {D : va_G} {ca : Nat → ClassId} {ae sk sv : Nat → Nat} {ts ta sf : Nat} {Ex : State → Heap → Prop} {z0 L : Nat} {xs : Nat → Int32}
theorem l_case (hL : l_C p s m b meth c D ca ae Ex z0 L xs) (hl : l.stackTraces = false) (hT : ∀ U H, Ex U H → xT (cw_A (c_ad z0)) U H) (hXc : ∀ U H, Ex U H → cE (c_ad z0) ae ts U H) (hS : ∀ U H, Ex U H → sX (c_ad z0) ae sk sv ta sf U H) {i ck n k : Nat} {σ τ : n_S} {v : Int64} (hi : i + 5 < L) {M : n_M} (hI : LI M ck) (hM : RepC M σ) (hR : RepR M τ) (hck : ck + 5000 < 2147483646) (hnk : n + 1 ≤ 601024 ∧ k + 6 ≤ 7293034) (K : l_K p l e s m b below meth c D ca ae Ex z0 i ck n k) {x : Int32} (hx : ∃ j : Nat, j < 2 ^ 5 ∧ x = nI j) : l_W p l e s m b below meth c D ca ae Ex z0 40 (l_LS b z0 i) [.int x] (σ, τ, v, n, k) := by
  obtain ⟨j, hj, rfl⟩ := hx
  by_cases h20 : j < 20
  · match j, h20 with
    | 0, _ =>
      refine jg_tableIn (off := 96) (tgt := 136) hL.1 dW_40 (by decide) (by decide) (by decide) (by decide) ?_
      exact lc_feed hL hl hT hXc hS hi hI hM hR hck hnk K
    | 1, _ =>
      refine jg_tableIn (off := 200) (tgt := 240) hL.1 dW_40 (by decide) (by decide) (by decide) (by decide) ?_
      exact lc_end hL hl hT hXc hS hi hI hM hR hck hnk K
    | 2, _ =>
      refine jg_tableIn (off := 236) (tgt := 276) hL.1 dW_40 (by decide) (by decide) (by decide) (by decide) ?_
      exact lc_load hL hl hT hXc hS hi hI hM hR hck hnk K
    | 3, _ =>
      refine jg_tableIn (off := 292) (tgt := 332) hL.1 dW_40 (by decide) (by decide) (by decide) (by decide) ?_
      exact lc_fault hL hl hT hXc hS hi hI hM hR hck hnk K
    | 4, _ =>
      refine jg_tableIn (off := 305) (tgt := 345) hL.1 dW_40 (by decide) (by decide) (by decide) (by decide) ?_
      exact lc_tick hL hl hT hXc hS hi hI hM hR hck hnk K
    | 5, _ =>
      refine jg_tableIn (off := 318) (tgt := 358) hL.1 dW_40 (by decide) (by decide) (by decide) (by decide) ?_
      exact lc_run hL hl hT hXc hS hi hI hM hR hck hnk K
    | 6, _ =>
      refine jg_tableIn (off := 374) (tgt := 414) hL.1 dW_40 (by decide) (by decide) (by decide) (by decide) ?_
      exact lc_quantum hL hl hT hXc hS hi hI hM hR hck hnk K
    | 7, _ =>
      refine jg_tableIn (off := 430) (tgt := 470) hL.1 dW_40 (by decide) (by decide) (by decide) (by decide) ?_
      exact lc_kill hL hl hT hXc hS hi hI hM hR hck hnk K
    | 8, _ =>
      refine jg_tableIn (off := 493) (tgt := 533) hL.1 dW_40 (by decide) (by decide) (by decide) (by decide) ?_
      exact lc_reap hL hl hT hXc hS hi hI hM hR hck hnk K
    | 9, _ =>
      refine jg_tableIn (off := 549) (tgt := 589) hL.1 dW_40 (by decide) (by decide) (by decide) (by decide) ?_
      exact lc_key hL hl hT hXc hS hi hI hM hR hck hnk K
    | 10, _ =>
      refine jg_tableIn (off := 624) (tgt := 664) hL.1 dW_40 (by decide) (by decide) (by decide) (by decide) ?_
      exact lc_post hL hl hT hXc hS hi hI hM hR hck hnk K
    | 11, _ =>
      refine jg_tableIn (off := 699) (tgt := 739) hL.1 dW_40 (by decide) (by decide) (by decide) (by decide) ?_
      exact lc_state hL hl hT hXc hS hi hI hM hR hck hnk K
    | 12, _ =>
      refine jg_tableIn (off := 767) (tgt := 807) hL.1 dW_40 (by decide) (by decide) (by decide) (by decide) ?_
      exact lc_stack hL hl hT hXc hS hi hI hM hR hck hnk K
    | 13, _ =>
      refine jg_tableIn (off := 835) (tgt := 875) hL.1 dW_40 (by decide) (by decide) (by decide) (by decide) ?_
      exact lc_message hL hl hT hXc hS hi hI hM hR hck hnk K
    | 14, _ =>
      refine jg_tableIn (off := 931) (tgt := 971) hL.1 dW_40 (by decide) (by decide) (by decide) (by decide) ?_
      exact lc_ready hL hl hT hXc hS hi hI hM hR hck hnk K
    | 15, _ =>
      refine jg_tableIn (off := 999) (tgt := 1039) hL.1 dW_40 (by decide) (by decide) (by decide) (by decide) ?_
      exact lc_cell hL hl hT hXc hS hi hI hM hR hck hnk K
    | 16, _ =>
      refine jg_tableIn (off := 1055) (tgt := 1095) hL.1 dW_40 (by decide) (by decide) (by decide) (by decide) ?_
      exact lc_block hL hl hT hXc hS hi hI hM hR hck hnk K
    | 17, _ =>
      refine jg_tableIn (off := 1123) (tgt := 1163) hL.1 dW_40 (by decide) (by decide) (by decide) (by decide) ?_
      exact lc_semaphore hL hl hT hXc hS hi hI hM hR hck hnk K
    | 18, _ =>
      refine jg_tableIn (off := 1191) (tgt := 1231) hL.1 dW_40 (by decide) (by decide) (by decide) (by decide) ?_
      exact lc_out hL hl hT hXc hS hi hI hM hR hck hnk K
    | 19, _ =>
      refine jg_tableIn (off := 1247) (tgt := 1287) hL.1 dW_40 (by decide) (by decide) (by decide) (by decide) ?_
      exact lc_count hL hl hT hXc hS hi hI hM hR hck hnk K
    | q + 20, h => exact absurd h (by omega)
  · refine jg_tableOut (tgt := 1343) hL.1 dW_40 (Or.inr (by rw [nI_toInt (by omega)]; omega)) (by decide) ?_
    exact K M σ τ v ck n k hI hM hR (by omega) (by omega) (by omega)
theorem l_loop (hL : l_C p s m b meth c D ca ae Ex z0 L xs) (hl : l.stackTraces = false) (hT : ∀ U H, Ex U H → xT (cw_A (c_ad z0)) U H) (hXc : ∀ U H, Ex U H → cE (c_ad z0) ae ts U H) (hS : ∀ U H, Ex U H → sX (c_ad z0) ae sk sv ta sf U H) : ∀ (f i ck n k : Nat) (σ τ : n_S) (v : Int64) (M : n_M), L ≤ 6 * i + 6 * f → LI M ck → RepC M σ → RepR M τ → ck ≤ 5000 * i → n ≤ 229 + i → k ≤ 44806 + 6 * i → 6 * i ≤ 3078 → l_W p l e s m b below meth c D ca ae Ex z0 23 (l_LS b z0 (6 * i)) [] (σ, τ, v, n, k) := by
  have hL3 : L ≤ 3072 := hL.2.2.2.2.2.2.2
  intro f
  induction f with
  | zero =>
    intro i ck n k σ τ v M hf hI hM hR h1 h2 h3 h4
    refine jg_iload hL.1 dW_23 rfl ?_
    refine jg_aload_n hL.1 dW_25 rfl rfl ?_
    refine l_slen hL dW_26 ?_
    refine jg_bipush (v := nI 6) hL.1 dW_27 (by decide) ?_
    refine jg_isub hL.1 dW_29 ?_
    refine jg_icmp_gt (tgt := 1349) hL.1 dW_30 (by decide) (fun h => ?_) (fun h => absurd ?_ h)
    · refine jg_iconst (v := 1) hL.1 dW_1349 (by decide) ?_
      exact l_end hL ⟨by omega, by omega⟩ dW_1350
    · rw [Int32.lt_iff_toInt_lt, pk_sub_toInt (by omega) (by omega), nI_toInt (by omega)]
      omega
  | succ f ih =>
    intro i ck n k σ τ v M hf hI hM hR h1 h2 h3 h4
    refine jg_iload hL.1 dW_23 rfl ?_
    refine jg_aload_n hL.1 dW_25 rfl rfl ?_
    refine l_slen hL dW_26 ?_
    refine jg_bipush (v := nI 6) hL.1 dW_27 (by decide) ?_
    refine jg_isub hL.1 dW_29 ?_
    refine jg_icmp_gt (tgt := 1349) hL.1 dW_30 (by decide) (fun h => ?_) (fun h => ?_)
    · refine jg_iconst (v := 1) hL.1 dW_1349 (by decide) ?_
      exact l_end hL ⟨by omega, by omega⟩ dW_1350
    · rw [Int32.lt_iff_toInt_lt, pk_sub_toInt (by omega) (by omega), nI_toInt (by omega)] at h
      have hi : 6 * i + 5 < L := by omega
      refine jg_aload_n hL.1 dW_33 rfl rfl ?_
      refine jg_iload hL.1 dW_34 rfl ?_
      refine l_sld hL (by omega) dW_36 ?_
      refine jg_bipush (v := 31) hL.1 dW_37 (by decide) ?_
      refine jg_iand hL.1 dW_39 ?_
      refine l_case hL hl hT hXc hS hi hI hM hR (by omega) ⟨by omega, by omega⟩ ?_ (pk_andE (xs (6 * i)) (m := 31) 5 rfl)
      intro M' σ' τ' v' ck' n' k' hI' hM' hR' c1 c2 c3
      refine jg_iinc hL.1 dW_1343 rfl (show nI (6 * i) + Int32.ofInt 6 = nI (6 * (i + 1)) from nI_add (6 * i) 6) ?_
      refine jg_goto (tgt := 23) hL.1 dW_1346 (by decide) ?_
      exact ih (i + 1) ck' n' k' σ' τ' v' M' (by omega) hI' hM' hR' (by omega) (by omega) (by omega) (by omega)
end LP
