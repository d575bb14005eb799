/-! the helpers' contracts -/
def h_z (v : Int32) : Int64 := if v = 0 then 0 else 1
theorem h_s_feed (M : n_M) (a b c d e : Int32) (h : (u_feed M a b c d e).1 ≠ 0) : (u_feed M a b c d e).2.2 = M := by
  revert h
  unfold u_feed
  intro h
  split
  · rename_i q
    rw [if_pos q] at h
    exact absurd rfl h
  · rfl
theorem h_s_quantum (M : n_M) (x : Int32) (h : (u_quantum M x).1 ≠ 0) : (u_quantum M x).2.2 = M := by
  revert h
  unfold u_quantum
  intro h
  split
  · rename_i q
    rw [if_pos q] at h
    exact absurd rfl h
  · rfl
theorem h_s_kill (M : n_M) (x : Int32) (h : (u_kill M x).1 ≠ 0) : (u_kill M x).2.2 = M := by
  revert h
  unfold u_kill
  intro h
  split
  · rename_i q
    rw [if_pos q] at h
    split
    · rename_i q2
      rw [if_pos q2] at h
      exact absurd rfl h
    · rfl
  · rfl
theorem h_s_reap (M : n_M) (x : Int32) (h : (u_reap M x).1 ≠ 0) : (u_reap M x).2.2 = M := by
  revert h
  unfold u_reap
  intro h
  split
  · rename_i q
    rw [if_pos q] at h
    split
    · rename_i q2
      rw [if_pos q2] at h
      exact absurd rfl h
    · rfl
  · rfl
theorem h_s_key (M : n_M) (x y : Int32) (h : (u_key M x y).1 ≠ 0) : (u_key M x y).2.2 = M := by
  revert h
  unfold u_key
  intro h
  split
  · rename_i q
    rw [if_pos q] at h
    split
    · rename_i q2
      rw [if_pos q2] at h
      split
      · rename_i q3
        rw [if_pos q3] at h
        exact absurd rfl h
      · rfl
    · rfl
  · rfl
theorem h_s_post (M : n_M) (x y : Int32) (h : (u_post M x y).1 ≠ 0) : (u_post M x y).2.2 = M := by
  revert h
  unfold u_post
  intro h
  split
  · rename_i q
    rw [if_pos q] at h
    split
    · rename_i q2
      rw [if_pos q2] at h
      split
      · rename_i q3
        rw [if_pos q3] at h
        exact absurd rfl h
      · rfl
    · rfl
  · rfl
theorem h_s_end (M : n_M) (x : Int32) (h : (u_end M x).1 ≠ 0) : (u_end M x).2 = M := by
  revert h
  unfold u_end
  intro h
  split
  · rename_i q
    rw [if_pos q] at h
    exact absurd rfl h
  · rfl
section HS
variable {l : Launch} {D : va_G} {ca : Nat → ClassId} {ad : Nat → Nat → Nat} {ae sk sv : Nat → Nat} {ts ta sf : Nat} {Ex : State → Heap → Prop} {z0 qo : Nat}
theorem hl_feed (hl : l.stackTraces = false) (hT : ∀ U H, Ex U H → xT (cw_A ad) U H) (hK : h_K (cw D ca ad ae Ex) z0 qo) (a b c0 d0 e0 : Int32) (M : n_M) (σ : n_S) (v : Int64) (hM : RepC M σ) : h_Ct l (cw D ca ad ae Ex) ca z0 qo 11 yL_feed cL_feed 8 hhL_feed [.ref (ad 0 0), .int a, .int b, .int c0, .int d0, .int e0, .ref qo] σ v (fun r σ' v' => r = (u_feed M a b c0 d0 e0).1 ∧ ((u_feed M a b c0 d0 e0).1 = 0 → v' = (u_feed M a b c0 d0 e0).2.1.toInt64) ∧ RepC (u_feed M a b c0 d0 e0).2.2 σ') := by
  refine h_ofW rfl (Nat.le_of_ble_eq_true rfl) (fun p e s m below meth c hC hTb hE hz hX => ?_)
  refine jg_aload hC dL_feed_0 rfl ?_
  refine jg_iconst (v := 0) hC dL_feed_2 (by decide) ?_
  refine jg_aload_n hC dL_feed_3 rfl rfl ?_
  refine jg_iload_n hC dL_feed_4 rfl rfl ?_
  refine jg_iload_n hC dL_feed_5 rfl rfl ?_
  refine jg_iload_n hC dL_feed_6 rfl rfl ?_
  refine jg_iload hC dL_feed_7 rfl ?_
  refine jg_iload hC dL_feed_9 rfl ?_
  refine h_call (np := 5) (As := [.int a, .int b, .int c0, .int d0, .int e0]) hC hTb hK hE hz hX (cp_feed hl hT 4 a b c0 d0 e0 M σ hM) (by decide) (by decide) rfl ⟨wmL_7, wi_yX11_feed, wv_yX11_feed, wzX11, wc_yX11_feed⟩ hy_yX11_feed rfl (Nat.le_of_ble_eq_true rfl) dL_feed_11 (fun rv σ' hpo => ?_) (fun E σ' hpx => ?_)
  · obtain ⟨h0, rfl, hR⟩ := hpo
    refine jg_i2l hC dL_feed_14 rfl ?_
    refine h_last hC hK.2.2.2.1 dL_feed_15 ?_
    refine jg_goto (tgt := 23) hC dL_feed_16 (by decide) ?_
    refine jg_iconst (v := 0) hC dL_feed_23 (by decide) ?_
    exact h_iret hC dL_feed_24 ⟨h0.symm, fun _ => rfl, hR⟩
  · obtain ⟨h1, rfl, rfl⟩ := hpx
    refine ⟨[], ⟨0, 16, 19, 13⟩, [], "java/lang/UnsupportedOperationException", rfl, fun z hz => absurd hz List.not_mem_nil, rfl, by decide, wk_L_13, hX.1 _ (by decide), fun q => ?_⟩
    refine jg_astore hC dL_feed_19 (Nat.le_of_ble_eq_true rfl) ?_
    refine jg_iconst (v := 1) hC dL_feed_21 (by decide) ?_
    exact h_iret hC dL_feed_22 (⟨h1.symm, fun z => absurd (h1.symm.trans z) (by decide), by rw [h_s_feed M a b c0 d0 e0 (by rw [h1]; decide)]; exact hM⟩)
theorem hl_end (hl : l.stackTraces = false) (hT : ∀ U H, Ex U H → xT (cw_A ad) U H) (hK : h_K (cw D ca ad ae Ex) z0 qo) (x : Int32) (M : n_M) (σ : n_S) (v : Int64) (hM : RepC M σ) : h_Ct l (cw D ca ad ae Ex) ca z0 qo 11 yL_end cL_end 3 hhL_end [.ref (ad 0 0), .int x] σ v (fun r σ' _ => r = (u_end M x).1 ∧ RepC (u_end M x).2 σ') := by
  refine h_ofW rfl (Nat.le_of_ble_eq_true rfl) (fun p e s m below meth c hC hTb hE hz hX => ?_)
  refine jg_aload_n hC dL_end_0 rfl rfl ?_
  refine jg_iload_n hC dL_end_1 rfl rfl ?_
  refine h_call (np := 1) (As := [.int x]) hC hTb hK hE hz hX (cp_end hl hT 4 x M σ hM) (by decide) (by decide) rfl ⟨wmL_15, wi_yX11_end, wv_yX11_end, wzX11, wc_yX11_end⟩ hy_yX11_end rfl (Nat.le_of_ble_eq_true rfl) dL_end_2 (fun rv σ' hpo => ?_) (fun E σ' hpx => ?_)
  · obtain ⟨h0, rfl, hR⟩ := hpo
    refine jg_goto (tgt := 11) hC dL_end_5 (by decide) ?_
    refine jg_iconst (v := 0) hC dL_end_11 (by decide) ?_
    exact h_iret hC dL_end_12 ⟨h0.symm, hR⟩
  · obtain ⟨h1, rfl, rfl⟩ := hpx
    refine ⟨[], ⟨0, 5, 8, 19⟩, [], "java/lang/IllegalArgumentException", rfl, fun z hz => absurd hz List.not_mem_nil, rfl, by decide, wk_L_19, hX.1 _ (by decide), fun q => ?_⟩
    refine jg_astore_n hC dL_end_8 rfl (Nat.le_of_ble_eq_true rfl) ?_
    refine jg_iconst (v := 1) hC dL_end_9 (by decide) ?_
    exact h_iret hC dL_end_10 (⟨h1.symm, by rw [h_s_end M x (by rw [h1]; decide)]; exact hM⟩)
theorem hl_load (hl : l.stackTraces = false) (hT : ∀ U H, Ex U H → xT (cw_A ad) U H) (hK : h_K (cw D ca ad ae Ex) z0 qo) (x : Int32) (M : n_M) (σ : n_S) (v : Int64) (hM : RepC M σ) (hXc : ∀ U H, Ex U H → cE ad ae ts U H) (hS : ∀ U H, Ex U H → sX ad ae sk sv ta sf U H) (hI : II M) (hY : BY (M.2 8 0)) : h_Ct l (cw D ca ad ae Ex) ca z0 qo 11 yL_load cL_load 4 hhL_load [.ref (ad 0 0), .int x, .ref qo] σ v (fun r σ' v' => (r = 0 ∧ ∃ w : Int32, v' = w.toInt64 ∧ CLd M x (some (.int w)) σ') ∨ (r = 1 ∧ ¬ (¬ x < 0 ∧ x < 3) ∧ RepC M σ') ∨ (r = 2 ∧ (¬ x < 0 ∧ x < 3) ∧ m_nofree M ∧ RepC M σ')) := by
  refine h_ofW rfl (Nat.le_of_ble_eq_true rfl) (fun p e s m below meth c hC hTb hE hz hX => ?_)
  refine jg_aload_n hC dL_load_0 rfl rfl ?_
  refine jg_iconst (v := 0) hC dL_load_1 (by decide) ?_
  refine jg_aload_n hC dL_load_2 rfl rfl ?_
  refine jg_iload_n hC dL_load_3 rfl rfl ?_
  refine h_call (np := 1) (As := [.int x]) hC hTb hK hE hz hX (cp_load hl hT hXc hS 0 x M σ hM hI hY) (by decide) (by decide) rfl ⟨wmL_21, wi_yX11_load, wv_yX11_load, wzX11, wc_yX11_load⟩ hy_yX11_load rfl (Nat.le_of_ble_eq_true rfl) dL_load_4 (fun rv σ' hpo => ?_) (fun E σ' hpx => ?_)
  · obtain ⟨w9, rfl⟩ : ∃ w : Int32, rv = some (.int w) := by
      obtain ⟨-, r, i, -, -, ⟨f, -, h, -⟩ | ⟨o, n, -, h, -⟩⟩ := hpo
      · exact ⟨_, h⟩
      · exact ⟨_, h⟩
    refine jg_i2l hC dL_load_7 rfl ?_
    refine h_last hC hK.2.2.2.1 dL_load_8 ?_
    refine jg_goto (tgt := 18) hC dL_load_9 (by decide) ?_
    refine jg_iconst (v := 0) hC dL_load_18 (by decide) ?_
    exact h_iret hC dL_load_19 (Or.inl ⟨rfl, w9, rfl, hpo⟩)
  · obtain ⟨⟨h1, rfl⟩ | ⟨h1, h2, rfl⟩, rfl⟩ := hpx
    · skip
      refine ⟨[], ⟨0, 9, 12, 25⟩, [⟨0, 9, 15, 13⟩], "java/lang/IndexOutOfBoundsException", rfl, fun z hz => absurd hz List.not_mem_nil, rfl, by decide, wk_L_25, hX.1 _ (by decide), fun q => ?_⟩
      refine jg_astore_n hC dL_load_12 rfl (Nat.le_of_ble_eq_true rfl) ?_
      refine jg_iconst (v := 1) hC dL_load_13 (by decide) ?_
      exact h_iret hC dL_load_14 (Or.inr (Or.inl ⟨rfl, h1, hM⟩))
    · skip
      refine ⟨[⟨0, 9, 12, 25⟩], ⟨0, 9, 15, 13⟩, [], "java/lang/UnsupportedOperationException", rfl, fun z hz => by rw [List.mem_singleton.mp hz]; exact Or.inr ⟨by decide, _, wk_L_25, hX.2 _ (by decide) _ (by decide) (by decide)⟩, rfl, by decide, wk_L_13, hX.1 _ (by decide), fun q => ?_⟩
      refine jg_astore_n hC dL_load_15 rfl (Nat.le_of_ble_eq_true rfl) ?_
      refine jg_iconst (v := 2) hC dL_load_16 (by decide) ?_
      exact h_iret hC dL_load_17 (Or.inr (Or.inr ⟨rfl, h1, h2, hM⟩))
theorem hl_run (hl : l.stackTraces = false) (hT : ∀ U H, Ex U H → xT (cw_A ad) U H) (hK : h_K (cw D ca ad ae Ex) z0 qo) (x : Int32) (M : n_M) (σ : n_S) (v : Int64) (hM : RepC M σ) (hXc : ∀ U H, Ex U H → cE ad ae ts U H) (hI : II M) (ck : Nat) (hck : M.1 15 0 = nI ck) (hck2 : ck + 5000 < 2147483646) : h_Ct l (cw D ca ad ae Ex) ca z0 qo 11 yL_run cL_run 4 hhL_run [.ref (ad 0 0), .int x, .ref qo] σ v (fun r σ' v' => (r = 0 ∧ ∃ k a M', k ≤ 5000 ∧ x = nI k ∧ m_runs k M a M' ∧ v' = (nI a).toInt64 ∧ RepC M' σ') ∨ (r = 1 ∧ (¬ ∃ k, k ≤ 5000 ∧ x = nI k) ∧ RepC M σ')) := by
  refine h_ofW rfl (Nat.le_of_ble_eq_true rfl) (fun p e s m below meth c hC hTb hE hz hX => ?_)
  refine jg_aload_n hC dL_run_0 rfl rfl ?_
  refine jg_iconst (v := 0) hC dL_run_1 (by decide) ?_
  refine jg_aload_n hC dL_run_2 rfl rfl ?_
  refine jg_iload_n hC dL_run_3 rfl rfl ?_
  refine h_call (np := 1) (As := [.int x]) hC hTb hK hE hz hX (cp_run hl hT hXc 3 x M σ hM hI ck hck hck2) (by decide) (by decide) rfl ⟨wmL_27, wi_yX11_run, wv_yX11_run, wzX11, wc_yX11_run⟩ hy_yX11_run rfl (Nat.le_of_ble_eq_true rfl) dL_run_4 (fun rv σ' hpo => ?_) (fun E σ' hpx => ?_)
  · obtain ⟨k, a, M', h1, h2, h3, rfl, hR⟩ := hpo
    refine jg_i2l hC dL_run_7 rfl ?_
    refine h_last hC hK.2.2.2.1 dL_run_8 ?_
    refine jg_goto (tgt := 15) hC dL_run_9 (by decide) ?_
    refine jg_iconst (v := 0) hC dL_run_15 (by decide) ?_
    exact h_iret hC dL_run_16 (Or.inl ⟨rfl, k, a, M', h1, h2, h3, rfl, hR⟩)
  · obtain ⟨h1, rfl, rfl⟩ := hpx
    refine ⟨[], ⟨0, 9, 12, 19⟩, [], "java/lang/IllegalArgumentException", rfl, fun z hz => absurd hz List.not_mem_nil, rfl, by decide, wk_L_19, hX.1 _ (by decide), fun q => ?_⟩
    refine jg_astore_n hC dL_run_12 rfl (Nat.le_of_ble_eq_true rfl) ?_
    refine jg_iconst (v := 1) hC dL_run_13 (by decide) ?_
    exact h_iret hC dL_run_14 (Or.inr ⟨rfl, h1, hM⟩)
theorem hl_quantum (hl : l.stackTraces = false) (hT : ∀ U H, Ex U H → xT (cw_A ad) U H) (hK : h_K (cw D ca ad ae Ex) z0 qo) (x : Int32) (M : n_M) (σ : n_S) (v : Int64) (hM : RepC M σ) : h_Ct l (cw D ca ad ae Ex) ca z0 qo 11 yL_quantum cL_quantum 4 hhL_quantum [.ref (ad 0 0), .int x, .ref qo] σ v (fun r σ' v' => r = (u_quantum M x).1 ∧ ((u_quantum M x).1 = 0 → v' = (u_quantum M x).2.1.toInt64) ∧ RepC (u_quantum M x).2.2 σ') := by
  refine h_ofW rfl (Nat.le_of_ble_eq_true rfl) (fun p e s m below meth c hC hTb hE hz hX => ?_)
  refine jg_aload_n hC dL_quantum_0 rfl rfl ?_
  refine jg_iconst (v := 0) hC dL_quantum_1 (by decide) ?_
  refine jg_aload_n hC dL_quantum_2 rfl rfl ?_
  refine jg_iload_n hC dL_quantum_3 rfl rfl ?_
  refine h_call (np := 1) (As := [.int x]) hC hTb hK hE hz hX (cp_quantum hl hT 4 x M σ hM) (by decide) (by decide) rfl ⟨wmL_30, wi_yX11_quantum, wv_yX11_quantum, wzX11, wc_yX11_quantum⟩ hy_yX11_quantum rfl (Nat.le_of_ble_eq_true rfl) dL_quantum_4 (fun rv σ' hpo => ?_) (fun E σ' hpx => ?_)
  · obtain ⟨h0, rfl, hR⟩ := hpo
    refine jg_i2l hC dL_quantum_7 rfl ?_
    refine h_last hC hK.2.2.2.1 dL_quantum_8 ?_
    refine jg_goto (tgt := 15) hC dL_quantum_9 (by decide) ?_
    refine jg_iconst (v := 0) hC dL_quantum_15 (by decide) ?_
    exact h_iret hC dL_quantum_16 ⟨h0.symm, fun _ => rfl, hR⟩
  · obtain ⟨h1, rfl, rfl⟩ := hpx
    refine ⟨[], ⟨0, 9, 12, 19⟩, [], "java/lang/IllegalArgumentException", rfl, fun z hz => absurd hz List.not_mem_nil, rfl, by decide, wk_L_19, hX.1 _ (by decide), fun q => ?_⟩
    refine jg_astore_n hC dL_quantum_12 rfl (Nat.le_of_ble_eq_true rfl) ?_
    refine jg_iconst (v := 1) hC dL_quantum_13 (by decide) ?_
    exact h_iret hC dL_quantum_14 (⟨h1.symm, fun z => absurd (h1.symm.trans z) (by decide), by rw [h_s_quantum M x (by rw [h1]; decide)]; exact hM⟩)
theorem hl_kill (hl : l.stackTraces = false) (hT : ∀ U H, Ex U H → xT (cw_A ad) U H) (hK : h_K (cw D ca ad ae Ex) z0 qo) (x : Int32) (M : n_M) (σ : n_S) (v : Int64) (hM : RepC M σ) (hI : II M) : h_Ct l (cw D ca ad ae Ex) ca z0 qo 11 yL_kill cL_kill 4 hhL_kill [.ref (ad 0 0), .int x, .ref qo] σ v (fun r σ' v' => r = (u_kill M x).1 ∧ ((u_kill M x).1 = 0 → v' = h_z (u_kill M x).2.1) ∧ RepC (u_kill M x).2.2 σ') := by
  refine h_ofW rfl (Nat.le_of_ble_eq_true rfl) (fun p e s m below meth c hC hTb hE hz hX => ?_)
  refine jg_aload_n hC dL_kill_0 rfl rfl ?_
  refine jg_iconst (v := 0) hC dL_kill_1 (by decide) ?_
  refine jg_aload_n hC dL_kill_2 rfl rfl ?_
  refine jg_iload_n hC dL_kill_3 rfl rfl ?_
  refine h_call (np := 1) (As := [.int x]) hC hTb hK hE hz hX (cp_kill hl hT 4 x M σ hM hI) (by decide) (by decide) rfl ⟨wmL_33, wi_yX11_kill, wv_yX11_kill, wzX11, wc_yX11_kill⟩ hy_yX11_kill rfl (Nat.le_of_ble_eq_true rfl) dL_kill_4 (fun rv σ' hpo => ?_) (fun E σ' hpx => ?_)
  · obtain ⟨h0, rfl, hR⟩ := hpo
    refine jg_if_eq (tgt := 14) hC dL_kill_7 (by decide) (fun hb => ?_) (fun hb => ?_)
    · skip
      refine jg_lconst (v := 0) hC dL_kill_14 (by decide) ?_
      refine h_last hC hK.2.2.2.1 dL_kill_15 ?_
      refine jg_goto (tgt := 22) hC dL_kill_16 (by decide) ?_
      refine jg_iconst (v := 0) hC dL_kill_22 (by decide) ?_
      exact h_iret hC dL_kill_23 ⟨h0.symm, fun _ => (if_pos hb).symm, hR⟩
    · skip
      refine jg_lconst (v := 1) hC dL_kill_10 (by decide) ?_
      refine jg_goto (tgt := 15) hC dL_kill_11 (by decide) ?_
      refine h_last hC hK.2.2.2.1 dL_kill_15 ?_
      refine jg_goto (tgt := 22) hC dL_kill_16 (by decide) ?_
      refine jg_iconst (v := 0) hC dL_kill_22 (by decide) ?_
      exact h_iret hC dL_kill_23 ⟨h0.symm, fun _ => (if_neg hb).symm, hR⟩
  · obtain ⟨h1, rfl, rfl⟩ := hpx
    refine ⟨[], ⟨0, 16, 19, 25⟩, [], "java/lang/IndexOutOfBoundsException", rfl, fun z hz => absurd hz List.not_mem_nil, rfl, by decide, wk_L_25, hX.1 _ (by decide), fun q => ?_⟩
    refine jg_astore_n hC dL_kill_19 rfl (Nat.le_of_ble_eq_true rfl) ?_
    refine jg_iconst (v := 1) hC dL_kill_20 (by decide) ?_
    exact h_iret hC dL_kill_21 (⟨h1.symm, fun z => absurd (h1.symm.trans z) (by decide), by rw [h_s_kill M x (by rw [h1]; decide)]; exact hM⟩)
theorem hl_reap (hl : l.stackTraces = false) (hT : ∀ U H, Ex U H → xT (cw_A ad) U H) (hK : h_K (cw D ca ad ae Ex) z0 qo) (x : Int32) (M : n_M) (σ : n_S) (v : Int64) (hM : RepC M σ) (hI : II M) : h_Ct l (cw D ca ad ae Ex) ca z0 qo 11 yL_reap cL_reap 4 hhL_reap [.ref (ad 0 0), .int x, .ref qo] σ v (fun r σ' v' => r = (u_reap M x).1 ∧ ((u_reap M x).1 = 0 → v' = (u_reap M x).2.1.toInt64) ∧ RepC (u_reap M x).2.2 σ') := by
  refine h_ofW rfl (Nat.le_of_ble_eq_true rfl) (fun p e s m below meth c hC hTb hE hz hX => ?_)
  refine jg_aload_n hC dL_reap_0 rfl rfl ?_
  refine jg_iconst (v := 0) hC dL_reap_1 (by decide) ?_
  refine jg_aload_n hC dL_reap_2 rfl rfl ?_
  refine jg_iload_n hC dL_reap_3 rfl rfl ?_
  refine h_call (np := 1) (As := [.int x]) hC hTb hK hE hz hX (cp_reap hl hT 4 x M σ hM hI) (by decide) (by decide) rfl ⟨wmL_37, wi_yX11_reap, wv_yX11_reap, wzX11, wc_yX11_reap⟩ hy_yX11_reap rfl (Nat.le_of_ble_eq_true rfl) dL_reap_4 (fun rv σ' hpo => ?_) (fun E σ' hpx => ?_)
  · obtain ⟨h0, rfl, hR⟩ := hpo
    refine jg_i2l hC dL_reap_7 rfl ?_
    refine h_last hC hK.2.2.2.1 dL_reap_8 ?_
    refine jg_goto (tgt := 18) hC dL_reap_9 (by decide) ?_
    refine jg_iconst (v := 0) hC dL_reap_18 (by decide) ?_
    exact h_iret hC dL_reap_19 ⟨h0.symm, fun _ => rfl, hR⟩
  · obtain ⟨⟨h1, rfl⟩ | ⟨h1, rfl⟩, rfl⟩ := hpx
    · skip
      refine ⟨[], ⟨0, 9, 12, 25⟩, [⟨0, 9, 15, 40⟩], "java/lang/IndexOutOfBoundsException", rfl, fun z hz => absurd hz List.not_mem_nil, rfl, by decide, wk_L_25, hX.1 _ (by decide), fun q => ?_⟩
      refine jg_astore_n hC dL_reap_12 rfl (Nat.le_of_ble_eq_true rfl) ?_
      refine jg_iconst (v := 1) hC dL_reap_13 (by decide) ?_
      exact h_iret hC dL_reap_14 (⟨h1.symm, fun z => absurd (h1.symm.trans z) (by decide), by rw [h_s_reap M x (by rw [h1]; decide)]; exact hM⟩)
    · skip
      refine ⟨[⟨0, 9, 12, 25⟩], ⟨0, 9, 15, 40⟩, [], "java/lang/IllegalStateException", rfl, fun z hz => by rw [List.mem_singleton.mp hz]; exact Or.inr ⟨by decide, _, wk_L_25, hX.2 _ (by decide) _ (by decide) (by decide)⟩, rfl, by decide, wk_L_40, hX.1 _ (by decide), fun q => ?_⟩
      refine jg_astore_n hC dL_reap_15 rfl (Nat.le_of_ble_eq_true rfl) ?_
      refine jg_iconst (v := 2) hC dL_reap_16 (by decide) ?_
      exact h_iret hC dL_reap_17 (⟨h1.symm, fun z => absurd (h1.symm.trans z) (by decide), by rw [h_s_reap M x (by rw [h1]; decide)]; exact hM⟩)
theorem hl_key (hl : l.stackTraces = false) (hT : ∀ U H, Ex U H → xT (cw_A ad) U H) (hK : h_K (cw D ca ad ae Ex) z0 qo) (x y : Int32) (M : n_M) (σ : n_S) (v : Int64) (hM : RepC M σ) (hI : II M) : h_Ct l (cw D ca ad ae Ex) ca z0 qo 11 yL_key cL_key 5 hhL_key [.ref (ad 0 0), .int x, .int y, .ref qo] σ v (fun r σ' v' => r = (u_key M x y).1 ∧ ((u_key M x y).1 = 0 → v' = h_z (u_key M x y).2.1) ∧ RepC (u_key M x y).2.2 σ') := by
  refine h_ofW rfl (Nat.le_of_ble_eq_true rfl) (fun p e s m below meth c hC hTb hE hz hX => ?_)
  refine jg_aload_n hC dL_key_0 rfl rfl ?_
  refine jg_iconst (v := 0) hC dL_key_1 (by decide) ?_
  refine jg_aload_n hC dL_key_2 rfl rfl ?_
  refine jg_iload_n hC dL_key_3 rfl rfl ?_
  refine jg_iload_n hC dL_key_4 rfl rfl ?_
  refine h_call (np := 2) (As := [.int x, .int y]) hC hTb hK hE hz hX (cp_key hl hT 4 x y M σ hM hI) (by decide) (by decide) rfl ⟨wmL_42, wi_yX11_key, wv_yX11_key, wzX11, wc_yX11_key⟩ hy_yX11_key rfl (Nat.le_of_ble_eq_true rfl) dL_key_5 (fun rv σ' hpo => ?_) (fun E σ' hpx => ?_)
  · obtain ⟨h0, rfl, hR⟩ := hpo
    refine jg_if_eq (tgt := 15) hC dL_key_8 (by decide) (fun hb => ?_) (fun hb => ?_)
    · skip
      refine jg_lconst (v := 0) hC dL_key_15 (by decide) ?_
      refine h_last hC hK.2.2.2.1 dL_key_16 ?_
      refine jg_goto (tgt := 28) hC dL_key_17 (by decide) ?_
      refine jg_iconst (v := 0) hC dL_key_28 (by decide) ?_
      exact h_iret hC dL_key_29 ⟨h0.symm, fun _ => (if_pos hb).symm, hR⟩
    · skip
      refine jg_lconst (v := 1) hC dL_key_11 (by decide) ?_
      refine jg_goto (tgt := 16) hC dL_key_12 (by decide) ?_
      refine h_last hC hK.2.2.2.1 dL_key_16 ?_
      refine jg_goto (tgt := 28) hC dL_key_17 (by decide) ?_
      refine jg_iconst (v := 0) hC dL_key_28 (by decide) ?_
      exact h_iret hC dL_key_29 ⟨h0.symm, fun _ => (if_neg hb).symm, hR⟩
  · obtain ⟨⟨h1, rfl⟩ | ⟨h1, rfl⟩, rfl⟩ := hpx
    · skip
      refine ⟨[], ⟨0, 17, 20, 25⟩, [⟨0, 17, 24, 40⟩], "java/lang/IndexOutOfBoundsException", rfl, fun z hz => absurd hz List.not_mem_nil, rfl, by decide, wk_L_25, hX.1 _ (by decide), fun q => ?_⟩
      refine jg_astore hC dL_key_20 (Nat.le_of_ble_eq_true rfl) ?_
      refine jg_iconst (v := 1) hC dL_key_22 (by decide) ?_
      exact h_iret hC dL_key_23 (⟨h1.symm, fun z => absurd (h1.symm.trans z) (by decide), by rw [h_s_key M x y (by rw [h1]; decide)]; exact hM⟩)
    · skip
      refine ⟨[⟨0, 17, 20, 25⟩], ⟨0, 17, 24, 40⟩, [], "java/lang/IllegalStateException", rfl, fun z hz => by rw [List.mem_singleton.mp hz]; exact Or.inr ⟨by decide, _, wk_L_25, hX.2 _ (by decide) _ (by decide) (by decide)⟩, rfl, by decide, wk_L_40, hX.1 _ (by decide), fun q => ?_⟩
      refine jg_astore hC dL_key_24 (Nat.le_of_ble_eq_true rfl) ?_
      refine jg_iconst (v := 2) hC dL_key_26 (by decide) ?_
      exact h_iret hC dL_key_27 (⟨h1.symm, fun z => absurd (h1.symm.trans z) (by decide), by rw [h_s_key M x y (by rw [h1]; decide)]; exact hM⟩)
theorem hl_post (hl : l.stackTraces = false) (hT : ∀ U H, Ex U H → xT (cw_A ad) U H) (hK : h_K (cw D ca ad ae Ex) z0 qo) (x y : Int32) (M : n_M) (σ : n_S) (v : Int64) (hM : RepC M σ) (hI : II M) : h_Ct l (cw D ca ad ae Ex) ca z0 qo 11 yL_post cL_post 5 hhL_post [.ref (ad 0 0), .int x, .int y, .ref qo] σ v (fun r σ' v' => r = (u_post M x y).1 ∧ ((u_post M x y).1 = 0 → v' = h_z (u_post M x y).2.1) ∧ RepC (u_post M x y).2.2 σ') := by
  refine h_ofW rfl (Nat.le_of_ble_eq_true rfl) (fun p e s m below meth c hC hTb hE hz hX => ?_)
  refine jg_aload_n hC dL_post_0 rfl rfl ?_
  refine jg_iconst (v := 0) hC dL_post_1 (by decide) ?_
  refine jg_aload_n hC dL_post_2 rfl rfl ?_
  refine jg_iload_n hC dL_post_3 rfl rfl ?_
  refine jg_iload_n hC dL_post_4 rfl rfl ?_
  refine h_call (np := 2) (As := [.int x, .int y]) hC hTb hK hE hz hX (cp_post hl hT 4 x y M σ hM hI) (by decide) (by decide) rfl ⟨wmL_46, wi_yX11_post, wv_yX11_post, wzX11, wc_yX11_post⟩ hy_yX11_post rfl (Nat.le_of_ble_eq_true rfl) dL_post_5 (fun rv σ' hpo => ?_) (fun E σ' hpx => ?_)
  · obtain ⟨h0, rfl, hR⟩ := hpo
    refine jg_if_eq (tgt := 15) hC dL_post_8 (by decide) (fun hb => ?_) (fun hb => ?_)
    · skip
      refine jg_lconst (v := 0) hC dL_post_15 (by decide) ?_
      refine h_last hC hK.2.2.2.1 dL_post_16 ?_
      refine jg_goto (tgt := 28) hC dL_post_17 (by decide) ?_
      refine jg_iconst (v := 0) hC dL_post_28 (by decide) ?_
      exact h_iret hC dL_post_29 ⟨h0.symm, fun _ => (if_pos hb).symm, hR⟩
    · skip
      refine jg_lconst (v := 1) hC dL_post_11 (by decide) ?_
      refine jg_goto (tgt := 16) hC dL_post_12 (by decide) ?_
      refine h_last hC hK.2.2.2.1 dL_post_16 ?_
      refine jg_goto (tgt := 28) hC dL_post_17 (by decide) ?_
      refine jg_iconst (v := 0) hC dL_post_28 (by decide) ?_
      exact h_iret hC dL_post_29 ⟨h0.symm, fun _ => (if_neg hb).symm, hR⟩
  · obtain ⟨⟨h1, rfl⟩ | ⟨h1, rfl⟩, rfl⟩ := hpx
    · skip
      refine ⟨[], ⟨0, 17, 20, 25⟩, [⟨0, 17, 24, 40⟩], "java/lang/IndexOutOfBoundsException", rfl, fun z hz => absurd hz List.not_mem_nil, rfl, by decide, wk_L_25, hX.1 _ (by decide), fun q => ?_⟩
      refine jg_astore hC dL_post_20 (Nat.le_of_ble_eq_true rfl) ?_
      refine jg_iconst (v := 1) hC dL_post_22 (by decide) ?_
      exact h_iret hC dL_post_23 (⟨h1.symm, fun z => absurd (h1.symm.trans z) (by decide), by rw [h_s_post M x y (by rw [h1]; decide)]; exact hM⟩)
    · skip
      refine ⟨[⟨0, 17, 20, 25⟩], ⟨0, 17, 24, 40⟩, [], "java/lang/IllegalStateException", rfl, fun z hz => by rw [List.mem_singleton.mp hz]; exact Or.inr ⟨by decide, _, wk_L_25, hX.2 _ (by decide) _ (by decide) (by decide)⟩, rfl, by decide, wk_L_40, hX.1 _ (by decide), fun q => ?_⟩
      refine jg_astore hC dL_post_24 (Nat.le_of_ble_eq_true rfl) ?_
      refine jg_iconst (v := 2) hC dL_post_26 (by decide) ?_
      exact h_iret hC dL_post_27 (⟨h1.symm, fun z => absurd (h1.symm.trans z) (by decide), by rw [h_s_post M x y (by rw [h1]; decide)]; exact hM⟩)
theorem hl_state (hl : l.stackTraces = false) (hT : ∀ U H, Ex U H → xT (cw_A ad) U H) (hK : h_K (cw D ca ad ae Ex) z0 qo) (x w : Int32) (M : n_M) (σ : n_S) (v : Int64) (hM : RepC M σ) (hI : II M) : h_Ct l (cw D ca ad ae Ex) ca z0 qo 11 yL_state cL_state 5 hhL_state [.ref (ad 0 0), .int x, .int w, .ref qo] σ v (fun r σ' v' => r = (u_state M x w).1 ∧ ((u_state M x w).1 = 0 → v' = (u_state M x w).2.toInt64) ∧ σ' = σ) := by
  refine h_ofW rfl (Nat.le_of_ble_eq_true rfl) (fun p e s m below meth c hC hTb hE hz hX => ?_)
  refine jg_aload_n hC dL_state_0 rfl rfl ?_
  refine jg_iconst (v := 0) hC dL_state_1 (by decide) ?_
  refine jg_aload_n hC dL_state_2 rfl rfl ?_
  refine jg_iload_n hC dL_state_3 rfl rfl ?_
  refine jg_iload_n hC dL_state_4 rfl rfl ?_
  refine h_call (np := 2) (As := [.int x, .int w]) hC hTb hK hE hz hX (cp_state hl hT 4 x w M σ hM hI.2.1) (by decide) (by decide) rfl ⟨wmL_49, wi_yX11_state, wv_yX11_state, wzX11, wc_yX11_state⟩ hy_yX11_state rfl (Nat.le_of_ble_eq_true rfl) dL_state_5 (fun rv σ' hpo => ?_) (fun E σ' hpx => ?_)
  · obtain ⟨h0, rfl, rfl⟩ := hpo
    refine jg_i2l hC dL_state_8 rfl ?_
    refine h_last hC hK.2.2.2.1 dL_state_9 ?_
    refine jg_goto (tgt := 17) hC dL_state_10 (by decide) ?_
    refine jg_iconst (v := 0) hC dL_state_17 (by decide) ?_
    exact h_iret hC dL_state_18 ⟨h0.symm, fun _ => rfl, rfl⟩
  · obtain ⟨h1, rfl, rfl⟩ := hpx
    refine ⟨[], ⟨0, 10, 13, 25⟩, [], "java/lang/IndexOutOfBoundsException", rfl, fun z hz => absurd hz List.not_mem_nil, rfl, by decide, wk_L_25, hX.1 _ (by decide), fun q => ?_⟩
    refine jg_astore hC dL_state_13 (Nat.le_of_ble_eq_true rfl) ?_
    refine jg_iconst (v := 1) hC dL_state_15 (by decide) ?_
    exact h_iret hC dL_state_16 (⟨h1.symm, fun z => absurd (h1.symm.trans z) (by decide), rfl⟩)
theorem hl_stack (hl : l.stackTraces = false) (hT : ∀ U H, Ex U H → xT (cw_A ad) U H) (hK : h_K (cw D ca ad ae Ex) z0 qo) (x i : Int32) (M : n_M) (σ : n_S) (v : Int64) (hM : RepC M σ) : h_Ct l (cw D ca ad ae Ex) ca z0 qo 11 yL_stack cL_stack 5 hhL_stack [.ref (ad 0 0), .int x, .int i, .ref qo] σ v (fun r σ' v' => r = (u_stack M x i).1 ∧ ((u_stack M x i).1 = 0 → v' = (u_stack M x i).2.toInt64) ∧ σ' = σ) := by
  refine h_ofW rfl (Nat.le_of_ble_eq_true rfl) (fun p e s m below meth c hC hTb hE hz hX => ?_)
  refine jg_aload_n hC dL_stack_0 rfl rfl ?_
  refine jg_iconst (v := 0) hC dL_stack_1 (by decide) ?_
  refine jg_aload_n hC dL_stack_2 rfl rfl ?_
  refine jg_iload_n hC dL_stack_3 rfl rfl ?_
  refine jg_iload_n hC dL_stack_4 rfl rfl ?_
  refine h_call (np := 2) (As := [.int x, .int i]) hC hTb hK hE hz hX (cp_stack hl hT 4 x i M σ hM) (by decide) (by decide) rfl ⟨wmL_53, wi_yX11_stack, wv_yX11_stack, wzX11, wc_yX11_stack⟩ hy_yX11_stack rfl (Nat.le_of_ble_eq_true rfl) dL_stack_5 (fun rv σ' hpo => ?_) (fun E σ' hpx => ?_)
  · obtain ⟨h0, rfl, rfl⟩ := hpo
    refine jg_i2l hC dL_stack_8 rfl ?_
    refine h_last hC hK.2.2.2.1 dL_stack_9 ?_
    refine jg_goto (tgt := 17) hC dL_stack_10 (by decide) ?_
    refine jg_iconst (v := 0) hC dL_stack_17 (by decide) ?_
    exact h_iret hC dL_stack_18 ⟨h0.symm, fun _ => rfl, rfl⟩
  · obtain ⟨h1, rfl, rfl⟩ := hpx
    refine ⟨[], ⟨0, 10, 13, 25⟩, [], "java/lang/IndexOutOfBoundsException", rfl, fun z hz => absurd hz List.not_mem_nil, rfl, by decide, wk_L_25, hX.1 _ (by decide), fun q => ?_⟩
    refine jg_astore hC dL_stack_13 (Nat.le_of_ble_eq_true rfl) ?_
    refine jg_iconst (v := 1) hC dL_stack_15 (by decide) ?_
    exact h_iret hC dL_stack_16 (⟨h1.symm, fun z => absurd (h1.symm.trans z) (by decide), rfl⟩)
theorem hl_message (hl : l.stackTraces = false) (hT : ∀ U H, Ex U H → xT (cw_A ad) U H) (hK : h_K (cw D ca ad ae Ex) z0 qo) (x i b : Int32) (M : n_M) (σ : n_S) (v : Int64) (hM : RepC M σ) : h_Ct l (cw D ca ad ae Ex) ca z0 qo 11 yL_message cL_message 6 hhL_message [.ref (ad 0 0), .int x, .int i, .int b, .ref qo] σ v (fun r σ' v' => r = (u_msg M x i b).1 ∧ ((u_msg M x i b).1 = 0 → v' = (u_msg M x i b).2.toInt64) ∧ σ' = σ) := by
  refine h_ofW rfl (Nat.le_of_ble_eq_true rfl) (fun p e s m below meth c hC hTb hE hz hX => ?_)
  refine jg_aload hC dL_message_0 rfl ?_
  refine jg_iconst (v := 0) hC dL_message_2 (by decide) ?_
  refine jg_aload_n hC dL_message_3 rfl rfl ?_
  refine jg_iload_n hC dL_message_4 rfl rfl ?_
  refine jg_iload_n hC dL_message_5 rfl rfl ?_
  refine jg_iload_n hC dL_message_6 rfl rfl ?_
  refine h_call (np := 3) (As := [.int x, .int i, .int b]) hC hTb hK hE hz hX (cp_message hl hT 4 x i b M σ hM) (by decide) (by decide) rfl ⟨wmL_56, wi_yX11_message, wv_yX11_message, wzX11, wc_yX11_message⟩ hy_yX11_message rfl (Nat.le_of_ble_eq_true rfl) dL_message_7 (fun rv σ' hpo => ?_) (fun E σ' hpx => ?_)
  · obtain ⟨h0, rfl, rfl⟩ := hpo
    refine jg_i2l hC dL_message_10 rfl ?_
    refine h_last hC hK.2.2.2.1 dL_message_11 ?_
    refine jg_goto (tgt := 19) hC dL_message_12 (by decide) ?_
    refine jg_iconst (v := 0) hC dL_message_19 (by decide) ?_
    exact h_iret hC dL_message_20 ⟨h0.symm, fun _ => rfl, rfl⟩
  · obtain ⟨h1, rfl, rfl⟩ := hpx
    refine ⟨[], ⟨0, 12, 15, 25⟩, [], "java/lang/IndexOutOfBoundsException", rfl, fun z hz => absurd hz List.not_mem_nil, rfl, by decide, wk_L_25, hX.1 _ (by decide), fun q => ?_⟩
    refine jg_astore hC dL_message_15 (Nat.le_of_ble_eq_true rfl) ?_
    refine jg_iconst (v := 1) hC dL_message_17 (by decide) ?_
    exact h_iret hC dL_message_18 (⟨h1.symm, fun z => absurd (h1.symm.trans z) (by decide), rfl⟩)
theorem hl_ready (hl : l.stackTraces = false) (hT : ∀ U H, Ex U H → xT (cw_A ad) U H) (hK : h_K (cw D ca ad ae Ex) z0 qo) (x i : Int32) (M : n_M) (σ : n_S) (v : Int64) (hM : RepC M σ) : h_Ct l (cw D ca ad ae Ex) ca z0 qo 11 yL_ready cL_ready 5 hhL_ready [.ref (ad 0 0), .int x, .int i, .ref qo] σ v (fun r σ' v' => r = (u_ready M x i).1 ∧ ((u_ready M x i).1 = 0 → v' = (u_ready M x i).2.toInt64) ∧ σ' = σ) := by
  refine h_ofW rfl (Nat.le_of_ble_eq_true rfl) (fun p e s m below meth c hC hTb hE hz hX => ?_)
  refine jg_aload_n hC dL_ready_0 rfl rfl ?_
  refine jg_iconst (v := 0) hC dL_ready_1 (by decide) ?_
  refine jg_aload_n hC dL_ready_2 rfl rfl ?_
  refine jg_iload_n hC dL_ready_3 rfl rfl ?_
  refine jg_iload_n hC dL_ready_4 rfl rfl ?_
  refine h_call (np := 2) (As := [.int x, .int i]) hC hTb hK hE hz hX (cp_ready hl hT 4 x i M σ hM) (by decide) (by decide) rfl ⟨wmL_60, wi_yX11_ready, wv_yX11_ready, wzX11, wc_yX11_ready⟩ hy_yX11_ready rfl (Nat.le_of_ble_eq_true rfl) dL_ready_5 (fun rv σ' hpo => ?_) (fun E σ' hpx => ?_)
  · obtain ⟨h0, rfl, rfl⟩ := hpo
    refine jg_i2l hC dL_ready_8 rfl ?_
    refine h_last hC hK.2.2.2.1 dL_ready_9 ?_
    refine jg_goto (tgt := 17) hC dL_ready_10 (by decide) ?_
    refine jg_iconst (v := 0) hC dL_ready_17 (by decide) ?_
    exact h_iret hC dL_ready_18 ⟨h0.symm, fun _ => rfl, rfl⟩
  · obtain ⟨h1, rfl, rfl⟩ := hpx
    refine ⟨[], ⟨0, 10, 13, 25⟩, [], "java/lang/IndexOutOfBoundsException", rfl, fun z hz => absurd hz List.not_mem_nil, rfl, by decide, wk_L_25, hX.1 _ (by decide), fun q => ?_⟩
    refine jg_astore hC dL_ready_13 (Nat.le_of_ble_eq_true rfl) ?_
    refine jg_iconst (v := 1) hC dL_ready_15 (by decide) ?_
    exact h_iret hC dL_ready_16 (⟨h1.symm, fun z => absurd (h1.symm.trans z) (by decide), rfl⟩)
theorem hl_cell (hl : l.stackTraces = false) (hT : ∀ U H, Ex U H → xT (cw_A ad) U H) (hK : h_K (cw D ca ad ae Ex) z0 qo) (x : Int32) (M : n_M) (σ : n_S) (v : Int64) (hM : RepC M σ) : h_Ct l (cw D ca ad ae Ex) ca z0 qo 11 yL_cell cL_cell 4 hhL_cell [.ref (ad 0 0), .int x, .ref qo] σ v (fun r σ' v' => r = (u_cell M x).1 ∧ ((u_cell M x).1 = 0 → v' = (u_cell M x).2.toInt64) ∧ σ' = σ) := by
  refine h_ofW rfl (Nat.le_of_ble_eq_true rfl) (fun p e s m below meth c hC hTb hE hz hX => ?_)
  refine jg_aload_n hC dL_cell_0 rfl rfl ?_
  refine jg_iconst (v := 0) hC dL_cell_1 (by decide) ?_
  refine jg_aload_n hC dL_cell_2 rfl rfl ?_
  refine jg_iload_n hC dL_cell_3 rfl rfl ?_
  refine h_call (np := 1) (As := [.int x]) hC hTb hK hE hz hX (cp_cell hl hT 4 x M σ hM) (by decide) (by decide) rfl ⟨wmL_63, wi_yX11_cell, wv_yX11_cell, wzX11, wc_yX11_cell⟩ hy_yX11_cell rfl (Nat.le_of_ble_eq_true rfl) dL_cell_4 (fun rv σ' hpo => ?_) (fun E σ' hpx => ?_)
  · obtain ⟨h0, rfl, rfl⟩ := hpo
    refine jg_i2l hC dL_cell_7 rfl ?_
    refine h_last hC hK.2.2.2.1 dL_cell_8 ?_
    refine jg_goto (tgt := 15) hC dL_cell_9 (by decide) ?_
    refine jg_iconst (v := 0) hC dL_cell_15 (by decide) ?_
    exact h_iret hC dL_cell_16 ⟨h0.symm, fun _ => rfl, rfl⟩
  · obtain ⟨h1, rfl, rfl⟩ := hpx
    refine ⟨[], ⟨0, 9, 12, 25⟩, [], "java/lang/IndexOutOfBoundsException", rfl, fun z hz => absurd hz List.not_mem_nil, rfl, by decide, wk_L_25, hX.1 _ (by decide), fun q => ?_⟩
    refine jg_astore_n hC dL_cell_12 rfl (Nat.le_of_ble_eq_true rfl) ?_
    refine jg_iconst (v := 1) hC dL_cell_13 (by decide) ?_
    exact h_iret hC dL_cell_14 (⟨h1.symm, fun z => absurd (h1.symm.trans z) (by decide), rfl⟩)
theorem hl_block (hl : l.stackTraces = false) (hT : ∀ U H, Ex U H → xT (cw_A ad) U H) (hK : h_K (cw D ca ad ae Ex) z0 qo) (x w : Int32) (M : n_M) (σ : n_S) (v : Int64) (hM : RepC M σ) (hI : II M) : h_Ct l (cw D ca ad ae Ex) ca z0 qo 11 yL_block cL_block 5 hhL_block [.ref (ad 0 0), .int x, .int w, .ref qo] σ v (fun r σ' v' => r = (u_block M x w).1 ∧ ((u_block M x w).1 = 0 → v' = (u_block M x w).2.toInt64) ∧ σ' = σ) := by
  refine h_ofW rfl (Nat.le_of_ble_eq_true rfl) (fun p e s m below meth c hC hTb hE hz hX => ?_)
  refine jg_aload_n hC dL_block_0 rfl rfl ?_
  refine jg_iconst (v := 0) hC dL_block_1 (by decide) ?_
  refine jg_aload_n hC dL_block_2 rfl rfl ?_
  refine jg_iload_n hC dL_block_3 rfl rfl ?_
  refine jg_iload_n hC dL_block_4 rfl rfl ?_
  refine h_call (np := 2) (As := [.int x, .int w]) hC hTb hK hE hz hX (cp_block hl hT 4 x w M σ hM hI.2.1) (by decide) (by decide) rfl ⟨wmL_66, wi_yX11_block, wv_yX11_block, wzX11, wc_yX11_block⟩ hy_yX11_block rfl (Nat.le_of_ble_eq_true rfl) dL_block_5 (fun rv σ' hpo => ?_) (fun E σ' hpx => ?_)
  · obtain ⟨h0, rfl, rfl⟩ := hpo
    refine jg_i2l hC dL_block_8 rfl ?_
    refine h_last hC hK.2.2.2.1 dL_block_9 ?_
    refine jg_goto (tgt := 17) hC dL_block_10 (by decide) ?_
    refine jg_iconst (v := 0) hC dL_block_17 (by decide) ?_
    exact h_iret hC dL_block_18 ⟨h0.symm, fun _ => rfl, rfl⟩
  · obtain ⟨h1, rfl, rfl⟩ := hpx
    refine ⟨[], ⟨0, 10, 13, 25⟩, [], "java/lang/IndexOutOfBoundsException", rfl, fun z hz => absurd hz List.not_mem_nil, rfl, by decide, wk_L_25, hX.1 _ (by decide), fun q => ?_⟩
    refine jg_astore hC dL_block_13 (Nat.le_of_ble_eq_true rfl) ?_
    refine jg_iconst (v := 1) hC dL_block_15 (by decide) ?_
    exact h_iret hC dL_block_16 (⟨h1.symm, fun z => absurd (h1.symm.trans z) (by decide), rfl⟩)
theorem hl_semaphore (hl : l.stackTraces = false) (hT : ∀ U H, Ex U H → xT (cw_A ad) U H) (hK : h_K (cw D ca ad ae Ex) z0 qo) (x w : Int32) (M : n_M) (σ : n_S) (v : Int64) (hM : RepC M σ) : h_Ct l (cw D ca ad ae Ex) ca z0 qo 11 yL_semaphore cL_semaphore 5 hhL_semaphore [.ref (ad 0 0), .int x, .int w, .ref qo] σ v (fun r σ' v' => r = (u_sem M x w).1 ∧ ((u_sem M x w).1 = 0 → v' = (u_sem M x w).2.toInt64) ∧ σ' = σ) := by
  refine h_ofW rfl (Nat.le_of_ble_eq_true rfl) (fun p e s m below meth c hC hTb hE hz hX => ?_)
  refine jg_aload_n hC dL_semaphore_0 rfl rfl ?_
  refine jg_iconst (v := 0) hC dL_semaphore_1 (by decide) ?_
  refine jg_aload_n hC dL_semaphore_2 rfl rfl ?_
  refine jg_iload_n hC dL_semaphore_3 rfl rfl ?_
  refine jg_iload_n hC dL_semaphore_4 rfl rfl ?_
  refine h_call (np := 2) (As := [.int x, .int w]) hC hTb hK hE hz hX (cp_semaphore hl hT 4 x w M σ hM) (by decide) (by decide) rfl ⟨wmL_69, wi_yX11_semaphore, wv_yX11_semaphore, wzX11, wc_yX11_semaphore⟩ hy_yX11_semaphore rfl (Nat.le_of_ble_eq_true rfl) dL_semaphore_5 (fun rv σ' hpo => ?_) (fun E σ' hpx => ?_)
  · obtain ⟨h0, rfl, rfl⟩ := hpo
    refine jg_i2l hC dL_semaphore_8 rfl ?_
    refine h_last hC hK.2.2.2.1 dL_semaphore_9 ?_
    refine jg_goto (tgt := 17) hC dL_semaphore_10 (by decide) ?_
    refine jg_iconst (v := 0) hC dL_semaphore_17 (by decide) ?_
    exact h_iret hC dL_semaphore_18 ⟨h0.symm, fun _ => rfl, rfl⟩
  · obtain ⟨h1, rfl, rfl⟩ := hpx
    refine ⟨[], ⟨0, 10, 13, 25⟩, [], "java/lang/IndexOutOfBoundsException", rfl, fun z hz => absurd hz List.not_mem_nil, rfl, by decide, wk_L_25, hX.1 _ (by decide), fun q => ?_⟩
    refine jg_astore hC dL_semaphore_13 (Nat.le_of_ble_eq_true rfl) ?_
    refine jg_iconst (v := 1) hC dL_semaphore_15 (by decide) ?_
    exact h_iret hC dL_semaphore_16 (⟨h1.symm, fun z => absurd (h1.symm.trans z) (by decide), rfl⟩)
theorem hl_out (hl : l.stackTraces = false) (hT : ∀ U H, Ex U H → xT (cw_A ad) U H) (hK : h_K (cw D ca ad ae Ex) z0 qo) (x : Int32) (M : n_M) (σ : n_S) (v : Int64) (hM : RepC M σ) : h_Ct l (cw D ca ad ae Ex) ca z0 qo 11 yL_out cL_out 4 hhL_out [.ref (ad 0 0), .int x, .ref qo] σ v (fun r σ' v' => r = (u_out M x).1 ∧ ((u_out M x).1 = 0 → v' = (u_out M x).2.toInt64) ∧ σ' = σ) := by
  refine h_ofW rfl (Nat.le_of_ble_eq_true rfl) (fun p e s m below meth c hC hTb hE hz hX => ?_)
  refine jg_aload_n hC dL_out_0 rfl rfl ?_
  refine jg_iconst (v := 0) hC dL_out_1 (by decide) ?_
  refine jg_aload_n hC dL_out_2 rfl rfl ?_
  refine jg_iload_n hC dL_out_3 rfl rfl ?_
  refine h_call (np := 1) (As := [.int x]) hC hTb hK hE hz hX (cp_out hl hT 4 x M σ hM) (by decide) (by decide) rfl ⟨wmL_72, wi_yX11_out, wv_yX11_out, wzX11, wc_yX11_out⟩ hy_yX11_out rfl (Nat.le_of_ble_eq_true rfl) dL_out_4 (fun rv σ' hpo => ?_) (fun E σ' hpx => ?_)
  · obtain ⟨h0, rfl, rfl⟩ := hpo
    refine jg_i2l hC dL_out_7 rfl ?_
    refine h_last hC hK.2.2.2.1 dL_out_8 ?_
    refine jg_goto (tgt := 15) hC dL_out_9 (by decide) ?_
    refine jg_iconst (v := 0) hC dL_out_15 (by decide) ?_
    exact h_iret hC dL_out_16 ⟨h0.symm, fun _ => rfl, rfl⟩
  · obtain ⟨h1, rfl, rfl⟩ := hpx
    refine ⟨[], ⟨0, 9, 12, 25⟩, [], "java/lang/IndexOutOfBoundsException", rfl, fun z hz => absurd hz List.not_mem_nil, rfl, by decide, wk_L_25, hX.1 _ (by decide), fun q => ?_⟩
    refine jg_astore_n hC dL_out_12 rfl (Nat.le_of_ble_eq_true rfl) ?_
    refine jg_iconst (v := 1) hC dL_out_13 (by decide) ?_
    exact h_iret hC dL_out_14 (⟨h1.symm, fun z => absurd (h1.symm.trans z) (by decide), rfl⟩)
theorem hl_count (hl : l.stackTraces = false) (hT : ∀ U H, Ex U H → xT (cw_A ad) U H) (hK : h_K (cw D ca ad ae Ex) z0 qo) (w : Int32) (M : n_M) (σ : n_S) (v : Int64) (hM : RepC M σ) (hI : II M) : h_Ct l (cw D ca ad ae Ex) ca z0 qo 11 yL_count cL_count 4 hhL_count [.ref (ad 0 0), .int w, .ref qo] σ v (fun r σ' v' => r = (u_count M w).1 ∧ ((u_count M w).1 = 0 → v' = (u_count M w).2.toInt64) ∧ σ' = σ) := by
  refine h_ofW rfl (Nat.le_of_ble_eq_true rfl) (fun p e s m below meth c hC hTb hE hz hX => ?_)
  refine jg_aload_n hC dL_count_0 rfl rfl ?_
  refine jg_iconst (v := 0) hC dL_count_1 (by decide) ?_
  refine jg_aload_n hC dL_count_2 rfl rfl ?_
  refine jg_iload_n hC dL_count_3 rfl rfl ?_
  refine h_call (np := 1) (As := [.int w]) hC hTb hK hE hz hX (cp_count hl hT 4 w M σ hM hI.2.1) (by decide) (by decide) rfl ⟨wmL_75, wi_yX11_count, wv_yX11_count, wzX11, wc_yX11_count⟩ hy_yX11_count rfl (Nat.le_of_ble_eq_true rfl) dL_count_4 (fun rv σ' hpo => ?_) (fun E σ' hpx => ?_)
  · obtain ⟨h0, rfl, rfl⟩ := hpo
    refine jg_i2l hC dL_count_7 rfl ?_
    refine h_last hC hK.2.2.2.1 dL_count_8 ?_
    refine jg_goto (tgt := 15) hC dL_count_9 (by decide) ?_
    refine jg_iconst (v := 0) hC dL_count_15 (by decide) ?_
    exact h_iret hC dL_count_16 ⟨h0.symm, fun _ => rfl, rfl⟩
  · obtain ⟨h1, rfl, rfl⟩ := hpx
    refine ⟨[], ⟨0, 9, 12, 25⟩, [], "java/lang/IndexOutOfBoundsException", rfl, fun z hz => absurd hz List.not_mem_nil, rfl, by decide, wk_L_25, hX.1 _ (by decide), fun q => ?_⟩
    refine jg_astore_n hC dL_count_12 rfl (Nat.le_of_ble_eq_true rfl) ?_
    refine jg_iconst (v := 1) hC dL_count_13 (by decide) ?_
    exact h_iret hC dL_count_14 (⟨h1.symm, fun z => absurd (h1.symm.trans z) (by decide), rfl⟩)
end HS
