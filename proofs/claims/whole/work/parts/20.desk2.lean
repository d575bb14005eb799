def m_box (M : n_M) (q : Nat) (x y : Int32) : n_M := m_l (m_l M 2 (2 * q) (M.2 2 (2 * q) ++ [x])) 3 (2 * q) (M.2 3 (2 * q) ++ [y])
def m_del (M : n_M) (q : Nat) (x y : Int32) : n_M := if M.1 0 q = 2 then m_rdy (m_box M q x y) q else m_box M q x y
def m_show (M : n_M) (x : Int32) : n_M := if (M.2 7 0).length < 2000 then m_l M 7 0 (M.2 7 0 ++ [x]) else m_s M 18 0 (M.1 18 0 + 1)
def m_cf (M : n_M) (lo hi : Int32) : Nat → Nat
  | 0 => 0
  | n + 1 => m_cf M lo hi n + (if lo ≤ M.1 0 (n + 1) ∧ M.1 0 (n + 1) ≤ hi then 1 else 0)
def m_pu (M : n_M) : Nat → Nat
  | 0 => 0
  | n + 1 => m_pu M n + (if 0 < M.1 12 n then 1 else 0)
def m_iu (M : n_M) : Nat → Nat
  | 0 => 0
  | n + 1 => m_iu M n + (if 0 < M.1 12 n then (M.2 12 n).length else 0)
def m_wk (k a : Int32) : Int32 := (if (2147483647 : Int64) < k.toInt64 + a.toInt64 then (2147483647 : Int64) else k.toInt64 + a.toInt64).toInt32
def m_min (x y : Int32) : Int32 := if y < x then y else x
def m_slp (M : n_M) (q : Nat) (a : Int32) : n_M := m_susp (m_s M 19 0 (m_min (M.1 19 0) (m_wk (M.1 15 0) a))) q 5 (m_wk (M.1 15 0) a)
theorem wkX2_127 : Cond.constantLong "ShareMonitor$Desk" 127 2147483647 ∈ n_tb := n_in (by decide +kernel) rfl
theorem wkX2_46 : Cond.constant "ShareMonitor$Desk" 46 2147483647 ∈ n_tb := n_in (by decide +kernel) rfl
section DK2
variable {l : Launch} {D : va_G} {ca : Nat → ClassId} {ad : Nat → Nat → Nat} {ae : Nat → Nat} {Ex : State → Heap → Prop}
theorem c_deliver (d q : Nat) (x y : Int32) (M : n_M) (σ : n_S) (hM : RepC M σ) (hq : 1 ≤ q ∧ q ≤ 12) (hlv : m_lvok M q) (hl : M.1 0 q = 2 → (M.2 5 (m_lv M q)).length < 12) : n_Ct l (cw D ca ad ae Ex) (d + 2) yX2_deliver cX2_deliver 4 (some .boolean) [.ref (ad 9 0), .ref (ad 21 q), .int x, .int y] σ (fun rv σ' => (8 ≤ (M.2 2 (2 * q)).length ∧ rv = some (.int 0) ∧ RepC M σ') ∨ ((M.2 2 (2 * q)).length < 8 ∧ rv = some (.int 1) ∧ RepC (m_del M q x y) σ')) := by
  refine n_ofW (by decide) (Nat.le_of_ble_eq_true rfl) ?_
  intro p e s m below meth c hC
  have hd : cw_dom 21 q := hq
  have hb : cw_dom 24 (2 * q) := ⟨by omega, by omega⟩
  refine n_aload_n hC dX2_deliver_0 rfl rfl ?_
  refine g21_box hC (by first | assumption | exact rfl) wfX2_95 dX2_deliver_1 ?_
  refine n_iload_n hC dX2_deliver_4 rfl rfl ?_
  refine n_iload_n hC dX2_deliver_5 rfl rfl ?_
  refine n_callV hC (c_bput d (2 * q) x y M σ hM hb) (by omega) (by decide) (by first | assumption | exact rfl) rfl rfl rfl ⟨wmX2_99, wi_yX1_put, wv_yX1_put, wzX1, wc_yX1_put⟩ hy_yX1_put rfl (Nat.le_of_ble_eq_true rfl) dX2_deliver_6 (fun rv σ' hpo => ?_)
  rcases hpo with ⟨h8, rfl, hM1⟩ | ⟨h8, rfl, hM1⟩
  · refine n_if_ne (tgt := 14) hC dX2_deliver_9 (by decide) (fun h => ?_) (fun h => ?_)
    · exact absurd rfl h
    · refine n_iconst (v := 0) hC dX2_deliver_12 (by decide) ?_
      refine n_zret hC dX2_deliver_13 rfl ?_
      exact Or.inl ⟨h8, rfl, hM1⟩
  · refine n_if_ne (tgt := 14) hC dX2_deliver_9 (by decide) (fun h => ?_) (fun h => ?_)
    · clear h
      refine n_aload_n hC dX2_deliver_14 rfl rfl ?_
      refine g21_status hC (by first | assumption | exact rfl) wfX2_66 dX2_deliver_15 ?_
      rw [show σ' 21 q 7 = M.1 0 q from hM1.1 0 q hq]
      refine n_iconst (v := 2) hC dX2_deliver_18 (by decide) ?_
      refine n_icmp_ne (tgt := 27) hC dX2_deliver_19 (by decide) (fun h => ?_) (fun h => ?_)
      · refine n_iconst (v := 1) hC dX2_deliver_27 (by decide) ?_
        refine n_zret hC dX2_deliver_28 rfl ?_
        refine Or.inr ⟨h8, rfl, ?_⟩
        unfold m_del
        rw [if_neg h]
        exact hM1
      · refine n_aload_n hC dX2_deliver_22 rfl rfl ?_
        refine n_aload_n hC dX2_deliver_23 rfl rfl ?_
        refine n_callV hC (c_makeReady d q (m_box M q x y) _ hM1 hq hlv (hl h)) (by omega) (by decide) (by first | assumption | exact rfl) rfl rfl rfl ⟨wmX2_79, wi_yX2_makeReady, wv_yX2_makeReady, wzX2, wc_yX2_makeReady⟩ hy_yX2_makeReady rfl (Nat.le_of_ble_eq_true rfl) dX2_deliver_24 (fun rv σ' hpo => ?_)
        obtain ⟨rfl, hM2⟩ := hpo
        refine n_iconst (v := 1) hC dX2_deliver_27 (by decide) ?_
        refine n_zret hC dX2_deliver_28 rfl ?_
        refine Or.inr ⟨h8, rfl, ?_⟩
        unfold m_del
        rw [if_pos h]
        exact hM2
    · exact absurd h (by decide)
theorem c_show (d : Nat) (x : Int32) (M : n_M) (σ : n_S) (hM : RepC M σ) : n_Ct l (cw D ca ad ae Ex) d yX2_show cX2_show 2 none [.ref (ad 9 0), .int x] σ (fun rv σ' => rv = none ∧ RepC (m_show M x) σ') := by
  obtain ⟨h1, h2, h3⟩ := hM.2 7 0 rfl
  have h1 : (M.2 7 0).length ≤ 2000 := h1
  have e1 : σ 9 0 7 = nI (M.2 7 0).length := h2
  have e3 : σ 9 0 8 = M.1 18 0 := hM.1 18 0 rfl
  refine n_ofW (by decide) (Nat.le_of_ble_eq_true rfl) ?_
  intro p e s m below meth c hC
  refine n_aload_n hC dX2_show_0 rfl rfl ?_
  refine g9_shown hC (by first | assumption | exact rfl) wfX2_105 dX2_show_1 ?_
  rw [e1]
  refine n_sipush (v := 2000) hC dX2_show_4 (by decide) ?_
  refine n_icmp_ge (tgt := 33) hC dX2_show_7 (by decide) (fun h => ?_) (fun h => ?_)
  · have hlt : ¬ (M.2 7 0).length < 2000 := fun q => nI_ge (b := 2000) q (by decide) h
    refine n_aload_n hC dX2_show_33 rfl rfl ?_
    refine n_dup hC dX2_show_34 rfl ?_
    refine g9_lost hC (by first | assumption | exact rfl) wfX2_108 dX2_show_35 ?_
    rw [e3]
    refine n_iconst (v := 1) hC dX2_show_38 (by decide) ?_
    refine n_iadd hC dX2_show_39 ?_
    refine p9_lost hC (by first | assumption | exact rfl) wfX2_108 dX2_show_40 ?_
    refine n_vret hC dX2_show_43 ?_
    refine ⟨rfl, ?_⟩
    unfold m_show
    rw [if_neg hlt]
    exact cu_18 hM rfl
  · have hlt : (M.2 7 0).length < 2000 := Nat.lt_of_not_le fun q => h (nI_le (a := 2000) q (by omega))
    have e2 : (nI (M.2 7 0).length).toNatClampNeg = (M.2 7 0).length := nI_clamp (by omega)
    refine n_aload_n hC dX2_show_10 rfl rfl ?_
    refine g9_console hC (by first | assumption | exact rfl) wfX2_43 dX2_show_11 ?_
    refine n_aload_n hC dX2_show_14 rfl rfl ?_
    refine g9_shown hC (by first | assumption | exact rfl) wfX2_105 dX2_show_15 ?_
    refine n_iload_n hC dX2_show_18 rfl rfl ?_
    rw [e1]
    refine c_iast hC (by first | assumption | exact rfl) (fun _ => rfl) (by first | assumption | exact vp_in_nI (by omega) (by decide)) dX2_show_19 ?_
    refine n_aload_n hC dX2_show_20 rfl rfl ?_
    refine n_dup hC dX2_show_21 rfl ?_
    refine g9_shown hC (by first | assumption | exact rfl) wfX2_105 dX2_show_22 ?_
    rw [n_up_k, if_neg (by omega), e1]
    refine n_iconst (v := 1) hC dX2_show_25 (by decide) ?_
    refine n_iadd hC dX2_show_26 ?_
    refine p9_shown hC (by first | assumption | exact rfl) wfX2_105 dX2_show_27 ?_
    refine n_goto (tgt := 43) hC dX2_show_30 (by decide) ?_
    refine n_vret hC dX2_show_43 ?_
    refine ⟨rfl, ?_⟩
    unfold m_show
    rw [if_pos hlt, e2]
    refine cl_7 hM rfl (fun κ i k a b => ?_) ?_ ?_ ?_
    · simp only [n_up_k]
      repeat (first | rfl | rw [if_neg (by omega)])
    · rw [n_up_k, if_pos ⟨rfl, rfl, rfl⟩]
      simp [nI_1]
    · simp; omega
    · rw [n_up_ne (by omega), n_up_at]
      exact n_h_push h3
theorem c_firstReady (d : Nat) (M : n_M) (σ : n_S) (hM : RepC M σ) (hv : ∀ r, r < 3 → ∀ x ∈ M.2 5 r, ∃ q, (1 ≤ q ∧ q ≤ 12) ∧ x = nI q) : n_Ct l (cw D ca ad ae Ex) (d + 1) yX2_firstReady cX2_firstReady 2 (some (.object "ShareMonitor$UserProcess")) [.ref (ad 9 0)] σ (fun rv σ' => ((∃ r q t, r < 3 ∧ (∀ r', r' < r → M.2 5 r' = []) ∧ (1 ≤ q ∧ q ≤ 12) ∧ M.2 5 r = nI q :: t ∧ rv = some (.ref (ad 21 q))) ∨ ((∀ r', r' < 3 → M.2 5 r' = []) ∧ rv = some .null)) ∧ σ' = σ) := by
  refine n_ofW (by decide) (Nat.le_of_ble_eq_true rfl) ?_
  intro p e s m below meth c hC
  have loop : ∀ (n k : Nat), n + k = 3 → (∀ r', r' < k → M.2 5 r' = []) →
      n_W p l e s m [Value.ref (ad 9 0)].toArray below meth c (cw D ca ad ae Ex) (d + 1) (fun rv σ' => ((∃ r q t, r < 3 ∧ (∀ r', r' < r → M.2 5 r' = []) ∧ (1 ≤ q ∧ q ≤ 12) ∧ M.2 5 r = nI q :: t ∧ rv = some (.ref (ad 21 q))) ∨ ((∀ r', r' < 3 → M.2 5 r' = []) ∧ rv = some .null)) ∧ σ' = σ) 2 [some (.ref (ad 9 0)), some (.int (nI k))] [] σ := by
    intro n
    induction n with
    | zero =>
      intro k hk hf
      have : k = 3 := by omega
      subst this
      refine n_iload_n hC dX2_firstReady_2 rfl rfl ?_
      refine n_iconst (v := 3) hC dX2_firstReady_3 (by decide) ?_
      refine n_icmp_ge (tgt := 39) hC dX2_firstReady_4 (by decide) (fun h => ?_) (fun h => ?_)
      · refine n_null hC dX2_firstReady_39 ?_
        refine n_aret hC (by first | exact Or.inl rfl | exact Or.inr ⟨_, rfl⟩) dX2_firstReady_40 ?_
        exact ⟨Or.inr ⟨hf, rfl⟩, rfl⟩
      · exact absurd (by decide) h
    | succ n ih =>
      intro k hk hf
      have hk3 : k < 3 := by omega
      have hk11 : k < 11 := by omega
      have hd : cw_dom 31 k := hk11
      obtain ⟨h1, h2, h3⟩ := hM.2 5 k hk11
      have h1 : (M.2 5 k).length ≤ 12 := h1
      have e1 : σ 31 k 1 = nI (M.2 5 k).length := h2
      refine n_iload_n hC dX2_firstReady_2 rfl rfl ?_
      refine n_iconst (v := 3) hC dX2_firstReady_3 (by decide) ?_
      refine n_icmp_ge (tgt := 39) hC dX2_firstReady_4 (by decide) (fun h => ?_) (fun h => ?_)
      · exact absurd h (nI_ge (b := 3) hk3 (by decide))
      · clear h
        refine n_aload_n hC dX2_firstReady_7 rfl rfl ?_
        refine g9_rows hC (by first | assumption | exact rfl) wfX2_25 dX2_firstReady_8 ?_
        refine n_iload_n hC dX2_firstReady_11 rfl rfl ?_
        first | refine a_rows hC (by omega) dX2_firstReady_12 ?_ | refine a_queues hC (by omega) dX2_firstReady_12 ?_ | refine a_procs hC (by omega) dX2_firstReady_12 ?_ | refine a_progs hC (by omega) dX2_firstReady_12 ?_
        refine g31_size hC (by first | assumption | exact rfl) wfX2_142 dX2_firstReady_13 ?_
        rw [e1]
        cases hL : M.2 5 k with
        | nil =>
          refine n_if_le (tgt := 33) hC dX2_firstReady_16 (by decide) (fun h => ?_) (fun h => ?_)
          · refine n_iinc hC dX2_firstReady_33 rfl (show _ + Int32.ofInt 1 = _ + 1 from rfl) ?_
            refine n_goto (tgt := 2) hC dX2_firstReady_36 (by decide) ?_
            rw [nI_1]
            refine ih (k + 1) (by omega) (fun r' hr' => ?_)
            by_cases z : r' = k
            · subst z; exact hL
            · exact hf r' (by omega)
          · exact absurd (by decide) h
        | cons a t =>
          rw [hL] at h1
          refine n_if_le (tgt := 33) hC dX2_firstReady_16 (by decide) (fun h => ?_) (fun h => ?_)
          · exact absurd h (nI_nle (by simp) (by omega))
          · clear h
            refine n_aload_n hC dX2_firstReady_19 rfl rfl ?_
            refine n_aload_n hC dX2_firstReady_20 rfl rfl ?_
            refine g9_rows hC (by first | assumption | exact rfl) wfX2_25 dX2_firstReady_21 ?_
            refine n_iload_n hC dX2_firstReady_24 rfl rfl ?_
            first | refine a_rows hC (by omega) dX2_firstReady_25 ?_ | refine a_queues hC (by omega) dX2_firstReady_25 ?_ | refine a_procs hC (by omega) dX2_firstReady_25 ?_ | refine a_progs hC (by omega) dX2_firstReady_25 ?_
            refine n_callV hC (c_first d k M σ hM hk11) (Nat.le_refl _) (by decide) (by first | assumption | exact rfl) rfl rfl rfl ⟨wmX2_145, wi_yX7_first, wv_yX7_first, wzX7, wc_yX7_first⟩ hy_yX7_first rfl (Nat.le_of_ble_eq_true rfl) dX2_firstReady_26 (fun rv σ' hpo => ?_)
            obtain ⟨rfl, rfl⟩ := hpo
            rw [hL]
            obtain ⟨q, hq, rfl⟩ := hv k hk3 a (by rw [hL]; exact List.mem_cons_self)
            refine n_callV hC (c_find d (nI q) σ') (Nat.le_refl _) (by decide) (by first | assumption | exact rfl) rfl rfl rfl ⟨wmX2_56, wi_yX2_find, wv_yX2_find, wzX2, wc_yX2_find⟩ hy_yX2_find rfl (Nat.le_of_ble_eq_true rfl) dX2_firstReady_29 (fun rv σ' hpo => ?_)
            obtain ⟨hpo, rfl⟩ := hpo
            rcases hpo with ⟨q2, hq2, e5, rfl⟩ | ⟨hx, rfl⟩
            · have : q2 = q := ((nI_eq (by omega) (by omega)).mp e5).symm
              subst this
              refine n_aret hC (by first | exact Or.inl rfl | exact Or.inr ⟨_, rfl⟩) dX2_firstReady_32 ?_
              exact ⟨Or.inl ⟨k, q2, t, hk3, hf, hq, hL, rfl⟩, rfl⟩
            · exact absurd ⟨nI_le (a := 1) (by omega) (by omega), nI_le (b := 12) (by omega) (by omega)⟩ hx
  refine n_iconst (v := 0) hC dX2_firstReady_0 (by decide) ?_
  refine n_istore_n hC dX2_firstReady_1 rfl (Nat.le_of_ble_eq_true rfl) ?_
  exact loop 3 0 rfl (fun r a => by omega)
theorem c_countFrom (d : Nat) (lo hi : Int32) (M : n_M) (σ : n_S) (hM : RepC M σ) : n_Ct l (cw D ca ad ae Ex) d yX2_countFrom cX2_countFrom 5 (some .int) [.ref (ad 9 0), .int lo, .int hi] σ (fun rv σ' => rv = some (.int (nI (m_cf M lo hi 12))) ∧ σ' = σ) := by
  refine n_ofW (by decide) (Nat.le_of_ble_eq_true rfl) ?_
  intro p e s m below meth c hC
  have loop : ∀ (n k : Nat), n + k = 12 →
      n_W p l e s m [Value.ref (ad 9 0), Value.int lo, Value.int hi].toArray below meth c (cw D ca ad ae Ex) d (fun rv σ' => rv = some (.int (nI (m_cf M lo hi 12))) ∧ σ' = σ) 5 [some (.ref (ad 9 0)), some (.int lo), some (.int hi), some (.int (nI (m_cf M lo hi k))), some (.int (nI (k + 1)))] [] σ := by
    intro n
    induction n with
    | zero =>
      intro k hk
      have : k = 12 := by omega
      subst this
      refine n_iload hC dX2_countFrom_5 rfl ?_
      refine n_bipush (v := 12) hC dX2_countFrom_7 (by decide) ?_
      refine n_icmp_gt (tgt := 49) hC dX2_countFrom_9 (by decide) (fun h => ?_) (fun h => ?_)
      · refine n_iload_n hC dX2_countFrom_49 rfl rfl ?_
        refine n_iret hC dX2_countFrom_50 ?_
        exact ⟨rfl, rfl⟩
      · exact absurd (by decide) h
    | succ n ih =>
      intro k hk
      have hq : 1 ≤ k + 1 ∧ k + 1 ≤ 12 := by omega
      have hd : cw_dom 21 (k + 1) := hq
      have e1 : σ 21 (k + 1) 7 = M.1 0 (k + 1) := hM.1 0 (k + 1) hq
      have step : ∀ x : Nat, x = m_cf M lo hi (k + 1) → n_W p l e s m [Value.ref (ad 9 0), Value.int lo, Value.int hi].toArray below meth c (cw D ca ad ae Ex) d (fun rv σ' => rv = some (.int (nI (m_cf M lo hi 12))) ∧ σ' = σ) 43 [some (.ref (ad 9 0)), some (.int lo), some (.int hi), some (.int (nI x)), some (.int (nI (k + 1)))] [] σ := by
        intro x hx
        subst hx
        refine n_iinc hC dX2_countFrom_43 rfl (show _ + Int32.ofInt 1 = _ + 1 from rfl) ?_
        refine n_goto (tgt := 5) hC dX2_countFrom_46 (by decide) ?_
        rw [nI_1]
        exact ih (k + 1) (by omega)
      refine n_iload hC dX2_countFrom_5 rfl ?_
      refine n_bipush (v := 12) hC dX2_countFrom_7 (by decide) ?_
      refine n_icmp_gt (tgt := 49) hC dX2_countFrom_9 (by decide) (fun h => ?_) (fun h => ?_)
      · exact absurd h (nI_nlt (a := 12) (by omega) (by decide))
      · clear h
        refine n_aload_n hC dX2_countFrom_12 rfl rfl ?_
        refine g9_processes hC (by first | assumption | exact rfl) wfX2_11 dX2_countFrom_13 ?_
        refine n_iload hC dX2_countFrom_16 rfl ?_
        first | refine a_rows hC (by omega) dX2_countFrom_18 ?_ | refine a_queues hC (by omega) dX2_countFrom_18 ?_ | refine a_procs hC (by omega) dX2_countFrom_18 ?_ | refine a_progs hC (by omega) dX2_countFrom_18 ?_
        refine g21_status hC (by first | assumption | exact rfl) wfX2_66 dX2_countFrom_19 ?_
        rw [e1]
        refine n_iload_n hC dX2_countFrom_22 rfl rfl ?_
        refine n_icmp_lt (tgt := 43) hC dX2_countFrom_23 (by decide) (fun h => ?_) (fun h => ?_)
        · exact step _ (by simp only [m_cf]; rw [if_neg (fun z => absurd z.1 (Int32.not_le.mpr h))]; rfl)
        · have h0 := h
          clear h
          refine n_aload_n hC dX2_countFrom_26 rfl rfl ?_
          refine g9_processes hC (by first | assumption | exact rfl) wfX2_11 dX2_countFrom_27 ?_
          refine n_iload hC dX2_countFrom_30 rfl ?_
          first | refine a_rows hC (by omega) dX2_countFrom_32 ?_ | refine a_queues hC (by omega) dX2_countFrom_32 ?_ | refine a_procs hC (by omega) dX2_countFrom_32 ?_ | refine a_progs hC (by omega) dX2_countFrom_32 ?_
          refine g21_status hC (by first | assumption | exact rfl) wfX2_66 dX2_countFrom_33 ?_
          rw [e1]
          refine n_iload_n hC dX2_countFrom_36 rfl rfl ?_
          refine n_icmp_gt (tgt := 43) hC dX2_countFrom_37 (by decide) (fun h => ?_) (fun h => ?_)
          · exact step _ (by simp only [m_cf]; rw [if_neg (fun z => absurd z.2 (Int32.not_le.mpr h))]; rfl)
          · refine n_iinc hC dX2_countFrom_40 rfl (show _ + Int32.ofInt 1 = _ + 1 from rfl) ?_
            rw [nI_1]
            exact step _ (by simp only [m_cf]; rw [if_pos ⟨Int32.not_lt.mp h0, Int32.not_lt.mp h⟩])
  refine n_iconst (v := 0) hC dX2_countFrom_0 (by decide) ?_
  refine n_istore_n hC dX2_countFrom_1 rfl (Nat.le_of_ble_eq_true rfl) ?_
  refine n_iconst (v := 1) hC dX2_countFrom_2 (by decide) ?_
  refine n_istore hC dX2_countFrom_3 (Nat.le_of_ble_eq_true rfl) ?_
  exact loop 12 0 rfl
theorem c_programsInUse (d : Nat) (M : n_M) (σ : n_S) (hM : RepC M σ) : n_Ct l (cw D ca ad ae Ex) d yX2_programsInUse cX2_programsInUse 3 (some .int) [.ref (ad 9 0)] σ (fun rv σ' => rv = some (.int (nI (m_pu M 12))) ∧ σ' = σ) := by
  refine n_ofW (by decide) (Nat.le_of_ble_eq_true rfl) ?_
  intro p e s m below meth c hC
  have loop : ∀ (n k : Nat), n + k = 12 →
      n_W p l e s m [Value.ref (ad 9 0)].toArray below meth c (cw D ca ad ae Ex) d (fun rv σ' => rv = some (.int (nI (m_pu M 12))) ∧ σ' = σ) 4 [some (.ref (ad 9 0)), some (.int (nI (m_pu M k))), some (.int (nI k))] [] σ := by
    intro n
    induction n with
    | zero =>
      intro k hk
      have : k = 12 := by omega
      subst this
      refine n_iload_n hC dX2_programsInUse_4 rfl rfl ?_
      refine n_bipush (v := 12) hC dX2_programsInUse_5 (by decide) ?_
      refine n_icmp_ge (tgt := 31) hC dX2_programsInUse_7 (by decide) (fun h => ?_) (fun h => ?_)
      · refine n_iload_n hC dX2_programsInUse_31 rfl rfl ?_
        refine n_iret hC dX2_programsInUse_32 ?_
        exact ⟨rfl, rfl⟩
      · exact absurd (by decide) h
    | succ n ih =>
      intro k hk
      have hq : k < 12 := by omega
      have hd : cw_dom 28 k := hq
      have e1 : σ 28 k 3 = M.1 12 k := hM.1 12 k hq
      refine n_iload_n hC dX2_programsInUse_4 rfl rfl ?_
      refine n_bipush (v := 12) hC dX2_programsInUse_5 (by decide) ?_
      refine n_icmp_ge (tgt := 31) hC dX2_programsInUse_7 (by decide) (fun h => ?_) (fun h => ?_)
      · exact absurd h (nI_ge (b := 12) hq (by decide))
      · clear h
        refine n_aload_n hC dX2_programsInUse_10 rfl rfl ?_
        refine g9_programs hC (by first | assumption | exact rfl) wfX2_19 dX2_programsInUse_11 ?_
        refine n_iload_n hC dX2_programsInUse_14 rfl rfl ?_
        first | refine a_rows hC (by omega) dX2_programsInUse_15 ?_ | refine a_queues hC (by omega) dX2_programsInUse_15 ?_ | refine a_procs hC (by omega) dX2_programsInUse_15 ?_ | refine a_progs hC (by omega) dX2_programsInUse_15 ?_
        refine g28_users hC (by first | assumption | exact rfl) wfX2_69 dX2_programsInUse_16 ?_
        rw [e1]
        refine n_if_le (tgt := 25) hC dX2_programsInUse_19 (by decide) (fun h => ?_) (fun h => ?_)
        · refine n_iinc hC dX2_programsInUse_25 rfl (show _ + Int32.ofInt 1 = _ + 1 from rfl) ?_
          refine n_goto (tgt := 4) hC dX2_programsInUse_28 (by decide) ?_
          rw [nI_1]
          have := ih (k + 1) (by omega)
          simp only [m_pu] at this
          rw [if_neg (Int32.not_lt.mpr h)] at this
          exact this
        · refine n_iinc hC dX2_programsInUse_22 rfl (show _ + Int32.ofInt 1 = _ + 1 from rfl) ?_
          refine n_iinc hC dX2_programsInUse_25 rfl (show _ + Int32.ofInt 1 = _ + 1 from rfl) ?_
          refine n_goto (tgt := 4) hC dX2_programsInUse_28 (by decide) ?_
          rw [nI_1, nI_1]
          have := ih (k + 1) (by omega)
          simp only [m_pu] at this
          rw [if_pos (Int32.not_le.mp h)] at this
          exact this
  refine n_iconst (v := 0) hC dX2_programsInUse_0 (by decide) ?_
  refine n_istore_n hC dX2_programsInUse_1 rfl (Nat.le_of_ble_eq_true rfl) ?_
  refine n_iconst (v := 0) hC dX2_programsInUse_2 (by decide) ?_
  refine n_istore_n hC dX2_programsInUse_3 rfl (Nat.le_of_ble_eq_true rfl) ?_
  exact loop 12 0 rfl
theorem c_instructionsInUse (d : Nat) (M : n_M) (σ : n_S) (hM : RepC M σ) : n_Ct l (cw D ca ad ae Ex) d yX2_instructionsInUse cX2_instructionsInUse 3 (some .int) [.ref (ad 9 0)] σ (fun rv σ' => rv = some (.int (nI (m_iu M 12))) ∧ σ' = σ) := by
  refine n_ofW (by decide) (Nat.le_of_ble_eq_true rfl) ?_
  intro p e s m below meth c hC
  have loop : ∀ (n k : Nat), n + k = 12 →
      n_W p l e s m [Value.ref (ad 9 0)].toArray below meth c (cw D ca ad ae Ex) d (fun rv σ' => rv = some (.int (nI (m_iu M 12))) ∧ σ' = σ) 4 [some (.ref (ad 9 0)), some (.int (nI (m_iu M k))), some (.int (nI k))] [] σ := by
    intro n
    induction n with
    | zero =>
      intro k hk
      have : k = 12 := by omega
      subst this
      refine n_iload_n hC dX2_instructionsInUse_4 rfl rfl ?_
      refine n_bipush (v := 12) hC dX2_instructionsInUse_5 (by decide) ?_
      refine n_icmp_ge (tgt := 40) hC dX2_instructionsInUse_7 (by decide) (fun h => ?_) (fun h => ?_)
      · refine n_iload_n hC dX2_instructionsInUse_40 rfl rfl ?_
        refine n_iret hC dX2_instructionsInUse_41 ?_
        exact ⟨rfl, rfl⟩
      · exact absurd (by decide) h
    | succ n ih =>
      intro k hk
      have hq : k < 12 := by omega
      have hd : cw_dom 28 k := hq
      have e1 : σ 28 k 3 = M.1 12 k := hM.1 12 k hq
      have e2 : σ 28 k 2 = nI (M.2 12 k).length := (hM.2 12 k hq).2.1
      refine n_iload_n hC dX2_instructionsInUse_4 rfl rfl ?_
      refine n_bipush (v := 12) hC dX2_instructionsInUse_5 (by decide) ?_
      refine n_icmp_ge (tgt := 40) hC dX2_instructionsInUse_7 (by decide) (fun h => ?_) (fun h => ?_)
      · exact absurd h (nI_ge (b := 12) hq (by decide))
      · clear h
        refine n_aload_n hC dX2_instructionsInUse_10 rfl rfl ?_
        refine g9_programs hC (by first | assumption | exact rfl) wfX2_19 dX2_instructionsInUse_11 ?_
        refine n_iload_n hC dX2_instructionsInUse_14 rfl rfl ?_
        first | refine a_rows hC (by omega) dX2_instructionsInUse_15 ?_ | refine a_queues hC (by omega) dX2_instructionsInUse_15 ?_ | refine a_procs hC (by omega) dX2_instructionsInUse_15 ?_ | refine a_progs hC (by omega) dX2_instructionsInUse_15 ?_
        refine g28_users hC (by first | assumption | exact rfl) wfX2_69 dX2_instructionsInUse_16 ?_
        rw [e1]
        refine n_if_le (tgt := 34) hC dX2_instructionsInUse_19 (by decide) (fun h => ?_) (fun h => ?_)
        · refine n_iinc hC dX2_instructionsInUse_34 rfl (show _ + Int32.ofInt 1 = _ + 1 from rfl) ?_
          refine n_goto (tgt := 4) hC dX2_instructionsInUse_37 (by decide) ?_
          rw [nI_1]
          have := ih (k + 1) (by omega)
          simp only [m_iu] at this
          rw [if_neg (Int32.not_lt.mpr h)] at this
          exact this
        · refine n_iload_n hC dX2_instructionsInUse_22 rfl rfl ?_
          refine n_aload_n hC dX2_instructionsInUse_23 rfl rfl ?_
          refine g9_programs hC (by first | assumption | exact rfl) wfX2_19 dX2_instructionsInUse_24 ?_
          refine n_iload_n hC dX2_instructionsInUse_27 rfl rfl ?_
          first | refine a_rows hC (by omega) dX2_instructionsInUse_28 ?_ | refine a_queues hC (by omega) dX2_instructionsInUse_28 ?_ | refine a_procs hC (by omega) dX2_instructionsInUse_28 ?_ | refine a_progs hC (by omega) dX2_instructionsInUse_28 ?_
          refine g28_size hC (by first | assumption | exact rfl) wfX2_149 dX2_instructionsInUse_29 ?_
          rw [e2]
          refine n_iadd hC dX2_instructionsInUse_32 ?_
          refine n_istore_n hC dX2_instructionsInUse_33 rfl (Nat.le_of_ble_eq_true rfl) ?_
          refine n_iinc hC dX2_instructionsInUse_34 rfl (show _ + Int32.ofInt 1 = _ + 1 from rfl) ?_
          refine n_goto (tgt := 4) hC dX2_instructionsInUse_37 (by decide) ?_
          rw [nI_1, nI_add]
          have := ih (k + 1) (by omega)
          simp only [m_iu] at this
          rw [if_pos (Int32.not_le.mp h)] at this
          exact this
  refine n_iconst (v := 0) hC dX2_instructionsInUse_0 (by decide) ?_
  refine n_istore_n hC dX2_instructionsInUse_1 rfl (Nat.le_of_ble_eq_true rfl) ?_
  refine n_iconst (v := 0) hC dX2_instructionsInUse_2 (by decide) ?_
  refine n_istore_n hC dX2_instructionsInUse_3 rfl (Nat.le_of_ble_eq_true rfl) ?_
  exact loop 12 0 rfl
theorem c_putToSleep (d q : Nat) (a : Int32) (M : n_M) (σ : n_S) (hM : RepC M σ) (hq : 1 ≤ q ∧ q ≤ 12) (hlv : m_lvok M q) : n_Ct l (cw D ca ad ae Ex) (d + 2) yX2_putToSleep cX2_putToSleep 4 none [.ref (ad 9 0), .ref (ad 21 q), .int a] σ (fun rv σ' => rv = none ∧ RepC (m_slp M q a) σ') := by
  have e1 : σ 9 0 9 = M.1 15 0 := hM.1 15 0 rfl
  have e2 : σ 9 0 10 = M.1 19 0 := hM.1 19 0 rfl
  refine n_ofW (by decide) (Nat.le_of_ble_eq_true rfl) ?_
  intro p e s m below meth c hC
  have hd : cw_dom 21 q := hq
  refine n_aload_n hC dX2_putToSleep_0 rfl rfl ?_
  refine g9_clock hC (by first | assumption | exact rfl) wfX2_124 dX2_putToSleep_1 ?_
  rw [e1]
  refine n_i2l hC dX2_putToSleep_4 rfl ?_
  refine n_iload_n hC dX2_putToSleep_5 rfl rfl ?_
  refine n_i2l hC dX2_putToSleep_6 rfl ?_
  refine n_ladd hC dX2_putToSleep_7 ?_
  refine n_ldc2 hC wkX2_127 dX2_putToSleep_8 ?_
  refine n_lmin hC wmX2_129 (Nat.le_of_ble_eq_true rfl) dX2_putToSleep_11 ?_
  refine n_l2i hC dX2_putToSleep_14 rfl ?_
  refine n_istore_n hC dX2_putToSleep_15 rfl (Nat.le_of_ble_eq_true rfl) ?_
  refine n_aload_n hC dX2_putToSleep_16 rfl rfl ?_
  refine n_aload_n hC dX2_putToSleep_17 rfl rfl ?_
  refine g9_soonest hC (by first | assumption | exact rfl) wfX2_47 dX2_putToSleep_18 ?_
  rw [e2]
  refine n_iload_n hC dX2_putToSleep_21 rfl rfl ?_
  refine n_mmin hC wmX2_135 (Nat.le_of_ble_eq_true rfl) dX2_putToSleep_22 ?_
  refine p9_soonest hC (by first | assumption | exact rfl) wfX2_47 dX2_putToSleep_25 ?_
  refine n_aload_n hC dX2_putToSleep_28 rfl rfl ?_
  refine n_aload_n hC dX2_putToSleep_29 rfl rfl ?_
  refine n_iconst (v := 5) hC dX2_putToSleep_30 (by decide) ?_
  refine n_iload_n hC dX2_putToSleep_31 rfl rfl ?_
  refine n_callV hC (c_suspend d q 5 (m_wk (M.1 15 0) a) _ _ (cu_19 (v := m_min (M.1 19 0) (m_wk (M.1 15 0) a)) hM rfl) hq hlv) (by omega) (by decide) (by first | assumption | exact rfl) rfl rfl rfl ⟨wmX2_138, wi_yX2_suspend, wv_yX2_suspend, wzX2, wc_yX2_suspend⟩ hy_yX2_suspend rfl (Nat.le_of_ble_eq_true rfl) dX2_putToSleep_32 (fun rv σ' hpo => ?_)
  obtain ⟨rfl, hM2⟩ := hpo
  refine n_vret hC dX2_putToSleep_35 ?_
  exact ⟨rfl, hM2⟩
end DK2
