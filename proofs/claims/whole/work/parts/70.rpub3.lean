def m_runs : Nat → n_M → Nat → n_M → Prop
  | 0, M, a, M' => a = 0 ∧ M' = M
  | n + 1, M, a, M' => ∃ v M1 b, m_tick M v M1 ∧ m_runs n M1 b M' ∧ a = b + (if v = -1 then 0 else 1)
theorem m_runs_det : ∀ (n : Nat) {M M' M2 : n_M} {a a2 : Nat} (c : Nat), II M → M.1 15 0 = nI c → c + n < 2147483646 → m_runs n M a M' → m_runs n M a2 M2 → a = a2 ∧ M' = M2
  | 0, M, M', M2, a, a2, _, _, _, _, h, h2 => ⟨h.1.trans h2.1.symm, h.2.trans h2.2.symm⟩
  | n + 1, M, M', M2, a, a2, c, hI, hc, hb, h, h2 => by
    obtain ⟨v, M1, b, t1, r1, e1⟩ := h
    obtain ⟨v', M1', b', t2, r2, e2⟩ := h2
    obtain ⟨rfl, rfl⟩ := m_tick_det hI t1 t2
    have h15 : M1.1 15 0 = nI (c + 1) := by rw [m_tick_15 t1, hc, nI_1]
    have hlt : M.1 15 0 + 1 < 2147483647 := by
      rw [hc, nI_1]
      exact (nI_ltI (b := 2147483647) (by omega) (by omega)).mpr (by omega)
    obtain ⟨rfl, rfl⟩ := m_runs_det n (c + 1) (II_tick hI hlt t1) h15 (by omega) r1 r2
    exact ⟨e1.trans e2.symm, rfl⟩
def m_kb (M : n_M) (q : Nat) (x : Int32) : n_M := m_l (m_l M 2 (2 * q + 1) (M.2 2 (2 * q + 1) ++ [x])) 3 (2 * q + 1) (M.2 3 (2 * q + 1) ++ [0])
def m_key (M : n_M) (q : Nat) (x : Int32) : n_M := if M.1 0 q = 4 then m_rdy (m_kb M q x) q else m_kb M q x
def u_al (M : n_M) (q : Nat) : Bool := decide (1 ≤ M.1 0 q) && decide (M.1 0 q ≤ 6)
theorem u_al_i (M : n_M) (q : Nat) : u_al M q = true ↔ m_al M q := by
  unfold u_al m_al
  simp
/-- the calls that change something: code, answer, state -/
def u_kill (M : n_M) (x : Int32) : Int32 × Int32 × n_M := if ¬ x < 1 ∧ ¬ 12 < x then (if u_al M x.toNatClampNeg = true then (0, 1, m_fin M x.toNatClampNeg (-1)) else (0, 0, M)) else (1, 0, M)
def u_reap (M : n_M) (x : Int32) : Int32 × Int32 × n_M := if ¬ x < 1 ∧ ¬ 12 < x then (if M.1 0 x.toNatClampNeg = 7 ∧ M.1 3 x.toNatClampNeg = 0 then (0, M.1 1 x.toNatClampNeg, m_van M x.toNatClampNeg) else (2, 0, M)) else (1, 0, M)
def u_key (M : n_M) (x y : Int32) : Int32 × Int32 × n_M := if ¬ x < 1 ∧ ¬ 12 < x then (if u_al M x.toNatClampNeg = true then (if (M.2 2 (2 * x.toNatClampNeg + 1)).length < 8 then (0, 1, m_key M x.toNatClampNeg y) else (0, 0, M)) else (2, 0, M)) else (1, 0, M)
def u_post (M : n_M) (x y : Int32) : Int32 × Int32 × n_M := if ¬ x < 1 ∧ ¬ 12 < x then (if u_al M x.toNatClampNeg = true then (if (M.2 2 (2 * x.toNatClampNeg)).length < 8 then (0, 1, m_del M x.toNatClampNeg y 0) else (0, 0, M)) else (2, 0, M)) else (1, 0, M)
def u_quantum (M : n_M) (x : Int32) : Int32 × Int32 × n_M := if ¬ x < 1 ∧ ¬ 100 < x then (0, M.1 16 0, m_s M 16 0 x) else (1, 0, M)
def u_end (M : n_M) (x : Int32) : Int32 × n_M := if ¬ x < 0 ∧ x ≤ nI (M.2 8 0).length then (0, m_l M 8 0 ((M.2 8 0).take x.toNatClampNeg)) else (1, M)
def m_byt (a s : Int32) : Int32 := (a >>> (s &&& 31)).toInt8.toInt32.toInt8.toInt32
def m_fb (a b c d e : Int32) (k : Nat) : Int32 := m_byt (if k < 4 then a else if k < 8 then b else if k < 12 then c else if k < 16 then d else e) (24 - 8 * (nI k &&& 3))
def u_feed (M : n_M) (a b c d e : Int32) : Int32 × Int32 × n_M := if (M.2 8 0).length + 20 ≤ 8192 then (0, nI ((M.2 8 0).length + 20), m_l M 8 0 (M.2 8 0 ++ (List.range 20).map (m_fb a b c d e))) else (1, 0, M)
theorem IW_van12 {M : n_M} (hI : IW M) {r : Nat} (hr : n_V r) (h7 : M.1 0 r = 7) {j : Nat} (hp : 0 < (m_van M r).1 12 j) (hj : j < 12) : 0 < M.1 12 j := by
  obtain ⟨ir, hir, h4r, -⟩ := (hI.2.2.1 r hr).2.2.2.1 (by rw [h7]; decide)
  rw [m_van_12 hir h4r j] at hp
  by_cases z : j = ir
  · rw [if_pos z] at hp
    have hc := hI.2.2.2.1 ir hir
    have hcl := m_cnt_le M ir 12
    rw [z, hc]
    rw [hc] at hp
    rcases Nat.eq_zero_or_pos (m_cnt M ir 12) with z0 | z0
    · rw [z0] at hp
      exact absurd hp (by decide)
    · exact (nI_ltI (a := 0) (by omega) (by omega)).mpr z0
  · rw [if_neg z] at hp
    exact hp
section RPD
variable {l : Launch} {D : va_G} {ca : Nat → ClassId} {ad : Nat → Nat → Nat} {Ex : State → Heap → Prop}
theorem x_run (d : Nat) (x : Int32) (M : n_M) (τ : n_S) (hR : RepR M τ) (hI : II M) (hJ : I7 M) (ck : Nat) (hck : M.1 15 0 = nI ck) (hck2 : ck + 5000 < 2147483646) : n_Ct l (rw D ca ad Ex) (d + 9) yX12_run cX12_run 4 (some .int) [.ref (ad 0 0), .int x] τ (fun rv τ' => (∃ k a M', k ≤ 5000 ∧ x = nI k ∧ m_runs k M a M' ∧ rv = some (.int (nI a)) ∧ τ' 0 0 2 = 0 ∧ RepR M' τ' ∧ II M' ∧ I7 M' ∧ M'.1 15 0 = nI (ck + k)) ∨ ((¬ ∃ k, k ≤ 5000 ∧ x = nI k) ∧ τ' 0 0 2 = 1 ∧ ∃ v, rv = some (.int v) ∧ RepR M τ')) := by
  refine n_ofW (by decide) (Nat.le_of_ble_eq_true rfl) ?_
  intro p e s m below meth c hC
  by_cases hex : ∃ k, k ≤ 5000 ∧ x = nI k
  · obtain ⟨n, hn, rfl⟩ := hex
    have loop : ∀ (t k c0 : Nat) (M1 : n_M) (τ1 : n_S), t + k = n → RepR M1 τ1 → τ1 0 0 2 = 0 → II M1 → I7 M1 → M1.1 15 0 = nI (ck + k) → (∀ a M', m_runs t M1 a M' → m_runs n M (c0 + a) M') → n_W p l e s m [Value.ref (ad 0 0), Value.int (nI n)].toArray below meth c (rw D ca ad Ex) (d + 9) (fun rv τ' => (∃ k a M', k ≤ 5000 ∧ nI n = nI k ∧ m_runs k M a M' ∧ rv = some (.int (nI a)) ∧ τ' 0 0 2 = 0 ∧ RepR M' τ' ∧ II M' ∧ I7 M' ∧ M'.1 15 0 = nI (ck + k)) ∨ ((¬ ∃ k, k ≤ 5000 ∧ nI n = nI k) ∧ τ' 0 0 2 = 1 ∧ ∃ v, rv = some (.int v) ∧ RepR M τ')) 24 [some (.ref (ad 0 0)), some (.int (nI n)), some (.int (nI c0)), some (.int (nI k))] [] τ1 := by
      intro t
      induction t with
      | zero =>
        intro k c0 M1 τ1 hk h1 h2 h3 h4 h5 hP
        have : k = n := by omega
        rw [this] at h5 ⊢
        refine n_iload_n hC dX12_run_24 rfl rfl ?_
        refine n_iload_n hC dX12_run_25 rfl rfl ?_
        refine n_icmp_ge (tgt := 58) hC dX12_run_26 (by decide) (fun h => ?_) (fun h => ?_)
        · refine n_iload_n hC dX12_run_58 rfl rfl ?_
          refine n_iret hC dX12_run_59 ?_
          exact Or.inl ⟨n, c0, M1, hn, rfl, hP 0 M1 ⟨rfl, rfl⟩, rfl, h2, h1, h3, h4, h5⟩
        · exact absurd (Int32.le_refl _) h
      | succ t ih =>
        intro k c0 M1 τ1 hk h1 h2 h3 h4 h5 hP
        have hlt : M1.1 15 0 + 1 < 2147483647 := by
          rw [h5, nI_1]
          exact (nI_ltI (b := 2147483647) (by omega) (by omega)).mpr (by omega)
        refine n_iload_n hC dX12_run_24 rfl rfl ?_
        refine n_iload_n hC dX12_run_25 rfl rfl ?_
        refine n_icmp_ge (tgt := 58) hC dX12_run_26 (by decide) (fun h => ?_) (fun h => ?_)
        · exact absurd h (nI_ge (by omega) (by omega))
        · clear h
          refine n_aload_n hC dX12_run_29 rfl rfl ?_
          refine gm_code hC wfX12_1 dX12_run_30 ?_
          rw [h2]
          refine n_if_ne (tgt := 58) hC dX12_run_33 (by decide) (fun h => ?_) (fun h => ?_)
          · exact absurd rfl h
          · clear h
            refine n_iload_n hC dX12_run_36 rfl rfl ?_
            refine n_aload_n hC dX12_run_37 rfl rfl ?_
            refine n_callV hC (x_turn d _ M1 _ h1.rs h3 h4 hlt) (Nat.le_refl _) (by decide) (by first | exact rfl | with_reducible assumption) rfl rfl rfl ⟨wmX12_435, wi_yX12_turn, wv_yX12_turn, wzX12, wc_yX12_turn⟩ hy_yX12_turn rfl (Nat.le_of_ble_eq_true rfl) dX12_run_38 (fun rv σ' hpo => ?_)
            obtain ⟨v, M2, ht, rfl, g1, g2, g3⟩ := hpo
            have h15 : M2.1 15 0 = nI (ck + (k + 1)) := by
              rw [m_tick_15 ht, h5, nI_1]
              rfl
            have i2 := II_tick h3 hlt ht
            have j2 := h4.step (S7_tick ht)
            refine n_iconst (v := -1) hC dX12_run_41 (by decide) ?_
            refine n_icmp_eq (tgt := 49) hC dX12_run_42 (by decide) (fun h => ?_) (fun h => ?_)
            · refine n_iconst (v := 0) hC dX12_run_49 (by decide) ?_
              refine n_iadd hC dX12_run_50 ?_
              refine n_istore_n hC dX12_run_51 rfl (Nat.le_of_ble_eq_true rfl) ?_
              refine n_iinc hC dX12_run_52 rfl (show _ + Int32.ofInt 1 = _ + 1 from rfl) ?_
              refine n_goto (tgt := 24) hC dX12_run_55 (by decide) ?_
              rw [nI_1, show ∀ y : Int32, y + 0 = y from fun y => by simp]
              refine ih (k + 1) c0 M2 _ (by omega) ⟨g1, g2⟩ (g3.trans h2) i2 j2 h15 (fun a M' hr => ?_)
              have := hP a M' ⟨v, M2, a, ht, hr, by rw [if_pos h]; rfl⟩
              exact this
            · refine n_iconst (v := 1) hC dX12_run_45 (by decide) ?_
              refine n_goto (tgt := 50) hC dX12_run_46 (by decide) ?_
              refine n_iadd hC dX12_run_50 ?_
              refine n_istore_n hC dX12_run_51 rfl (Nat.le_of_ble_eq_true rfl) ?_
              refine n_iinc hC dX12_run_52 rfl (show _ + Int32.ofInt 1 = _ + 1 from rfl) ?_
              refine n_goto (tgt := 24) hC dX12_run_55 (by decide) ?_
              rw [nI_1, nI_1]
              refine ih (k + 1) (c0 + 1) M2 _ (by omega) ⟨g1, g2⟩ (g3.trans h2) i2 j2 h15 (fun a M' hr => ?_)
              have := hP (a + 1) M' ⟨v, M2, a, ht, hr, by rw [if_neg h]⟩
              rw [show c0 + 1 + a = c0 + (a + 1) by omega]
              exact this
    refine n_aload_n hC dX12_run_0 rfl rfl ?_
    refine n_iload_n hC dX12_run_1 rfl rfl ?_
    refine n_if_lt (tgt := 12) hC dX12_run_2 (by decide) (fun h => ?_) (fun h => ?_)
    · exact absurd h (Int32.not_lt.mpr (nI_pos' (by omega)))
    · clear h
      refine n_iload_n hC dX12_run_5 rfl rfl ?_
      refine n_sipush (v := 5000) hC dX12_run_6 (by decide) ?_
      refine n_icmp_le (tgt := 16) hC dX12_run_9 (by decide) (fun h => ?_) (fun h => ?_)
      · refine n_iconst (v := 0) hC dX12_run_16 (by decide) ?_
        refine pm_code hC wfX12_1 dX12_run_17 ?_
        refine n_iconst (v := 0) hC dX12_run_20 (by decide) ?_
        refine n_istore_n hC dX12_run_21 rfl (Nat.le_of_ble_eq_true rfl) ?_
        refine n_iconst (v := 0) hC dX12_run_22 (by decide) ?_
        refine n_istore_n hC dX12_run_23 rfl (Nat.le_of_ble_eq_true rfl) ?_
        exact loop n 0 0 M _ (by omega) (hR.code 0) (n_up_e _ _ _ _) hI hJ hck (fun a M' hr => by rw [Nat.zero_add]; exact hr)
      · exact absurd (nI_le (b := 5000) hn (by decide)) h
  · have bad : n_W p l e s m [Value.ref (ad 0 0), Value.int x].toArray below meth c (rw D ca ad Ex) (d + 9) (fun rv τ' => (∃ k a M', k ≤ 5000 ∧ x = nI k ∧ m_runs k M a M' ∧ rv = some (.int (nI a)) ∧ τ' 0 0 2 = 0 ∧ RepR M' τ' ∧ II M' ∧ I7 M' ∧ M'.1 15 0 = nI (ck + k)) ∨ ((¬ ∃ k, k ≤ 5000 ∧ x = nI k) ∧ τ' 0 0 2 = 1 ∧ ∃ v, rv = some (.int v) ∧ RepR M τ')) 12 [some (.ref (ad 0 0)), some (.int x), none, none] [.ref (ad 0 0)] τ := by
      refine n_iconst (v := 1) hC dX12_run_12 (by decide) ?_
      refine n_goto (tgt := 17) hC dX12_run_13 (by decide) ?_
      refine pm_code hC wfX12_1 dX12_run_17 ?_
      refine n_iconst (v := 0) hC dX12_run_20 (by decide) ?_
      refine n_istore_n hC dX12_run_21 rfl (Nat.le_of_ble_eq_true rfl) ?_
      refine n_iconst (v := 0) hC dX12_run_22 (by decide) ?_
      refine n_istore_n hC dX12_run_23 rfl (Nat.le_of_ble_eq_true rfl) ?_
      refine n_iload_n hC dX12_run_24 rfl rfl ?_
      refine n_iload_n hC dX12_run_25 rfl rfl ?_
      refine n_icmp_ge (tgt := 58) hC dX12_run_26 (by decide) (fun h => ?_) (fun h => ?_)
      · refine n_iload_n hC dX12_run_58 rfl rfl ?_
        refine n_iret hC dX12_run_59 ?_
        exact Or.inr ⟨hex, n_up_e _ _ _ _, _, rfl, hR.code 1⟩
      · clear h
        refine n_aload_n hC dX12_run_29 rfl rfl ?_
        refine gm_code hC wfX12_1 dX12_run_30 ?_
        rw [n_up_e]
        refine n_if_ne (tgt := 58) hC dX12_run_33 (by decide) (fun h => ?_) (fun h => ?_)
        · refine n_iload_n hC dX12_run_58 rfl rfl ?_
          refine n_iret hC dX12_run_59 ?_
          exact Or.inr ⟨hex, n_up_e _ _ _ _, _, rfl, hR.code 1⟩
        · exact absurd h (by decide)
    refine n_aload_n hC dX12_run_0 rfl rfl ?_
    refine n_iload_n hC dX12_run_1 rfl rfl ?_
    refine n_if_lt (tgt := 12) hC dX12_run_2 (by decide) (fun h => ?_) (fun h => ?_)
    · exact bad
    · have h0 := h
      clear h
      refine n_iload_n hC dX12_run_5 rfl rfl ?_
      refine n_sipush (v := 5000) hC dX12_run_6 (by decide) ?_
      refine n_icmp_le (tgt := 16) hC dX12_run_9 (by decide) (fun h => ?_) (fun h => ?_)
      · exfalso
        obtain ⟨n, hn, rfl⟩ := nI_of2 (M := 5000) (n := 5000) rfl h0 h
        exact hex ⟨n, hn, rfl⟩
      · exact bad
theorem x_quantum (d : Nat) (x : Int32) (M : n_M) (τ : n_S) (hR : RepR M τ) : n_Ct l (rw D ca ad Ex) d yX12_quantum cX12_quantum 3 (some .int) [.ref (ad 0 0), .int x] τ (fun rv τ' => rv = some (.int (u_quantum M x).2.1) ∧ τ' 0 0 2 = (u_quantum M x).1 ∧ RepR (u_quantum M x).2.2 τ') := by
  refine n_ofW (by decide) (Nat.le_of_ble_eq_true rfl) ?_
  intro p e s m below meth c hC
  have after : ∀ cd : Int32, (cd = 0 ∧ ¬ x < 1 ∧ ¬ 100 < x) ∨ (cd = 1 ∧ ¬ (¬ x < 1 ∧ ¬ 100 < x)) → n_W p l e s m [Value.ref (ad 0 0), Value.int x].toArray below meth c (rw D ca ad Ex) d (fun rv τ' => rv = some (.int (u_quantum M x).2.1) ∧ τ' 0 0 2 = (u_quantum M x).1 ∧ RepR (u_quantum M x).2.2 τ') 17 [some (.ref (ad 0 0)), some (.int x), none] [.int cd, .ref (ad 0 0)] τ := by
    intro cd hcd
    have hc := hR.code cd
    have eq : (n_up τ 0 0 2 cd) 0 0 40 = M.1 16 0 := hc.rq.quantum
    refine pm_code hC wfX12_1 dX12_quantum_17 ?_
    refine n_aload_n hC dX12_quantum_20 rfl rfl ?_
    refine gm_quantum hC wfX12_197 dX12_quantum_21 ?_
    rw [eq]
    refine n_istore_n hC dX12_quantum_24 rfl (Nat.le_of_ble_eq_true rfl) ?_
    refine n_aload_n hC dX12_quantum_25 rfl rfl ?_
    refine n_aload_n hC dX12_quantum_26 rfl rfl ?_
    refine gm_code hC wfX12_1 dX12_quantum_27 ?_
    rw [n_up_e]
    rcases hcd with ⟨rfl, hg⟩ | ⟨rfl, hb⟩
    · have e2 : u_quantum M x = (0, M.1 16 0, m_s M 16 0 x) := if_pos hg
      rw [e2]
      have g := rq_16 (v := x) hc.rq rfl
      refine n_if_le (tgt := 40) hC dX12_quantum_30 (by decide) (fun h => ?_) (fun h => ?_)
      · clear h
        refine n_iload_n hC dX12_quantum_40 rfl rfl ?_
        refine pm_quantum hC wfX12_197 dX12_quantum_41 ?_
        refine n_aload_n hC dX12_quantum_44 rfl rfl ?_
        refine gm_code hC wfX12_1 dX12_quantum_45 ?_
        rw [n_up_o (by omega), n_up_e]
        refine n_if_le (tgt := 55) hC dX12_quantum_48 (by decide) (fun h => ?_) (fun h => ?_)
        · refine n_iload_n hC dX12_quantum_55 rfl rfl ?_
          refine n_iret hC dX12_quantum_56 ?_
          exact ⟨rfl, (n_up_o (by omega)).trans (n_up_e _ _ _ _), g.1, RF_cong hc.2 (fun i _ => ms_n (by omega)) (fun y => g.2.1 y)⟩
        · exact absurd (by decide) h
      · exact absurd (by decide) h
    · have e2 : u_quantum M x = (1, 0, M) := if_neg hb
      rw [e2]
      have g := rq_16 (v := M.1 16 0) hc.rq rfl
      rw [ms_id rfl] at g
      refine n_if_le (tgt := 40) hC dX12_quantum_30 (by decide) (fun h => ?_) (fun h => ?_)
      · exact absurd h (by decide)
      · clear h
        refine n_aload_n hC dX12_quantum_33 rfl rfl ?_
        refine gm_quantum hC wfX12_197 dX12_quantum_34 ?_
        rw [eq]
        refine n_goto (tgt := 41) hC dX12_quantum_37 (by decide) ?_
        refine pm_quantum hC wfX12_197 dX12_quantum_41 ?_
        refine n_aload_n hC dX12_quantum_44 rfl rfl ?_
        refine gm_code hC wfX12_1 dX12_quantum_45 ?_
        rw [n_up_o (by omega), n_up_e]
        refine n_if_le (tgt := 55) hC dX12_quantum_48 (by decide) (fun h => ?_) (fun h => ?_)
        · exact absurd h (by decide)
        · refine n_iconst (v := 0) hC dX12_quantum_51 (by decide) ?_
          refine n_goto (tgt := 56) hC dX12_quantum_52 (by decide) ?_
          refine n_iret hC dX12_quantum_56 ?_
          exact ⟨rfl, (n_up_o (by omega)).trans (n_up_e _ _ _ _), g.1, RF_cong hc.2 (fun i _ => rfl) (fun y => g.2.1 y)⟩
  refine n_aload_n hC dX12_quantum_0 rfl rfl ?_
  refine n_iload_n hC dX12_quantum_1 rfl rfl ?_
  refine n_iconst (v := 1) hC dX12_quantum_2 (by decide) ?_
  refine n_icmp_lt (tgt := 12) hC dX12_quantum_3 (by decide) (fun h => ?_) (fun h => ?_)
  · refine n_iconst (v := 1) hC dX12_quantum_12 (by decide) ?_
    refine n_goto (tgt := 17) hC dX12_quantum_13 (by decide) ?_
    exact after 1 (Or.inr ⟨rfl, fun z => z.1 h⟩)
  · have h0 := h
    clear h
    refine n_iload_n hC dX12_quantum_6 rfl rfl ?_
    refine n_bipush (v := 100) hC dX12_quantum_7 (by decide) ?_
    refine n_icmp_le (tgt := 16) hC dX12_quantum_9 (by decide) (fun h => ?_) (fun h => ?_)
    · refine n_iconst (v := 0) hC dX12_quantum_16 (by decide) ?_
      exact after 0 (Or.inl ⟨rfl, h0, Int32.not_lt.mpr h⟩)
    · refine n_iconst (v := 1) hC dX12_quantum_12 (by decide) ?_
      refine n_goto (tgt := 17) hC dX12_quantum_13 (by decide) ?_
      exact after 1 (Or.inr ⟨rfl, fun z => z.2 (Int32.not_le.mp h)⟩)
theorem x_kill (d : Nat) (x : Int32) (M : n_M) (τ : n_S) (hR : RepR M τ) (hI : II M) : n_Ct l (rw D ca ad Ex) (d + 3) yX12_kill cX12_kill 2 (some .boolean) [.ref (ad 0 0), .int x] τ (fun rv τ' => rv = some (.int (u_kill M x).2.1) ∧ τ' 0 0 2 = (u_kill M x).1 ∧ RepR (u_kill M x).2.2 τ') := by
  refine n_ofW (by decide) (Nat.le_of_ble_eq_true rfl) ?_
  intro p e s m below meth c hC
  refine n_aload_n hC dX12_kill_0 rfl rfl ?_
  refine n_aload_n hC dX12_kill_1 rfl rfl ?_
  refine n_iload_n hC dX12_kill_2 rfl rfl ?_
  refine n_callV hC (x_isProcess (d + 2) x τ) (Nat.le_refl _) (by decide) (by first | exact rfl | with_reducible assumption) rfl rfl rfl ⟨wmX12_312, wi_yX12_isProcess, wv_yX12_isProcess, wzX12, wc_yX12_isProcess⟩ hy_yX12_isProcess rfl (Nat.le_of_ble_eq_true rfl) dX12_kill_3 (fun rv σ' hpo => ?_)
  obtain ⟨hpo, hσ⟩ := hpo
  rw [hσ]
  rcases hpo with ⟨q, hq, rfl, rfl⟩ | ⟨hn, rfl⟩
  · have ecl : (nI q).toNatClampNeg = q := nI_clamp (by have := hq.2; omega)
    have hc := hR.code 0
    refine n_if_eq (tgt := 13) hC dX12_kill_6 (by decide) (fun h => ?_) (fun h => ?_)
    · exact absurd h (by decide)
    · clear h
      refine n_iconst (v := 0) hC dX12_kill_9 (by decide) ?_
      refine n_goto (tgt := 14) hC dX12_kill_10 (by decide) ?_
      refine pm_code hC wfX12_1 dX12_kill_14 ?_
      refine n_aload_n hC dX12_kill_17 rfl rfl ?_
      refine gm_code hC wfX12_1 dX12_kill_18 ?_
      rw [n_up_e]
      refine n_if_gt (tgt := 32) hC dX12_kill_21 (by decide) (fun h => ?_) (fun h => ?_)
      · exact absurd h (by decide)
      · clear h
        refine n_aload_n hC dX12_kill_24 rfl rfl ?_
        refine n_iload_n hC dX12_kill_25 rfl rfl ?_
        refine n_callV hC (x_isAlive (d + 1) (nI q) _ M _ hc.rq) (Nat.le_refl _) (by decide) (by first | exact rfl | with_reducible assumption) rfl rfl rfl ⟨wmX12_364, wi_yX12_isAlive, wv_yX12_isAlive, wzX12, wc_yX12_isAlive⟩ hy_yX12_isAlive rfl (Nat.le_of_ble_eq_true rfl) dX12_kill_26 (fun rv σ' hpo => ?_)
        obtain ⟨hpo, hσ⟩ := hpo
        rw [hσ]
        rcases hpo with ⟨r, hr, e2, hal, rfl⟩ | ⟨hno, rfl⟩
        · have := nV_inj hq hr e2
          subst this
          have ee : u_kill M (nI q) = (0, 1, m_fin M q (-1)) := by
            unfold u_kill
            rw [ecl, if_pos (pq_lo hq), if_pos ((u_al_i M q).mpr hal)]
          rw [ee]
          refine n_if_ne (tgt := 34) hC dX12_kill_29 (by decide) (fun h => ?_) (fun h => ?_)
          · clear h
            refine n_aload_n hC dX12_kill_34 rfl rfl ?_
            refine n_iload_n hC dX12_kill_35 rfl rfl ?_
            refine n_iconst (v := -1) hC dX12_kill_36 (by decide) ?_
            refine n_callV hC (x_finish d q (-1) _ M _ hc.rs hI hq hal) (Nat.le_refl _) (by decide) (by first | exact rfl | with_reducible assumption) rfl rfl rfl ⟨wmX12_330, wi_yX12_finish, wv_yX12_finish, wzX12, wc_yX12_finish⟩ hy_yX12_finish rfl (Nat.le_of_ble_eq_true rfl) dX12_kill_37 (fun rv σ' hpo => ?_)
            obtain ⟨rfl, g⟩ := hpo
            refine n_iconst (v := 1) hC dX12_kill_40 (by decide) ?_
            refine n_zret hC dX12_kill_41 rfl ?_
            exact ⟨rfl, g.2.2.2.trans (n_up_e _ _ _ _), g.rr⟩
          · exact absurd h (by decide)
        · have ee : u_kill M (nI q) = (0, 0, M) := by
            unfold u_kill
            rw [ecl, if_pos (pq_lo hq), if_neg (fun z => hno ⟨q, hq, rfl, (u_al_i M q).mp z⟩)]
          rw [ee]
          refine n_if_ne (tgt := 34) hC dX12_kill_29 (by decide) (fun h => ?_) (fun h => ?_)
          · exact absurd rfl h
          · refine n_iconst (v := 0) hC dX12_kill_32 (by decide) ?_
            refine n_zret hC dX12_kill_33 rfl ?_
            exact ⟨rfl, n_up_e _ _ _ _, hc⟩
  · have ee : u_kill M x = (1, 0, M) := if_neg (fun z => hn (pq_of z))
    rw [ee]
    refine n_if_eq (tgt := 13) hC dX12_kill_6 (by decide) (fun h => ?_) (fun h => ?_)
    · clear h
      refine n_iconst (v := 1) hC dX12_kill_13 (by decide) ?_
      refine pm_code hC wfX12_1 dX12_kill_14 ?_
      refine n_aload_n hC dX12_kill_17 rfl rfl ?_
      refine gm_code hC wfX12_1 dX12_kill_18 ?_
      rw [n_up_e]
      refine n_if_gt (tgt := 32) hC dX12_kill_21 (by decide) (fun h => ?_) (fun h => ?_)
      · refine n_iconst (v := 0) hC dX12_kill_32 (by decide) ?_
        refine n_zret hC dX12_kill_33 rfl ?_
        exact ⟨rfl, n_up_e _ _ _ _, hR.code 1⟩
      · exact absurd (by decide) h
    · exact absurd rfl h
theorem x_reap (d : Nat) (x : Int32) (M : n_M) (τ : n_S) (hR : RepR M τ) (hI : II M) : n_Ct l (rw D ca ad Ex) (d + 1) yX12_reap cX12_reap 3 (some .int) [.ref (ad 0 0), .int x] τ (fun rv τ' => rv = some (.int (u_reap M x).2.1) ∧ τ' 0 0 2 = (u_reap M x).1 ∧ RepR (u_reap M x).2.2 τ') := by
  refine n_ofW (by decide) (Nat.le_of_ble_eq_true rfl) ?_
  intro p e s m below meth c hC
  refine n_aload_n hC dX12_reap_0 rfl rfl ?_
  refine n_aload_n hC dX12_reap_1 rfl rfl ?_
  refine n_iload_n hC dX12_reap_2 rfl rfl ?_
  refine n_callV hC (x_isProcess d x τ) (Nat.le_refl _) (by decide) (by first | exact rfl | with_reducible assumption) rfl rfl rfl ⟨wmX12_312, wi_yX12_isProcess, wv_yX12_isProcess, wzX12, wc_yX12_isProcess⟩ hy_yX12_isProcess rfl (Nat.le_of_ble_eq_true rfl) dX12_reap_3 (fun rv σ' hpo => ?_)
  obtain ⟨hpo, hσ⟩ := hpo
  rw [hσ]
  rcases hpo with ⟨q, hq, rfl, rfl⟩ | ⟨hn, rfl⟩
  · obtain ⟨hq1, hq2⟩ := id hq
    have ecl : (nI q).toNatClampNeg = q := nI_clamp (by omega)
    have two : ¬ (M.1 0 q = 7 ∧ M.1 3 q = 0) → n_W p l e s m [Value.ref (ad 0 0), Value.int (nI q)].toArray below meth c (rw D ca ad Ex) (d + 1) (fun rv τ' => rv = some (.int (u_reap M (nI q)).2.1) ∧ τ' 0 0 2 = (u_reap M (nI q)).1 ∧ RepR (u_reap M (nI q)).2.2 τ') 33 [some (.ref (ad 0 0)), some (.int (nI q)), none] [.ref (ad 0 0)] τ := by
      intro hb
      have ee : u_reap M (nI q) = (2, 0, M) := by
        unfold u_reap
        rw [ecl, if_pos (pq_lo hq), if_neg hb]
      rw [ee]
      refine n_iconst (v := 2) hC dX12_reap_33 (by decide) ?_
      refine n_goto (tgt := 38) hC dX12_reap_34 (by decide) ?_
      refine pm_code hC wfX12_1 dX12_reap_38 ?_
      refine n_aload_n hC dX12_reap_41 rfl rfl ?_
      refine gm_code hC wfX12_1 dX12_reap_42 ?_
      rw [n_up_e]
      refine n_if_le (tgt := 50) hC dX12_reap_45 (by decide) (fun h => ?_) (fun h => ?_)
      · exact absurd h (by decide)
      · refine n_iconst (v := 0) hC dX12_reap_48 (by decide) ?_
        refine n_iret hC dX12_reap_49 ?_
        exact ⟨rfl, n_up_e _ _ _ _, hR.code 2⟩
    refine n_if_ne (tgt := 13) hC dX12_reap_6 (by decide) (fun h => ?_) (fun h => ?_)
    · clear h
      refine n_aload_n hC dX12_reap_13 rfl rfl ?_
      refine gm_status hC wfX12_137 dX12_reap_14 ?_
      refine n_iload_n hC dX12_reap_17 rfl rfl ?_
      first | refine r_ld hC rfl (fun _ => rfl) (by decide) (by first | omega | with_reducible assumption) dX12_reap_18 ?_ | refine r_needs hC (by first | exact vp_in_nI (by omega) (by decide) | with_reducible assumption) dX12_reap_18 ?_
      rw [hR.rq.status hq]
      refine n_bipush (v := 7) hC dX12_reap_19 (by decide) ?_
      refine n_icmp_ne (tgt := 33) hC dX12_reap_21 (by decide) (fun h => ?_) (fun h => ?_)
      · exact two (fun z => h z.1)
      · have h7 : M.1 0 q = 7 := h
        clear h
        refine n_aload_n hC dX12_reap_24 rfl rfl ?_
        refine gm_parent hC wfX12_146 dX12_reap_25 ?_
        refine n_iload_n hC dX12_reap_28 rfl rfl ?_
        first | refine r_ld hC rfl (fun _ => rfl) (by decide) (by first | omega | with_reducible assumption) dX12_reap_29 ?_ | refine r_needs hC (by first | exact vp_in_nI (by omega) (by decide) | with_reducible assumption) dX12_reap_29 ?_
        rw [hR.rq.parent hq]
        refine n_if_eq (tgt := 37) hC dX12_reap_30 (by decide) (fun h => ?_) (fun h => ?_)
        · have ee : u_reap M (nI q) = (0, M.1 1 q, m_van M q) := by
            unfold u_reap
            rw [ecl, if_pos (pq_lo hq), if_pos ⟨h7, h⟩]
          rw [ee]
          clear h two
          have hc := hR.code 0
          refine n_iconst (v := 0) hC dX12_reap_37 (by decide) ?_
          refine pm_code hC wfX12_1 dX12_reap_38 ?_
          refine n_aload_n hC dX12_reap_41 rfl rfl ?_
          refine gm_code hC wfX12_1 dX12_reap_42 ?_
          rw [n_up_e]
          refine n_if_le (tgt := 50) hC dX12_reap_45 (by decide) (fun h => ?_) (fun h => ?_)
          · clear h
            refine n_aload_n hC dX12_reap_50 rfl rfl ?_
            refine gm_codes hC wfX12_140 dX12_reap_51 ?_
            refine n_iload_n hC dX12_reap_54 rfl rfl ?_
            first | refine r_ld hC rfl (fun _ => rfl) (by decide) (by first | omega | with_reducible assumption) dX12_reap_55 ?_ | refine r_needs hC (by first | exact vp_in_nI (by omega) (by decide) | with_reducible assumption) dX12_reap_55 ?_
            rw [hc.rq.codes hq]
            refine n_istore_n hC dX12_reap_56 rfl (Nat.le_of_ble_eq_true rfl) ?_
            refine n_aload_n hC dX12_reap_57 rfl rfl ?_
            refine n_iload_n hC dX12_reap_58 rfl rfl ?_
            refine n_callV hC (x_release d q _ M _ hc.rq hq hI.w h7) (Nat.le_refl _) (by decide) (by first | exact rfl | with_reducible assumption) rfl rfl rfl ⟨wmX12_321, wi_yX12_release, wv_yX12_release, wzX12, wc_yX12_release⟩ hy_yX12_release rfl (Nat.le_of_ble_eq_true rfl) dX12_reap_59 (fun rv σ' hpo => ?_)
            obtain ⟨rfl, g⟩ := hpo
            obtain ⟨gQ, gf1, gf2, gf3⟩ := id g
            refine n_aload_n hC dX12_reap_62 rfl rfl ?_
            refine n_callV hC (x_sweep d _ _ _ g (IW_van hI.w hq h7) (fun j hj hp => by rw [gf1 j, hc.2.1 j hj, if_pos (IW_van12 hI.w hq h7 hp hj)]) (fun j hj => by rw [gf1 j, hc.2.1 j hj]; split; exact Or.inr rfl; exact Or.inl rfl) ((gf1 12).trans hc.2.2)) (Nat.le_refl _) (by decide) (by first | exact rfl | with_reducible assumption) rfl rfl rfl ⟨wmX12_327, wi_yX12_sweep, wv_yX12_sweep, wzX12, wc_yX12_sweep⟩ hy_yX12_sweep rfl (Nat.le_of_ble_eq_true rfl) dX12_reap_63 (fun rv σ' hpo => ?_)
            obtain ⟨rfl, g⟩ := hpo
            refine n_iload_n hC dX12_reap_66 rfl rfl ?_
            refine n_iret hC dX12_reap_67 ?_
            exact ⟨rfl, g.2.2.2.trans (n_up_e _ _ _ _), g.rr⟩
          · exact absurd (by decide) h
        · exact two (fun z => h z.2)
    · exact absurd h (by decide)
  · have ee : u_reap M x = (1, 0, M) := if_neg (fun z => hn (pq_of z))
    rw [ee]
    refine n_if_ne (tgt := 13) hC dX12_reap_6 (by decide) (fun h => ?_) (fun h => ?_)
    · exact absurd rfl h
    · clear h
      refine n_iconst (v := 1) hC dX12_reap_9 (by decide) ?_
      refine n_goto (tgt := 38) hC dX12_reap_10 (by decide) ?_
      refine pm_code hC wfX12_1 dX12_reap_38 ?_
      refine n_aload_n hC dX12_reap_41 rfl rfl ?_
      refine gm_code hC wfX12_1 dX12_reap_42 ?_
      rw [n_up_e]
      refine n_if_le (tgt := 50) hC dX12_reap_45 (by decide) (fun h => ?_) (fun h => ?_)
      · exact absurd h (by decide)
      · refine n_iconst (v := 0) hC dX12_reap_48 (by decide) ?_
        refine n_iret hC dX12_reap_49 ?_
        exact ⟨rfl, n_up_e _ _ _ _, hR.code 1⟩
theorem x_key (d : Nat) (x y : Int32) (M : n_M) (τ : n_S) (hR : RepR M τ) (hI : II M) : n_Ct l (rw D ca ad Ex) (d + 2) yX12_key cX12_key 3 (some .boolean) [.ref (ad 0 0), .int x, .int y] τ (fun rv τ' => rv = some (.int (u_key M x y).2.1) ∧ τ' 0 0 2 = (u_key M x y).1 ∧ RepR (u_key M x y).2.2 τ') := by
  refine n_ofW (by decide) (Nat.le_of_ble_eq_true rfl) ?_
  intro p e s m below meth c hC
  have bad : ∀ cd : Int32, 0 < cd → u_key M x y = (cd, 0, M) → n_W p l e s m [Value.ref (ad 0 0), Value.int x, Value.int y].toArray below meth c (rw D ca ad Ex) (d + 2) (fun rv τ' => rv = some (.int (u_key M x y).2.1) ∧ τ' 0 0 2 = (u_key M x y).1 ∧ RepR (u_key M x y).2.2 τ') 26 [some (.ref (ad 0 0)), some (.int x), some (.int y)] [.int cd, .ref (ad 0 0)] τ := by
    intro cd hcd ee
    rw [ee]
    refine pm_code hC wfX12_1 dX12_key_26 ?_
    refine n_aload_n hC dX12_key_29 rfl rfl ?_
    refine gm_code hC wfX12_1 dX12_key_30 ?_
    rw [n_up_e]
    refine n_if_gt (tgt := 47) hC dX12_key_33 (by decide) (fun h => ?_) (fun h => ?_)
    · refine n_iconst (v := 0) hC dX12_key_47 (by decide) ?_
      refine n_zret hC dX12_key_48 rfl ?_
      exact ⟨rfl, n_up_e _ _ _ _, hR.code cd⟩
    · exact absurd hcd h
  refine n_aload_n hC dX12_key_0 rfl rfl ?_
  refine n_aload_n hC dX12_key_1 rfl rfl ?_
  refine n_iload_n hC dX12_key_2 rfl rfl ?_
  refine n_callV hC (x_isProcess (d + 1) x τ) (Nat.le_refl _) (by decide) (by first | exact rfl | with_reducible assumption) rfl rfl rfl ⟨wmX12_312, wi_yX12_isProcess, wv_yX12_isProcess, wzX12, wc_yX12_isProcess⟩ hy_yX12_isProcess rfl (Nat.le_of_ble_eq_true rfl) dX12_key_3 (fun rv σ' hpo => ?_)
  obtain ⟨hpo, hσ⟩ := hpo
  rw [hσ]
  rcases hpo with ⟨q, hq, rfl, rfl⟩ | ⟨hn, rfl⟩
  · obtain ⟨hq1, hq2⟩ := id hq
    have ecl : (nI q).toNatClampNeg = q := nI_clamp (by omega)
    refine n_if_ne (tgt := 13) hC dX12_key_6 (by decide) (fun h => ?_) (fun h => ?_)
    · clear h
      refine n_aload_n hC dX12_key_13 rfl rfl ?_
      refine n_iload_n hC dX12_key_14 rfl rfl ?_
      refine n_callV hC (x_isAlive d (nI q) _ M _ hR.rq) (Nat.le_refl _) (by decide) (by first | exact rfl | with_reducible assumption) rfl rfl rfl ⟨wmX12_364, wi_yX12_isAlive, wv_yX12_isAlive, wzX12, wc_yX12_isAlive⟩ hy_yX12_isAlive rfl (Nat.le_of_ble_eq_true rfl) dX12_key_15 (fun rv σ' hpo => ?_)
      obtain ⟨hpo, hσ⟩ := hpo
      rw [hσ]
      rcases hpo with ⟨r, hr, e2, hal, rfl⟩ | ⟨hno, rfl⟩
      · have := nV_inj hq hr e2
        subst this
        have hc := hR.code 0
        obtain ⟨k1, k2, k3⟩ := hc.rq.key hq
        refine n_if_ne (tgt := 25) hC dX12_key_18 (by decide) (fun h => ?_) (fun h => ?_)
        · clear h
          refine n_iconst (v := 0) hC dX12_key_25 (by decide) ?_
          refine pm_code hC wfX12_1 dX12_key_26 ?_
          refine n_aload_n hC dX12_key_29 rfl rfl ?_
          refine gm_code hC wfX12_1 dX12_key_30 ?_
          rw [n_up_e]
          refine n_if_gt (tgt := 47) hC dX12_key_33 (by decide) (fun h => ?_) (fun h => ?_)
          · exact absurd h (by decide)
          · clear h
            refine n_aload_n hC dX12_key_36 rfl rfl ?_
            refine gm_keyed hC wfX12_176 dX12_key_37 ?_
            refine n_iload_n hC dX12_key_40 rfl rfl ?_
            first | refine r_ld hC rfl (fun _ => rfl) (by decide) (by first | omega | with_reducible assumption) dX12_key_41 ?_ | refine r_needs hC (by first | exact vp_in_nI (by omega) (by decide) | with_reducible assumption) dX12_key_41 ?_
            rw [k1]
            refine n_bipush (v := 8) hC dX12_key_42 (by decide) ?_
            refine n_icmp_ne (tgt := 49) hC dX12_key_44 (by decide) (fun h => ?_) (fun h => ?_)
            · have hlt : (M.2 2 (2 * q + 1)).length < 8 := by
                rcases Nat.lt_or_ge (M.2 2 (2 * q + 1)).length 8 with z | z
                · exact z
                · exact absurd (congrArg nI (show (M.2 2 (2 * q + 1)).length = 8 by omega)) h
              clear h
              have ee : u_key M (nI q) y = (0, 1, m_key M q y) := by
                unfold u_key
                rw [ecl, if_pos (pq_lo hq), if_pos ((u_al_i M q).mpr hal), if_pos hlt]
              rw [ee]
              have hv3 : m_vL 3 (2 * q + 1) := by
                show 2 ≤ 2 * q + 1 ∧ 2 * q + 1 ≤ 25
                omega
              have hv2 : m_vL 2 (2 * q + 1) := hv3
              obtain ⟨w1, w2, -⟩ := hc.1.1.2 3 (2 * q + 1) hv3
              obtain ⟨-, w3, -⟩ := hc.1.1.2 2 (2 * q + 1) hv2
              have w1 : (M.2 3 (2 * q + 1)).length ≤ 8 := w1
              have el : (M.2 3 (2 * q + 1)).length = (M.2 2 (2 * q + 1)).length := (nI_eq (by omega) (by omega)).mp (w2.symm.trans w3)
              refine n_aload_n hC dX12_key_49 rfl rfl ?_
              refine gm_keys hC wfX12_179 dX12_key_50 ?_
              refine n_bipush (v := 8) hC dX12_key_53 (by decide) ?_
              refine n_iload_n hC dX12_key_55 rfl rfl ?_
              refine n_imul hC dX12_key_56 ?_
              refine n_aload_n hC dX12_key_57 rfl rfl ?_
              refine gm_keyed hC wfX12_176 dX12_key_58 ?_
              refine n_iload_n hC dX12_key_61 rfl rfl ?_
              first | refine r_ld hC rfl (fun _ => rfl) (by decide) (by first | omega | with_reducible assumption) dX12_key_62 ?_ | refine r_needs hC (by first | exact vp_in_nI (by omega) (by decide) | with_reducible assumption) dX12_key_62 ?_
              rw [k1]
              refine n_iadd hC dX12_key_63 ?_
              rw [show (8 : Int32) * nI q + nI (M.2 2 (2 * q + 1)).length = nI (8 * q + (M.2 2 (2 * q + 1)).length) from by rw [← nI_add, ← nI_mulL]; rfl]
              refine n_iload_n hC dX12_key_64 rfl rfl ?_
              refine r_st hC rfl (fun _ h => h) (fun _ => rfl) (by decide) (by first | omega | with_reducible assumption) dX12_key_65 ?_
              refine n_aload_n hC dX12_key_66 rfl rfl ?_
              refine gm_keyed hC wfX12_176 dX12_key_67 ?_
              refine n_iload_n hC dX12_key_70 rfl rfl ?_
              refine n_dup2_11 hC dX12_key_71 rfl rfl ?_
              first | refine r_ld hC rfl (fun _ => rfl) (by decide) (by first | omega | with_reducible assumption) dX12_key_72 ?_ | refine r_needs hC (by first | exact vp_in_nI (by omega) (by decide) | with_reducible assumption) dX12_key_72 ?_
              rw [n_up_o (by omega), k1]
              refine n_iconst (v := 1) hC dX12_key_73 (by decide) ?_
              refine n_iadd hC dX12_key_74 ?_
              rw [nI_1]
              refine r_st hC rfl (fun _ h => h) (fun _ => rfl) (by decide) (by first | omega | with_reducible assumption) dX12_key_75 ?_
              have hb : RQ (n_up τ 0 0 2 0) (m_kb M q y) (n_up (n_up (n_up τ 0 0 2 0) 34 0 (8 * q + (M.2 2 (2 * q + 1)).length) y) 33 0 q (nI ((M.2 2 (2 * q + 1)).length + 1))) := by
                refine rql_k hc.rq hq (fun κ x' a' b' => ?_) ?_ ?_ ?_ (fun j hj => ?_)
                · rw [n_up_o (by omega), n_up_o (by omega)]
                · rw [n_up_e, len1]
                · rw [len1]; exact hlt
                · rw [len1, len1, el]
                · rw [len1] at hj
                  rw [n_up_o (by omega)]
                  by_cases ej : j = (M.2 2 (2 * q + 1)).length
                  · rw [ej, n_up_e, getD_snoc_e]
                  · rw [n_up_o (by omega), k3 j (by omega), getD_snoc_l _ _ _ (by omega)]
              refine n_aload_n hC dX12_key_76 rfl rfl ?_
              refine gm_status hC wfX12_137 dX12_key_77 ?_
              refine n_iload_n hC dX12_key_80 rfl rfl ?_
              first | refine r_ld hC rfl (fun _ => rfl) (by decide) (by first | omega | with_reducible assumption) dX12_key_81 ?_ | refine r_needs hC (by first | exact vp_in_nI (by omega) (by decide) | with_reducible assumption) dX12_key_81 ?_
              rw [show (n_up (n_up (n_up τ 0 0 2 0) 34 0 (8 * q + (M.2 2 (2 * q + 1)).length) y) 33 0 q (nI ((M.2 2 (2 * q + 1)).length + 1))) 20 0 q = M.1 0 q from hb.status hq]
              refine n_iconst (v := 4) hC dX12_key_82 (by decide) ?_
              refine n_icmp_ne (tgt := 91) hC dX12_key_83 (by decide) (fun h => ?_) (fun h => ?_)
              · refine n_iconst (v := 1) hC dX12_key_91 (by decide) ?_
                refine n_zret hC dX12_key_92 rfl ?_
                refine ⟨rfl, ?_, ?_⟩
                · rw [n_up_o (by omega), n_up_o (by omega), n_up_e]
                · show RepR (m_key M q y) _
                  unfold m_key
                  rw [if_neg h]
                  exact ⟨hb.1, RF_cong hc.2 (fun i _ => rfl) (fun y => hb.2.1 y)⟩
              · have hlv := hI.1.lv hq
                refine n_aload_n hC dX12_key_86 rfl rfl ?_
                refine n_iload_n hC dX12_key_87 rfl rfl ?_
                refine n_callV hC (x_wake d q _ _ _ hb hq (hI.1.1 q hq) (hI.1.row hq hlv.1 (hI.1.notrow hq hlv.1 (by rw [h]; decide)))) (Nat.le_refl _) (by decide) (by first | exact rfl | with_reducible assumption) rfl rfl rfl ⟨wmX12_324, wi_yX12_wake, wv_yX12_wake, wzX12, wc_yX12_wake⟩ hy_yX12_wake rfl (Nat.le_of_ble_eq_true rfl) dX12_key_88 (fun rv σ' hpo => ?_)
                obtain ⟨rfl, g⟩ := hpo
                refine n_iconst (v := 1) hC dX12_key_91 (by decide) ?_
                refine n_zret hC dX12_key_92 rfl ?_
                refine ⟨rfl, ?_, ?_⟩
                · exact g.2.2.2.trans (n_up_e _ _ _ _)
                · show RepR (m_key M q y) _
                  unfold m_key
                  rw [if_pos h]
                  exact ⟨g.1, RF_cong hc.2 (fun i _ => m_rdy_sn (by omega)) (fun y => g.2.1 y)⟩
            · have he : (M.2 2 (2 * q + 1)).length = 8 := (nI_eq (b := 8) (by omega) (by omega)).mp h
              have ee : u_key M (nI q) y = (0, 0, M) := by
                unfold u_key
                rw [ecl, if_pos (pq_lo hq), if_pos ((u_al_i M q).mpr hal), if_neg (by omega)]
              rw [ee]
              refine n_iconst (v := 0) hC dX12_key_47 (by decide) ?_
              refine n_zret hC dX12_key_48 rfl ?_
              exact ⟨rfl, n_up_e _ _ _ _, hc⟩
        · exact absurd h (by decide)
      · refine n_if_ne (tgt := 25) hC dX12_key_18 (by decide) (fun h => ?_) (fun h => ?_)
        · exact absurd rfl h
        · refine n_iconst (v := 2) hC dX12_key_21 (by decide) ?_
          refine n_goto (tgt := 26) hC dX12_key_22 (by decide) ?_
          refine bad 2 (by decide) ?_
          unfold u_key
          rw [ecl, if_pos (pq_lo hq), if_neg (fun z => hno ⟨q, hq, rfl, (u_al_i M q).mp z⟩)]
    · exact absurd h (by decide)
  · refine n_if_ne (tgt := 13) hC dX12_key_6 (by decide) (fun h => ?_) (fun h => ?_)
    · exact absurd rfl h
    · refine n_iconst (v := 1) hC dX12_key_9 (by decide) ?_
      refine n_goto (tgt := 26) hC dX12_key_10 (by decide) ?_
      exact bad 1 (by decide) (if_neg (fun z => hn (pq_of z)))
theorem x_post (d : Nat) (x y : Int32) (M : n_M) (τ : n_S) (hR : RepR M τ) (hI : II M) : n_Ct l (rw D ca ad Ex) (d + 3) yX12_post cX12_post 3 (some .boolean) [.ref (ad 0 0), .int x, .int y] τ (fun rv τ' => rv = some (.int (u_post M x y).2.1) ∧ τ' 0 0 2 = (u_post M x y).1 ∧ RepR (u_post M x y).2.2 τ') := by
  refine n_ofW (by decide) (Nat.le_of_ble_eq_true rfl) ?_
  intro p e s m below meth c hC
  have bad : ∀ cd : Int32, cd ≠ 0 → u_post M x y = (cd, 0, M) → n_W p l e s m [Value.ref (ad 0 0), Value.int x, Value.int y].toArray below meth c (rw D ca ad Ex) (d + 3) (fun rv τ' => rv = some (.int (u_post M x y).2.1) ∧ τ' 0 0 2 = (u_post M x y).1 ∧ RepR (u_post M x y).2.2 τ') 26 [some (.ref (ad 0 0)), some (.int x), some (.int y)] [.int cd, .ref (ad 0 0)] τ := by
    intro cd hcd ee
    rw [ee]
    refine pm_code hC wfX12_1 dX12_post_26 ?_
    refine n_aload_n hC dX12_post_29 rfl rfl ?_
    refine gm_code hC wfX12_1 dX12_post_30 ?_
    rw [n_up_e]
    refine n_if_ne (tgt := 50) hC dX12_post_33 (by decide) (fun h => ?_) (fun h => ?_)
    · refine n_iconst (v := 0) hC dX12_post_50 (by decide) ?_
      refine n_zret hC dX12_post_51 rfl ?_
      exact ⟨rfl, n_up_e _ _ _ _, hR.code cd⟩
    · exact absurd h hcd
  refine n_aload_n hC dX12_post_0 rfl rfl ?_
  refine n_aload_n hC dX12_post_1 rfl rfl ?_
  refine n_iload_n hC dX12_post_2 rfl rfl ?_
  refine n_callV hC (x_isProcess (d + 2) x τ) (Nat.le_refl _) (by decide) (by first | exact rfl | with_reducible assumption) rfl rfl rfl ⟨wmX12_312, wi_yX12_isProcess, wv_yX12_isProcess, wzX12, wc_yX12_isProcess⟩ hy_yX12_isProcess rfl (Nat.le_of_ble_eq_true rfl) dX12_post_3 (fun rv σ' hpo => ?_)
  obtain ⟨hpo, hσ⟩ := hpo
  rw [hσ]
  rcases hpo with ⟨q, hq, rfl, rfl⟩ | ⟨hn, rfl⟩
  · obtain ⟨hq1, hq2⟩ := id hq
    have ecl : (nI q).toNatClampNeg = q := nI_clamp (by omega)
    refine n_if_ne (tgt := 13) hC dX12_post_6 (by decide) (fun h => ?_) (fun h => ?_)
    · clear h
      refine n_aload_n hC dX12_post_13 rfl rfl ?_
      refine n_iload_n hC dX12_post_14 rfl rfl ?_
      refine n_callV hC (x_isAlive (d + 1) (nI q) _ M _ hR.rq) (Nat.le_refl _) (by decide) (by first | exact rfl | with_reducible assumption) rfl rfl rfl ⟨wmX12_364, wi_yX12_isAlive, wv_yX12_isAlive, wzX12, wc_yX12_isAlive⟩ hy_yX12_isAlive rfl (Nat.le_of_ble_eq_true rfl) dX12_post_15 (fun rv σ' hpo => ?_)
      obtain ⟨hpo, hσ⟩ := hpo
      rw [hσ]
      rcases hpo with ⟨r, hr, e2, hal, rfl⟩ | ⟨hno, rfl⟩
      · have := nV_inj hq hr e2
        subst this
        have hc := hR.code 0
        refine n_if_ne (tgt := 25) hC dX12_post_18 (by decide) (fun h => ?_) (fun h => ?_)
        · clear h
          refine n_iconst (v := 0) hC dX12_post_25 (by decide) ?_
          refine pm_code hC wfX12_1 dX12_post_26 ?_
          refine n_aload_n hC dX12_post_29 rfl rfl ?_
          refine gm_code hC wfX12_1 dX12_post_30 ?_
          rw [n_up_e]
          refine n_if_ne (tgt := 50) hC dX12_post_33 (by decide) (fun h => ?_) (fun h => ?_)
          · exact absurd rfl h
          · clear h
            refine n_aload_n hC dX12_post_36 rfl rfl ?_
            refine n_iconst (v := 0) hC dX12_post_37 (by decide) ?_
            refine n_iload_n hC dX12_post_38 rfl rfl ?_
            refine n_iload_n hC dX12_post_39 rfl rfl ?_
            refine n_callV hC (x_deliver d 0 (nI q) y _ M _ hc.rq hI) (Nat.le_refl _) (by decide) (by first | exact rfl | with_reducible assumption) rfl rfl rfl ⟨wmX12_380, wi_yX12_deliver, wv_yX12_deliver, wzX12, wc_yX12_deliver⟩ hy_yX12_deliver rfl (Nat.le_of_ble_eq_true rfl) dX12_post_40 (fun rv σ' hpo => ?_)
            rcases hpo with ⟨hno, rfl, hσ⟩ | ⟨r, hr, e3, hal2, ⟨h8, rfl, hσ⟩ | ⟨h8, rfl, g⟩⟩
            · exact absurd ⟨q, hq, rfl, hal⟩ hno
            · have := nV_inj hq hr e3
              subst this
              have ee : u_post M (nI q) y = (0, 0, M) := by
                unfold u_post
                rw [ecl, if_pos (pq_lo hq), if_pos ((u_al_i M q).mpr hal), if_neg (by omega)]
              rw [ee, hσ]
              refine n_if_ne (tgt := 50) hC dX12_post_43 (by decide) (fun h => ?_) (fun h => ?_)
              · refine n_iconst (v := 0) hC dX12_post_50 (by decide) ?_
                refine n_zret hC dX12_post_51 rfl ?_
                exact ⟨rfl, n_up_e _ _ _ _, hc⟩
              · exact absurd h (by decide)
            · have := nV_inj hq hr e3
              subst this
              have ee : u_post M (nI q) y = (0, 1, m_del M q y 0) := by
                unfold u_post
                rw [ecl, if_pos (pq_lo hq), if_pos ((u_al_i M q).mpr hal), if_pos h8]
              rw [ee]
              refine n_if_ne (tgt := 50) hC dX12_post_43 (by decide) (fun h => ?_) (fun h => ?_)
              · exact absurd rfl h
              · refine n_iconst (v := 1) hC dX12_post_46 (by decide) ?_
                refine n_goto (tgt := 51) hC dX12_post_47 (by decide) ?_
                refine n_zret hC dX12_post_51 rfl ?_
                exact ⟨rfl, g.2.2.2.trans (n_up_e _ _ _ _), g.1, RF_cong hc.2 (fun i _ => m_del_o (by omega)) (fun y => g.2.1 y)⟩
        · exact absurd h (by decide)
      · refine n_if_ne (tgt := 25) hC dX12_post_18 (by decide) (fun h => ?_) (fun h => ?_)
        · exact absurd rfl h
        · refine n_iconst (v := 2) hC dX12_post_21 (by decide) ?_
          refine n_goto (tgt := 26) hC dX12_post_22 (by decide) ?_
          refine bad 2 (by decide) ?_
          unfold u_post
          rw [ecl, if_pos (pq_lo hq), if_neg (fun z => hno ⟨q, hq, rfl, (u_al_i M q).mp z⟩)]
    · exact absurd h (by decide)
  · refine n_if_ne (tgt := 13) hC dX12_post_6 (by decide) (fun h => ?_) (fun h => ?_)
    · exact absurd rfl h
    · refine n_iconst (v := 1) hC dX12_post_9 (by decide) ?_
      refine n_goto (tgt := 26) hC dX12_post_10 (by decide) ?_
      exact bad 1 (by decide) (if_neg (fun z => hn (pq_of z)))
theorem x_end (d : Nat) (x : Int32) (M : n_M) (τ : n_S) (hR : RepR M τ) : n_Ct l (rw D ca ad Ex) d yX12_end cX12_end 2 none [.ref (ad 0 0), .int x] τ (fun rv τ' => rv = none ∧ τ' 0 0 2 = (u_end M x).1 ∧ RepR (u_end M x).2 τ') := by
  obtain ⟨e1, h1, h3⟩ := hR.rq.tap
  refine n_ofW (by decide) (Nat.le_of_ble_eq_true rfl) ?_
  intro p e s m below meth c hC
  have bad : ¬ (¬ x < 0 ∧ x ≤ nI (M.2 8 0).length) → n_W p l e s m [Value.ref (ad 0 0), Value.int x].toArray below meth c (rw D ca ad Ex) d (fun rv τ' => rv = none ∧ τ' 0 0 2 = (u_end M x).1 ∧ RepR (u_end M x).2 τ') 13 [some (.ref (ad 0 0)), some (.int x)] [.ref (ad 0 0)] τ := by
    intro hb
    have ee : u_end M x = (1, M) := if_neg hb
    rw [ee]
    have hc := hR.code 1
    obtain ⟨t1, t2, t3⟩ := hc.rq.tap
    refine n_iconst (v := 1) hC dX12_end_13 (by decide) ?_
    refine n_goto (tgt := 18) hC dX12_end_14 (by decide) ?_
    refine pm_code hC wfX12_1 dX12_end_18 ?_
    refine n_aload_n hC dX12_end_21 rfl rfl ?_
    refine n_aload_n hC dX12_end_22 rfl rfl ?_
    refine gm_code hC wfX12_1 dX12_end_23 ?_
    rw [n_up_e]
    refine n_if_le (tgt := 36) hC dX12_end_26 (by decide) (fun h => ?_) (fun h => ?_)
    · exact absurd h (by decide)
    · refine n_aload_n hC dX12_end_29 rfl rfl ?_
      refine gm_size hC wfX12_227 dX12_end_30 ?_
      rw [t1]
      refine n_goto (tgt := 37) hC dX12_end_33 (by decide) ?_
      refine pm_size hC wfX12_227 dX12_end_37 ?_
      refine n_vret hC dX12_end_40 ?_
      have g := rql_8 (τ' := n_up (n_up τ 0 0 2 1) 0 0 4 (nI (M.2 8 0).length)) (l0 := M.2 8 0) hc.rq (fun κ y a b => n_up_o a) (n_up_e _ _ _ _) t2 (fun j hj => by rw [n_up_o (by omega)]; exact t3 j hj)
      rw [ml_id rfl] at g
      exact ⟨rfl, (n_up_o (by omega)).trans (n_up_e _ _ _ _), g.1, RF_cong hc.2 (fun i _ => rfl) (fun y => g.2.1 y)⟩
  refine n_aload_n hC dX12_end_0 rfl rfl ?_
  refine n_iload_n hC dX12_end_1 rfl rfl ?_
  refine n_if_lt (tgt := 13) hC dX12_end_2 (by decide) (fun h => ?_) (fun h => ?_)
  · exact bad (fun z => z.1 h)
  · have h0 := h
    clear h
    refine n_iload_n hC dX12_end_5 rfl rfl ?_
    refine n_aload_n hC dX12_end_6 rfl rfl ?_
    refine gm_size hC wfX12_227 dX12_end_7 ?_
    rw [e1]
    refine n_icmp_le (tgt := 17) hC dX12_end_10 (by decide) (fun h => ?_) (fun h => ?_)
    · obtain ⟨k, hk31, rfl⟩ := nI_of h0
      have hk : k ≤ (M.2 8 0).length := (nI_leI hk31 (by omega)).mp h
      have ee : u_end M (nI k) = (0, m_l M 8 0 ((M.2 8 0).take k)) := by
        unfold u_end
        rw [if_pos ⟨h0, h⟩, nI_clamp hk31]
      rw [ee]
      clear h bad
      have hc := hR.code 0
      obtain ⟨t1, t2, t3⟩ := hc.rq.tap
      have hlen : ((M.2 8 0).take k).length = k := by rw [List.length_take]; omega
      refine n_iconst (v := 0) hC dX12_end_17 (by decide) ?_
      refine pm_code hC wfX12_1 dX12_end_18 ?_
      refine n_aload_n hC dX12_end_21 rfl rfl ?_
      refine n_aload_n hC dX12_end_22 rfl rfl ?_
      refine gm_code hC wfX12_1 dX12_end_23 ?_
      rw [n_up_e]
      refine n_if_le (tgt := 36) hC dX12_end_26 (by decide) (fun h => ?_) (fun h => ?_)
      · refine n_iload_n hC dX12_end_36 rfl rfl ?_
        refine pm_size hC wfX12_227 dX12_end_37 ?_
        refine n_vret hC dX12_end_40 ?_
        have g := rql_8 (τ' := n_up (n_up τ 0 0 2 0) 0 0 4 (nI k)) (l0 := (M.2 8 0).take k) hc.rq (fun κ y a b => n_up_o a) (by rw [n_up_e, hlen]) (by omega) (fun j hj => by
          rw [hlen] at hj
          rw [n_up_o (by omega), t3 j (by omega), List.getD_eq_getElem?_getD, List.getD_eq_getElem?_getD, List.getElem?_take_of_lt hj])
        exact ⟨rfl, (n_up_o (by omega)).trans (n_up_e _ _ _ _), g.1, RF_cong hc.2 (fun i _ => rfl) (fun y => g.2.1 y)⟩
      · exact absurd (by decide) h
    · exact bad (fun z => h z.2)
end RPD
