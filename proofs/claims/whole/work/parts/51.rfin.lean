def RS (τ0 : n_S) (M : n_M) (τ : n_S) : Prop := RepQ M τ ∧ RF M τ ∧ τ 0 0 52 = τ0 0 0 52 ∧ τ 0 0 2 = τ0 0 0 2
theorem RS.q {τ0 τ : n_S} {M : n_M} (h : RS τ0 M τ) : RQ τ M τ := ⟨h.1, fun _ => rfl, rfl, rfl⟩
theorem RS.of {τ0 τ τ' : n_S} {M M' : n_M} (h : RS τ0 M τ) (h2 : RQ τ M' τ') (h12 : ∀ i, i < 12 → M'.1 12 i = M.1 12 i) : RS τ0 M' τ' :=
  ⟨h2.1, RF_cong h.2.1 h12 h2.2.1, h2.2.2.1.trans h.2.2.1, h2.2.2.2.trans h.2.2.2⟩
theorem m_ext {M M' : n_M} (h1 : ∀ c i, M.1 c i = M'.1 c i) (h2 : ∀ c i, M.2 c i = M'.2 c i) : M = M' := Prod.ext (funext fun c => funext fun i => h1 c i) (funext fun c => funext fun i => h2 c i)
theorem RQ.gh {τ0 τ : n_S} {M M' : n_M} (h : RQ τ0 M τ) (hS : ∀ c i, c ≠ 4 → c ≠ 12 → c ≠ 19 → M'.1 c i = M.1 c i) (hL : ∀ c i, M'.2 c i = M.2 c i) (h4 : ∀ p i, n_V p → i < 12 → M'.1 4 p = nI (i + 1) → M.1 4 p = nI (i + 1)) (h12 : ∀ i, i < 12 → 0 < M'.1 12 i → 0 < M.1 12 i) : RQ τ0 M' τ := by
  obtain ⟨⟨h1, g1, g2, g3, g4⟩, f⟩ := h
  refine ⟨⟨RepC_g h1 (fun c i a _ b _ e => hS c i a b e) (fun c i _ _ => hL c i), fun p i hp hi e => g1 p i hp hi (h4 p i hp hi e), fun i hi hu => ?_, ?_, fun j hj => ?_⟩, f⟩
  · rw [hL 12 i, hL 13 i]
    exact g2 i hi (h12 i hi hu)
  · rw [hL 10 0]; exact g3
  · unfold m_nsl
    rw [hL 10 0, hL 11 0]
    rw [hL 10 0] at hj
    exact g4 j hj
theorem m_emp_id {M : n_M} {p : Nat} (h : m_clean M p) : m_emp M p = M := by
  obtain ⟨c1, c2, c3, c4, c5, c6, c7, c8, c9⟩ := h
  unfold m_emp
  rw [ml_id c1, ml_id c2, ml_id c3, ml_id c4, ml_id c5, ml_id c6, ms_id c7, ms_id c9, ms_id c8]
theorem m_emp_ref (M : n_M) (p : Nat) : m_s (m_s (m_l (m_l (m_s (m_l (m_l (m_l (m_l M 2 (2 * p) []) 3 (2 * p) []) 2 (2 * p + 1) []) 3 (2 * p + 1) []) 5 p 0) 0 p []) 1 p []) 7 p 0) 8 p 0 = m_emp M p := by
  unfold m_emp
  refine m_ext (fun c i => ?_) (fun c i => ?_)
  · simp only [m_s_s, m_l_s]
    grind
  · simp only [m_s_l, m_l_l]
    grind
theorem m_cnt_pos {M : n_M} {i : Nat} : ∀ n, 0 < m_cnt M i n → ∃ p, 1 ≤ p ∧ p ≤ n ∧ M.1 4 p = nI (i + 1)
  | 0, h => by simp [m_cnt] at h
  | n + 1, h => by
    by_cases e : M.1 4 (n + 1) = nI (i + 1)
    · exact ⟨n + 1, by omega, Nat.le_refl _, e⟩
    · have h : 0 < m_cnt M i n + (if M.1 4 (n + 1) = nI (i + 1) then 1 else 0) := h
      rw [if_neg e] at h
      obtain ⟨p, a, b, e⟩ := m_cnt_pos n h
      exact ⟨p, a, by omega, e⟩
theorem IW.used {M : n_M} {τ : n_S} (h : IW M) (hY : RY M τ) {k : Nat} (hk : k < 12) : (∃ p, n_V p ∧ M.1 0 p ≠ 0 ∧ τ 24 0 p = nI k) ↔ 0 < M.1 12 k := by
  constructor
  · rintro ⟨p, hp, h0, e⟩
    obtain ⟨i, hi, h4, -⟩ := (h.2.2.1 p hp).2.2.2.1 h0
    have := hY.1 p i hp hi h4
    have : i = k := (nI_eq (by omega) (by omega)).mp (this.symm.trans e)
    subst this
    rw [h.2.2.2.1 i hi]
    have hc := m_cnt_off (M := M) (M' := m_s M 4 p 0) i (fun r hr => ms_n (by omega)) (ms_e _ _ _ _) hp.1 12 (Nat.le_refl _) hi
    rw [if_pos ⟨hp.2, h4⟩] at hc
    have := m_cnt_le M i 12
    exact (nI_ltI (a := 0) (by omega) (by omega)).mpr (by omega)
  · intro hu
    rw [h.2.2.2.1 k hk] at hu
    have hle := m_cnt_le M k 12
    obtain ⟨p, a, b, e⟩ := m_cnt_pos 12 ((nI_ltI (a := 0) (by omega) (by omega)).mp hu)
    refine ⟨p, ⟨a, b⟩, fun z => ?_, hY.1 p k ⟨a, b⟩ hk e⟩
    have := ((h.2.2.1 p ⟨a, b⟩).2.1 z).1
    rw [e] at this
    exact nI_ne0 (by omega) (by omega) this
section RFN
variable {l : Launch} {D : va_G} {ca : Nat → ClassId} {ad : Nat → Nat → Nat} {Ex : State → Heap → Prop}
theorem x_release (d q : Nat) (τ0 : n_S) (M : n_M) (τ : n_S) (hM : RQ τ0 M τ) (hq : n_V q) (hW : IW M) (h7 : M.1 0 q = 7) : n_Ct l (rw D ca ad Ex) d yX12_release cX12_release 2 none [.ref (ad 0 0), .int (nI q)] τ (fun rv τ' => rv = none ∧ RQ τ0 (m_van M q) τ') := by
  obtain ⟨hq1, hq2⟩ := id hq
  obtain ⟨-, -, hcl, hhas, -⟩ := hW.2.2.1 q hq
  obtain ⟨i, hi, h4, -⟩ := hhas (by rw [h7]; decide)
  have hE := m_emp_id (hcl (Or.inr h7))
  have hu : 0 < M.1 12 i := by
    rw [hW.2.2.2.1 i hi]
    have hc := m_cnt_off (M := M) (M' := m_s M 4 q 0) i (fun r hr => ms_n (by omega)) (ms_e _ _ _ _) hq.1 12 (Nat.le_refl _) hi
    rw [if_pos ⟨hq.2, h4⟩] at hc
    have := m_cnt_le M i 12
    exact (nI_ltI (a := 0) (by omega) (by omega)).mpr (by omega)
  have eu : m_usr M q = m_s M 12 i (M.1 12 i - 1) := by
    unfold m_usr
    rw [if_neg (by rw [h4]; exact nI_ne0 (by omega) (by omega)), m_pi_i hi h4]
  have h0 : RQ τ0 (m_s (m_s M 12 i (M.1 12 i - 1)) 4 q 0) τ := by
    refine hM.gh (fun c j a b _ => ?_) (fun _ _ => rfl) (fun p j hp hj e => ?_) (fun j hj e => ?_)
    · rw [ms_n (by omega), ms_n (by omega)]
    · by_cases ep : p = q
      · rw [ep, ms_e] at e
        exact absurd e.symm (nI_ne0 (by omega) (by omega))
      · rw [ms_n (by omega), ms_n (by omega)] at e
        exact e
    · rw [ms_n (by omega)] at e
      by_cases ej : j = i
      · rw [ej]; exact hu
      · rw [ms_n (by omega)] at e
        exact e
  refine n_ofW (by decide) (Nat.le_of_ble_eq_true rfl) ?_
  intro p e s m below meth c hC
  refine n_aload_n hC dX12_release_0 rfl rfl ?_
  refine gm_status hC wfX12_137 dX12_release_1 ?_
  refine n_iload_n hC dX12_release_4 rfl rfl ?_
  refine n_iconst (v := 0) hC dX12_release_5 (by decide) ?_
  refine r_st hC rfl (fun _ h => h) (fun _ => rfl) (by decide) (by first | omega | with_reducible assumption) dX12_release_6 ?_
  refine n_aload_n hC dX12_release_7 rfl rfl ?_
  refine gm_codes hC wfX12_140 dX12_release_8 ?_
  refine n_iload_n hC dX12_release_11 rfl rfl ?_
  refine n_iconst (v := 0) hC dX12_release_12 (by decide) ?_
  refine r_st hC rfl (fun _ h => h) (fun _ => rfl) (by decide) (by first | omega | with_reducible assumption) dX12_release_13 ?_
  refine n_aload_n hC dX12_release_14 rfl rfl ?_
  refine gm_level hC wfX12_143 dX12_release_15 ?_
  refine n_iload_n hC dX12_release_18 rfl rfl ?_
  refine n_iconst (v := 0) hC dX12_release_19 (by decide) ?_
  refine r_st hC rfl (fun _ h => h) (fun _ => rfl) (by decide) (by first | omega | with_reducible assumption) dX12_release_20 ?_
  refine n_aload_n hC dX12_release_21 rfl rfl ?_
  refine gm_parent hC wfX12_146 dX12_release_22 ?_
  refine n_iload_n hC dX12_release_25 rfl rfl ?_
  refine n_iconst (v := 0) hC dX12_release_26 (by decide) ?_
  refine r_st hC rfl (fun _ h => h) (fun _ => rfl) (by decide) (by first | omega | with_reducible assumption) dX12_release_27 ?_
  refine n_aload_n hC dX12_release_28 rfl rfl ?_
  refine gm_did hC wfX12_182 dX12_release_29 ?_
  refine n_iload_n hC dX12_release_32 rfl rfl ?_
  refine n_iconst (v := 0) hC dX12_release_33 (by decide) ?_
  refine r_st hC rfl (fun _ h => h) (fun _ => rfl) (by decide) (by first | omega | with_reducible assumption) dX12_release_34 ?_
  refine n_vret hC dX12_release_35 ?_
  refine ⟨rfl, ?_⟩
  unfold m_van
  rw [hE, eu]
  exact rq_6 (rq_3 (rq_2 (rq_1 (rq_0 h0 hq) hq) hq) hq) hq
theorem x_sweep (d : Nat) (τ0 : n_S) (M : n_M) (τ : n_S) (hM : RQ τ0 M τ) (hW : IW M) (hf1 : ∀ i, i < 12 → 0 < M.1 12 i → τ 11 0 i = 1) (hf2 : ∀ i, i < 12 → τ 11 0 i = 0 ∨ τ 11 0 i = 1) (hf3 : τ 11 0 12 = 0) : n_Ct l (rw D ca ad Ex) d yX12_sweep cX12_sweep 4 none [.ref (ad 0 0)] τ (fun rv τ' => rv = none ∧ RS τ0 M τ') := by
  have hY := hM.1.2
  refine n_ofW (by decide) (Nat.le_of_ble_eq_true rfl) ?_
  intro p e s m below meth c hC
  have fin : ∀ τ1, (∀ κ x, κ ≠ 11 → τ1 κ 0 x = τ κ 0 x) → RF M τ1 → RS τ0 M τ1 := by
    intro τ1 hx hF
    refine ⟨⟨?_, RY_cong hY (fun _ _ => rfl) (fun _ _ => rfl) (fun _ _ => rfl) (fun _ _ => rfl) rfl rfl (fun κ x hk => hx κ x (by unfold r_pk at hk; omega))⟩, hF, (hx 0 52 (by omega)).trans hM.2.2.1, (hx 0 2 (by omega)).trans hM.2.2.2⟩
    have e : r_v M τ1 = r_v M τ := by
      have g : ∀ κ x, κ ≠ 11 → τ1 κ 0 x = τ κ 0 x := hx
      funext κ i k
      unfold r_v
      split
      all_goals first
        | rfl
        | exact g _ _ (by omega)
        | (unfold r_v1; split <;> first | rfl | exact g _ _ (by omega))
        | (split <;> first | rfl | exact g _ _ (by omega) | (unfold r_v9; split <;> first | rfl | exact g _ _ (by omega)) | (split <;> first | rfl | exact g _ _ (by omega)))
    rw [e]
    exact hM.1.1
  have inn : ∀ (k : Nat) (τ1 : n_S), k < 13 → (∀ κ x, κ ≠ 11 → τ1 κ 0 x = τ κ 0 x) → ((∃ p, n_V p ∧ M.1 0 p ≠ 0 ∧ τ 24 0 p = nI k) → n_W p l e s m [Value.ref (ad 0 0)].toArray below meth c (rw D ca ad Ex) d (fun rv τ' => rv = none ∧ RS τ0 M τ') 53 [some (.ref (ad 0 0)), some (.int (nI k)), some (.int 1), some (.int (nI 13))] [] τ1) → ((¬ ∃ p, n_V p ∧ M.1 0 p ≠ 0 ∧ τ 24 0 p = nI k) → n_W p l e s m [Value.ref (ad 0 0)].toArray below meth c (rw D ca ad Ex) d (fun rv τ' => rv = none ∧ RS τ0 M τ') 53 [some (.ref (ad 0 0)), some (.int (nI k)), some (.int 0), some (.int (nI 13))] [] τ1) →
      ∀ (n p0 : Nat) (u : Int32), n + p0 = 13 → 1 ≤ p0 → ((u = 1 ∧ ∃ p, n_V p ∧ p < p0 ∧ M.1 0 p ≠ 0 ∧ τ 24 0 p = nI k) ∨ (u = 0 ∧ ¬ ∃ p, n_V p ∧ p < p0 ∧ M.1 0 p ≠ 0 ∧ τ 24 0 p = nI k)) → n_W p l e s m [Value.ref (ad 0 0)].toArray below meth c (rw D ca ad Ex) d (fun rv τ' => rv = none ∧ RS τ0 M τ') 12 [some (.ref (ad 0 0)), some (.int (nI k)), some (.int u), some (.int (nI p0))] [] τ1 := by
    intro k τ1 hk13 hx ky kn n
    induction n with
    | zero =>
      intro p0 u hn hp0 hu
      obtain rfl : p0 = 13 := by omega
      refine n_iload_n hC dX12_sweep_12 rfl rfl ?_
      refine n_bipush (v := 12) hC dX12_sweep_13 (by decide) ?_
      refine n_icmp_gt (tgt := 53) hC dX12_sweep_15 (by decide) (fun h => ?_) (fun h => ?_)
      · rcases hu with ⟨rfl, p1, h1, h2, h3⟩ | ⟨rfl, hu⟩
        · exact ky ⟨p1, h1, h3⟩
        · exact kn (fun ⟨p1, h1, h3⟩ => hu ⟨p1, h1, by have := h1.2; omega, h3⟩)
      · exact absurd (show (12 : Int32) < nI 13 by decide) h
    | succ n ih =>
      intro p0 u hn hp0 hu
      have hv : n_V p0 := ⟨hp0, by omega⟩
      have es : τ1 20 0 p0 = M.1 0 p0 := (hx 20 p0 (by omega)).trans (hM.status hv)
      have ep : τ1 24 0 p0 = τ 24 0 p0 := hx 24 p0 (by omega)
      have n12 : ¬ (12 : Int32) < nI p0 := nI_nlt (a := 12) (b := p0) (by omega) (by omega)
      refine n_iload_n hC dX12_sweep_12 rfl rfl ?_
      refine n_bipush (v := 12) hC dX12_sweep_13 (by decide) ?_
      refine n_icmp_gt (tgt := 53) hC dX12_sweep_15 (by decide) (fun h => ?_) (fun h => ?_)
      · exact absurd h n12
      · clear h
        have one : (∃ p, n_V p ∧ p < p0 + 1 ∧ M.1 0 p ≠ 0 ∧ τ 24 0 p = nI k) → n_W p l e s m [Value.ref (ad 0 0)].toArray below meth c (rw D ca ad Ex) d (fun rv τ' => rv = none ∧ RS τ0 M τ') 41 [some (.ref (ad 0 0)), some (.int (nI k)), some (.int u), some (.int (nI p0))] [] τ1 := by
          intro hh
          refine n_iconst (v := 1) hC dX12_sweep_41 (by decide) ?_
          refine n_goto (tgt := 46) hC dX12_sweep_42 (by decide) ?_
          refine n_istore_n hC dX12_sweep_46 rfl (Nat.le_of_ble_eq_true rfl) ?_
          refine n_iinc hC dX12_sweep_47 rfl (show _ + Int32.ofInt 1 = _ + 1 from rfl) ?_
          refine n_goto (tgt := 12) hC dX12_sweep_50 (by decide) ?_
          rw [nI_1]
          exact ih (p0 + 1) 1 (by omega) (by omega) (Or.inl ⟨rfl, hh⟩)
        have zer : (¬ ∃ p, n_V p ∧ p < p0 + 1 ∧ M.1 0 p ≠ 0 ∧ τ 24 0 p = nI k) → n_W p l e s m [Value.ref (ad 0 0)].toArray below meth c (rw D ca ad Ex) d (fun rv τ' => rv = none ∧ RS τ0 M τ') 45 [some (.ref (ad 0 0)), some (.int (nI k)), some (.int u), some (.int (nI p0))] [] τ1 := by
          intro hh
          refine n_iconst (v := 0) hC dX12_sweep_45 (by decide) ?_
          refine n_istore_n hC dX12_sweep_46 rfl (Nat.le_of_ble_eq_true rfl) ?_
          refine n_iinc hC dX12_sweep_47 rfl (show _ + Int32.ofInt 1 = _ + 1 from rfl) ?_
          refine n_goto (tgt := 12) hC dX12_sweep_50 (by decide) ?_
          rw [nI_1]
          exact ih (p0 + 1) 0 (by omega) (by omega) (Or.inr ⟨rfl, hh⟩)
        refine n_iload_n hC dX12_sweep_18 rfl rfl ?_
        refine n_if_ne (tgt := 41) hC dX12_sweep_19 (by decide) (fun h => ?_) (fun h => ?_)
        · rcases hu with ⟨rfl, p1, h1, h2, h3⟩ | ⟨rfl, hu⟩
          · exact one ⟨p1, h1, by omega, h3⟩
          · exact absurd rfl h
        · have hu2 : ¬ ∃ p, n_V p ∧ p < p0 ∧ M.1 0 p ≠ 0 ∧ τ 24 0 p = nI k := by
            rcases hu with ⟨rfl, -⟩ | ⟨rfl, hu⟩
            · exact absurd h (by decide)
            · exact hu
          clear h
          refine n_aload_n hC dX12_sweep_22 rfl rfl ?_
          refine gm_status hC wfX12_137 dX12_sweep_23 ?_
          refine n_iload_n hC dX12_sweep_26 rfl rfl ?_
          first | refine r_ld hC rfl (fun _ => rfl) (by decide) (by first | omega | with_reducible assumption) dX12_sweep_27 ?_ | refine r_needs hC (by first | exact vp_in_nI (by omega) (by decide) | with_reducible assumption) dX12_sweep_27 ?_
          rw [es]
          refine n_if_eq (tgt := 45) hC dX12_sweep_28 (by decide) (fun h => ?_) (fun h => ?_)
          · refine zer (fun ⟨p1, h1, h2, h3, h4⟩ => ?_)
            by_cases e1 : p1 = p0
            · rw [e1] at h3; exact h3 h
            · exact hu2 ⟨p1, h1, by omega, h3, h4⟩
          · have hs0 := h
            clear h
            refine n_aload_n hC dX12_sweep_31 rfl rfl ?_
            refine gm_program hC wfX12_149 dX12_sweep_32 ?_
            refine n_iload_n hC dX12_sweep_35 rfl rfl ?_
            first | refine r_ld hC rfl (fun _ => rfl) (by decide) (by first | omega | with_reducible assumption) dX12_sweep_36 ?_ | refine r_needs hC (by first | exact vp_in_nI (by omega) (by decide) | with_reducible assumption) dX12_sweep_36 ?_
            rw [ep]
            refine n_iload_n hC dX12_sweep_37 rfl rfl ?_
            refine n_icmp_ne (tgt := 45) hC dX12_sweep_38 (by decide) (fun h => ?_) (fun h => ?_)
            · refine zer (fun ⟨p1, h1, h2, h3, h4⟩ => ?_)
              by_cases e1 : p1 = p0
              · rw [e1] at h4; exact h h4
              · exact hu2 ⟨p1, h1, by omega, h3, h4⟩
            · exact one ⟨p0, hv, by omega, hs0, h⟩
  have loop : ∀ (n k : Nat) (τ1 : n_S) (w2 w3 : Option Value), n + k = 13 → (∀ κ x, κ ≠ 11 → τ1 κ 0 x = τ κ 0 x) → (∀ i, i < k → i < 12 → τ1 11 0 i = if 0 < M.1 12 i then 1 else 0) → (12 < k → τ1 11 0 12 = 0) → (∀ i, k ≤ i → τ1 11 0 i = τ 11 0 i) →
      n_W p l e s m [Value.ref (ad 0 0)].toArray below meth c (rw D ca ad Ex) d (fun rv τ' => rv = none ∧ RS τ0 M τ') 2 [some (.ref (ad 0 0)), some (.int (nI k)), w2, w3] [] τ1 := by
    intro n
    induction n with
    | zero =>
      intro k τ1 w2 w3 hn hx hlo h12 hhi
      obtain rfl : k = 13 := by omega
      refine n_iload_n hC dX12_sweep_2 rfl rfl ?_
      refine n_bipush (v := 13) hC dX12_sweep_3 (by decide) ?_
      refine n_icmp_ge (tgt := 83) hC dX12_sweep_5 (by decide) (fun h => ?_) (fun h => ?_)
      · refine n_vret hC dX12_sweep_83 ?_
        exact ⟨rfl, fin τ1 hx ⟨fun i hi => hlo i (by omega) hi, h12 (by omega)⟩⟩
      · exact absurd (show (13 : Int32) ≤ nI 13 by decide) h
    | succ n ih =>
      intro k τ1 w2 w3 hn hx hlo h12 hhi
      have hk13 : k < 13 := by omega
      refine n_iload_n hC dX12_sweep_2 rfl rfl ?_
      refine n_bipush (v := 13) hC dX12_sweep_3 (by decide) ?_
      refine n_icmp_ge (tgt := 83) hC dX12_sweep_5 (by decide) (fun h => ?_) (fun h => ?_)
      · exact absurd h (nI_ge (a := k) (b := 13) hk13 (by decide))
      · clear h
        refine n_iconst (v := 0) hC dX12_sweep_8 (by decide) ?_
        refine n_istore_n hC dX12_sweep_9 rfl (Nat.le_of_ble_eq_true rfl) ?_
        refine n_iconst (v := 1) hC dX12_sweep_10 (by decide) ?_
        refine n_istore_n hC dX12_sweep_11 rfl (Nat.le_of_ble_eq_true rfl) ?_
        have efl : τ1 11 0 k = τ 11 0 k := hhi k (Nat.le_refl _)
        have nxt : ∀ v : Int32, (k < 12 → v = if 0 < M.1 12 k then 1 else 0) → (k = 12 → v = 0) → (v = 0 ∨ v = 1) → n_W p l e s m [Value.ref (ad 0 0)].toArray below meth c (rw D ca ad Ex) d (fun rv τ' => rv = none ∧ RS τ0 M τ') 2 [some (.ref (ad 0 0)), some (.int (nI (k + 1))), some (.int 1), some (.int (nI 13))] [] (n_up τ1 11 0 k v) := by
          intro v hv1 hv2 _
          refine ih (k + 1) _ _ _ (by omega) (fun κ x hκ => ?_) (fun i h1 h2 => ?_) (fun h1 => ?_) (fun i h1 => ?_)
          · rw [n_up_o (by omega)]; exact hx κ x hκ
          · by_cases e : i = k
            · rw [e, n_up_e]; exact hv1 (by omega)
            · rw [n_up_o (by omega)]; exact hlo i (by omega) h2
          · by_cases e : k = 12
            · rw [e, n_up_e]; exact hv2 e
            · omega
          · rw [n_up_o (by omega)]; exact hhi i (by omega)
        have nxt0 : ∀ v : Int32, (k < 12 → v = if 0 < M.1 12 k then 1 else 0) → (k = 12 → v = 0) → (v = 0 ∨ v = 1) → n_W p l e s m [Value.ref (ad 0 0)].toArray below meth c (rw D ca ad Ex) d (fun rv τ' => rv = none ∧ RS τ0 M τ') 2 [some (.ref (ad 0 0)), some (.int (nI (k + 1))), some (.int 0), some (.int (nI 13))] [] (n_up τ1 11 0 k v) := by
          intro v hv1 hv2 _
          refine ih (k + 1) _ _ _ (by omega) (fun κ x hκ => ?_) (fun i h1 h2 => ?_) (fun h1 => ?_) (fun i h1 => ?_)
          · rw [n_up_o (by omega)]; exact hx κ x hκ
          · by_cases e : i = k
            · rw [e, n_up_e]; exact hv1 (by omega)
            · rw [n_up_o (by omega)]; exact hlo i (by omega) h2
          · by_cases e : k = 12
            · rw [e, n_up_e]; exact hv2 e
            · omega
          · rw [n_up_o (by omega)]; exact hhi i (by omega)
        refine inn k τ1 hk13 hx (fun hus => ?_) (fun hus => ?_) 12 1 0 (by omega) (by omega) (Or.inr ⟨rfl, fun ⟨p1, h1, h2, _⟩ => by have := h1.1; omega⟩)
        · refine n_aload_n hC dX12_sweep_53 rfl rfl ?_
          refine gm_isProgram hC wfX12_118 dX12_sweep_54 ?_
          refine n_iload_n hC dX12_sweep_57 rfl rfl ?_
          refine n_aload_n hC dX12_sweep_58 rfl rfl ?_
          refine gm_isProgram hC wfX12_118 dX12_sweep_59 ?_
          refine n_iload_n hC dX12_sweep_62 rfl rfl ?_
          first | refine r_ldb hC rfl (fun _ => rfl) (by decide) (by first | omega | with_reducible assumption) dX12_sweep_63 ?_ | refine r_ldz hC rfl (fun _ => rfl) (by decide) (by first | omega | with_reducible assumption) dX12_sweep_63 ?_
          rw [efl]
          refine n_if_eq (tgt := 75) hC dX12_sweep_64 (by decide) (fun h => ?_) (fun h => ?_)
          · refine n_iconst (v := 0) hC dX12_sweep_75 (by decide) ?_
            first | refine r_stb hC rfl (fun _ h => h) (fun _ => rfl) (by decide) (by first | omega | with_reducible assumption) dX12_sweep_76 ?_ | refine r_stz hC rfl (fun _ h => h) (fun _ => rfl) (by decide) (by first | omega | with_reducible assumption) rfl dX12_sweep_76 ?_
            refine n_iinc hC dX12_sweep_77 rfl (show _ + Int32.ofInt 1 = _ + 1 from rfl) ?_
            refine n_goto (tgt := 2) hC dX12_sweep_80 (by decide) ?_
            rw [nI_1]
            refine nxt 0 (fun hk => ?_) (fun _ => rfl) (Or.inl rfl)
            have hu := (hW.used hY hk).mp hus
            rw [hf1 k hk hu] at h
            exact absurd h (by decide)
          · have hz := h
            clear h
            refine n_iload_n hC dX12_sweep_67 rfl rfl ?_
            refine n_if_eq (tgt := 75) hC dX12_sweep_68 (by decide) (fun h => ?_) (fun h => ?_)
            · exact absurd h (by decide)
            · refine n_iconst (v := 1) hC dX12_sweep_71 (by decide) ?_
              refine n_goto (tgt := 76) hC dX12_sweep_72 (by decide) ?_
              first | refine r_stb hC rfl (fun _ h => h) (fun _ => rfl) (by decide) (by first | omega | with_reducible assumption) dX12_sweep_76 ?_ | refine r_stz hC rfl (fun _ h => h) (fun _ => rfl) (by decide) (by first | omega | with_reducible assumption) rfl dX12_sweep_76 ?_
              refine n_iinc hC dX12_sweep_77 rfl (show _ + Int32.ofInt 1 = _ + 1 from rfl) ?_
              refine n_goto (tgt := 2) hC dX12_sweep_80 (by decide) ?_
              rw [nI_1]
              refine nxt 1 (fun hk => ?_) (fun hk => ?_) (Or.inr rfl)
              · rw [if_pos ((hW.used hY hk).mp hus)]
              · rw [hk, hf3] at hz
                exact absurd rfl hz
        · refine n_aload_n hC dX12_sweep_53 rfl rfl ?_
          refine gm_isProgram hC wfX12_118 dX12_sweep_54 ?_
          refine n_iload_n hC dX12_sweep_57 rfl rfl ?_
          refine n_aload_n hC dX12_sweep_58 rfl rfl ?_
          refine gm_isProgram hC wfX12_118 dX12_sweep_59 ?_
          refine n_iload_n hC dX12_sweep_62 rfl rfl ?_
          first | refine r_ldb hC rfl (fun _ => rfl) (by decide) (by first | omega | with_reducible assumption) dX12_sweep_63 ?_ | refine r_ldz hC rfl (fun _ => rfl) (by decide) (by first | omega | with_reducible assumption) dX12_sweep_63 ?_
          rw [efl]
          refine n_if_eq (tgt := 75) hC dX12_sweep_64 (by decide) (fun h => ?_) (fun h => ?_)
          · refine n_iconst (v := 0) hC dX12_sweep_75 (by decide) ?_
            first | refine r_stb hC rfl (fun _ h => h) (fun _ => rfl) (by decide) (by first | omega | with_reducible assumption) dX12_sweep_76 ?_ | refine r_stz hC rfl (fun _ h => h) (fun _ => rfl) (by decide) (by first | omega | with_reducible assumption) rfl dX12_sweep_76 ?_
            refine n_iinc hC dX12_sweep_77 rfl (show _ + Int32.ofInt 1 = _ + 1 from rfl) ?_
            refine n_goto (tgt := 2) hC dX12_sweep_80 (by decide) ?_
            rw [nI_1]
            refine nxt0 0 (fun hk => ?_) (fun _ => rfl) (Or.inl rfl)
            rw [if_neg (fun z => hus ((hW.used hY hk).mpr z))]
          · refine n_iload_n hC dX12_sweep_67 rfl rfl ?_
            refine n_if_eq (tgt := 75) hC dX12_sweep_68 (by decide) (fun h => ?_) (fun h => ?_)
            · refine n_iconst (v := 0) hC dX12_sweep_75 (by decide) ?_
              first | refine r_stb hC rfl (fun _ h => h) (fun _ => rfl) (by decide) (by first | omega | with_reducible assumption) dX12_sweep_76 ?_ | refine r_stz hC rfl (fun _ h => h) (fun _ => rfl) (by decide) (by first | omega | with_reducible assumption) rfl dX12_sweep_76 ?_
              refine n_iinc hC dX12_sweep_77 rfl (show _ + Int32.ofInt 1 = _ + 1 from rfl) ?_
              refine n_goto (tgt := 2) hC dX12_sweep_80 (by decide) ?_
              rw [nI_1]
              refine nxt0 0 (fun hk => ?_) (fun _ => rfl) (Or.inl rfl)
              rw [if_neg (fun z => hus ((hW.used hY hk).mpr z))]
            · exact absurd rfl (by assumption)
  refine n_iconst (v := 0) hC dX12_sweep_0 (by decide) ?_
  refine n_istore_n hC dX12_sweep_1 rfl (Nat.le_of_ble_eq_true rfl) ?_
  exact loop 13 0 τ _ _ (by omega) (fun _ _ _ => rfl) (fun i h _ => by omega) (fun h => by omega) (fun _ _ => rfl)
end RFN
