theorem ms_e (M : n_M) (c i : Nat) (v : Int32) : (m_s M c i v).1 c i = v := if_pos ⟨rfl, rfl⟩
theorem ms_n {M : n_M} {c i c' i' : Nat} {v : Int32} (h : ¬ (c' = c ∧ i' = i)) : (m_s M c i v).1 c' i' = M.1 c' i' := if_neg h
theorem ml_e (M : n_M) (c i : Nat) (v : List Int32) : (m_l M c i v).2 c i = v := if_pos ⟨rfl, rfl⟩
theorem ml_n {M : n_M} {c i c' i' : Nat} {v : List Int32} (h : ¬ (c' = c ∧ i' = i)) : (m_l M c i v).2 c' i' = M.2 c' i' := if_neg h
theorem m_usr_s {M : n_M} {p c i : Nat} (hc : c ≠ 12) : (m_usr M p).1 c i = M.1 c i := by
  unfold m_usr
  split
  · rfl
  · simp only [m_s]; rw [if_neg (by omega)]
theorem m_usr_l (M : n_M) (p : Nat) : (m_usr M p).2 = M.2 := by
  unfold m_usr
  split <;> rfl
theorem m_van_o {M : n_M} {p c r : Nat} (hc : c ≠ 12) (hr : r ≠ p) : (m_van M p).1 c r = M.1 c r := by
  unfold m_van
  rw [ms_n (by omega), ms_n (by omega), ms_n (by omega), ms_n (by omega), ms_n (by omega), ms_n (by omega), m_usr_s hc]
  unfold m_emp
  rw [ms_n (by omega), ms_n (by omega), ms_n (by omega)]
  rfl
theorem m_van_p (M : n_M) (p : Nat) : (m_van M p).1 0 p = 0 ∧ (m_van M p).1 1 p = 0 ∧ (m_van M p).1 2 p = 0 ∧ (m_van M p).1 3 p = 0 ∧ (m_van M p).1 4 p = 0 ∧ (m_van M p).1 6 p = 0 ∧ (m_van M p).1 5 p = 0 ∧ (m_van M p).1 7 p = 0 ∧ (m_van M p).1 8 p = 0 := by
  unfold m_van
  refine ⟨?_, ?_, ?_, ?_, ?_, ?_, ?_, ?_, ?_⟩
  · rw [ms_n (by omega), ms_n (by omega), ms_n (by omega), ms_n (by omega), ms_e]
  · rw [ms_n (by omega), ms_n (by omega), ms_n (by omega), ms_e]
  · rw [ms_n (by omega), ms_n (by omega), ms_e]
  · rw [ms_n (by omega), ms_e]
  · rw [ms_n (by omega), ms_n (by omega), ms_n (by omega), ms_n (by omega), ms_n (by omega), ms_e]
  · rw [ms_e]
  · rw [ms_n (by omega), ms_n (by omega), ms_n (by omega), ms_n (by omega), ms_n (by omega), ms_n (by omega), m_usr_s (by omega)]
    unfold m_emp
    rw [ms_n (by omega), ms_n (by omega), ms_e]
  · rw [ms_n (by omega), ms_n (by omega), ms_n (by omega), ms_n (by omega), ms_n (by omega), ms_n (by omega), m_usr_s (by omega)]
    unfold m_emp
    rw [ms_e]
  · rw [ms_n (by omega), ms_n (by omega), ms_n (by omega), ms_n (by omega), ms_n (by omega), ms_n (by omega), m_usr_s (by omega)]
    unfold m_emp
    rw [ms_n (by omega), ms_e]
theorem m_van_5 (M : n_M) (p r : Nat) : (m_van M p).2 5 r = M.2 5 r := by
  unfold m_van
  rw [m_s_l, m_s_l, m_s_l, m_s_l, m_s_l, m_s_l, m_usr_l]
  unfold m_emp
  rw [m_s_l, m_s_l, m_s_l, ml_n (by omega), ml_n (by omega), ml_n (by omega), ml_n (by omega), ml_n (by omega), ml_n (by omega)]
theorem IR_idle {N N' : n_M} (h : IR N) {q : Nat} (hq : n_V q) (hb : N.1 0 q ≠ 1 ∧ N.1 0 q ≠ 6) (h0 : ∀ r, n_V r → r ≠ q → N'.1 0 r = N.1 0 r) (h2 : ∀ r, n_V r → r ≠ q → N'.1 2 r = N.1 2 r) (h7 : ∀ r, n_V r → r ≠ q → N'.1 7 r = N.1 7 r) (hs : N'.1 0 q ≠ 1 ∧ N'.1 0 q ≠ 6) (hl : ∃ r, r < 3 ∧ N'.1 2 q = nI r) (h5 : ∀ r, r < 11 → N'.2 5 r = N.2 5 r) : IR N' := by
  refine IR_off h hq h0 h2 h7 hs hl (fun r hr => ?_)
  rw [h5 r hr, m_fq_id]
  by_cases hr3 : r < 3
  · exact h.notrow hq hr3 hb.1
  · have := h.notque hq (k := r - 3) (by omega) hb.2
    rwa [Nat.sub_add_cancel (by omega)] at this
def IP (M : n_M) : Prop := ∀ r, n_V r → m_pok M r
theorem m_emp_s {M : n_M} {p c r : Nat} (h : ¬ (r = p ∧ (c = 5 ∨ c = 7 ∨ c = 8))) : (m_emp M p).1 c r = M.1 c r := by
  unfold m_emp
  rw [ms_n (by omega), ms_n (by omega), ms_n (by omega)]
  rfl
theorem m_emp_5 (M : n_M) (p r : Nat) : (m_emp M p).2 5 r = M.2 5 r := by
  unfold m_emp
  rw [m_s_l, m_s_l, m_s_l, ml_n (by omega), ml_n (by omega), ml_n (by omega), ml_n (by omega), ml_n (by omega), ml_n (by omega)]
theorem m_free_s {M : n_M} {o x : Int32} {c r : Nat} (h : c ≠ 11 ∧ c ≠ 13) : (m_free M o x).1 c r = M.1 c r := by
  simp only [m_free, m_mem]
  rw [if_neg h.1, if_neg h.2]
theorem m_free_5 (M : n_M) (o x : Int32) (r : Nat) : (m_free M o x).2 5 r = M.2 5 r := by simp [m_free, m_mem]
def m_K (M : n_M) (q n : Nat) : n_M := m_kids q n (m_emp (m_outs q 11 (m_free M (nI q) (-1))) q)
theorem m_K_s (M : n_M) (q n : Nat) : m_K M q (n + 1) = m_kid1 (m_K M q n) q (n + 1) := rfl
theorem m_K0_s {M : n_M} {q c r : Nat} (h : ¬ (r = q ∧ (c = 5 ∨ c = 7 ∨ c = 8))) (h2 : c ≠ 11 ∧ c ≠ 13) : (m_K M q 0).1 c r = M.1 c r := by
  show (m_emp (m_outs q 11 (m_free M (nI q) (-1))) q).1 c r = M.1 c r
  rw [m_emp_s h, m_outs_s, m_free_s h2]
theorem m_K0_5 {M : n_M} {q r : Nat} (hr : r < 11) : (m_K M q 0).2 5 r = m_fq q (M.2 5 r) := by
  show (m_emp (m_outs q 11 (m_free M (nI q) (-1))) q).2 5 r = _
  rw [m_emp_5, m_outs_l, if_pos ⟨rfl, hr⟩, m_free_5]
theorem m_K_facts {M : n_M} (hI : IR M) (hP : IP M) {q : Nat} (hq : n_V q) (hpar : M.1 3 q ≠ nI q) : ∀ n, n ≤ 12 → IR (m_s (m_K M q n) 0 q 7) ∧ (m_K M q n).1 3 q = M.1 3 q ∧ IP (m_K M q n)
  | 0, _ => by
    refine ⟨IR_off hI hq (fun r _ hne => ?_) (fun r _ hne => ?_) (fun r _ hne => ?_) ?_ ?_ (fun r hr => ?_), ?_, fun r hr => ?_⟩
    · rw [ms_n (by omega), m_K0_s (by omega) (by omega)]
    · rw [ms_n (by omega), m_K0_s (by omega) (by omega)]
    · rw [ms_n (by omega), m_K0_s (by omega) (by omega)]
    · rw [ms_e]; decide
    · obtain ⟨r, hr, e⟩ := hI.1 q hq
      exact ⟨r, hr, by rw [ms_n (by omega), m_K0_s (by omega) (by omega)]; exact e⟩
    · rw [m_s_l, m_K0_5 hr]
    · rw [m_K0_s (by omega) (by omega)]
    · unfold m_pok
      rw [m_K0_s (by omega) (by omega)]
      exact hP r hr
  | n + 1, hn => by
    obtain ⟨h1, h2, h3⟩ := m_K_facts hI hP hq hpar n (by omega)
    have hp : n_V (n + 1) := ⟨by omega, hn⟩
    have hKK := m_K_s M q n
    rw [hKK]
    generalize m_K M q n = K at h1 h2 h3
    unfold m_kid1
    by_cases e : K.1 3 (n + 1) = nI q
    · have hne : n + 1 ≠ q := fun z => hpar (by rw [← h2]; rw [z] at e; exact e)
      rw [if_pos e]
      by_cases e7 : K.1 0 (n + 1) = 7
      · rw [if_pos e7]
        refine ⟨IR_idle h1 hp ?_ (fun r _ hr => ?_) (fun r _ hr => ?_) (fun r _ hr => ?_) ?_ ?_ (fun r _ => ?_), ?_, fun r hr => ?_⟩
        · rw [ms_n (by omega), e7]
          decide
        · by_cases z : r = q
          · rw [z, ms_e, ms_e]
          · rw [ms_n (by omega), m_van_o (by omega) hr, ms_n (by omega), ms_n (by omega)]
        · rw [ms_n (by omega), m_van_o (by omega) hr, ms_n (by omega), ms_n (by omega)]
        · rw [ms_n (by omega), m_van_o (by omega) hr, ms_n (by omega), ms_n (by omega)]
        · rw [ms_n (by omega), (m_van_p _ _).1]
          decide
        · exact ⟨0, by omega, by rw [ms_n (by omega), (m_van_p _ _).2.2.1]; rfl⟩
        · rw [m_s_l, m_van_5, m_s_l, m_s_l]
        · rw [m_van_o (by omega) (fun z => hne z.symm), ms_n (by omega)]
          exact h2
        · by_cases z : r = n + 1
          · subst z
            exact Or.inl (m_van_p _ _).2.2.2.2.1
          · unfold m_pok
            rw [m_van_o (by omega) z, ms_n (by omega)]
            exact h3 r hr
      · rw [if_neg e7]
        refine ⟨IR_cong h1 (fun r _ => ?_) (fun r _ => ?_) (fun r _ => ?_) (fun r _ => rfl), ?_, fun r hr => ?_⟩
        · by_cases z : r = q
          · rw [z, ms_e, ms_e]
          · rw [ms_n (by omega), ms_n (by omega), ms_n (by omega)]
        · rw [ms_n (by omega), ms_n (by omega), ms_n (by omega)]
        · rw [ms_n (by omega), ms_n (by omega), ms_n (by omega)]
        · rw [ms_n (by omega)]
          exact h2
        · unfold m_pok
          rw [ms_n (by omega)]
          exact h3 r hr
    · rw [if_neg e]
      exact ⟨h1, h2, h3⟩
theorem m_fin1_eq (M : n_M) (q : Nat) (v : Int32) : m_fin1 M q v = m_s (m_s (m_K M q 12) 0 q 7) 1 q v := rfl
theorem IR_fin1 {M : n_M} (hI : IR M) (hP : IP M) {q : Nat} (hq : n_V q) (hpar : M.1 3 q ≠ nI q) (v : Int32) : IR (m_fin1 M q v) := by
  rw [m_fin1_eq]
  exact IR_s (m_K_facts hI hP hq hpar 12 (Nat.le_refl _)).1 (by omega)
section FI
variable {l : Launch} {D : va_G} {ca : Nat → ClassId} {ad : Nat → Nat → Nat} {ae : Nat → Nat} {Ex : State → Heap → Prop}
set_option maxHeartbeats 2000000 in
theorem c_finish (d q : Nat) (v : Int32) (M : n_M) (σ : n_S) (hM : RepC M σ) (hB : IB M) (hI : IR M) (hP : IP M) (hq : n_V q) (hpar : M.1 3 q = 0 ∨ ∃ r, n_V r ∧ r ≠ q ∧ M.1 3 q = nI r) : n_Ct l (cw D ca ad ae Ex) (d + 3) yX2_finish cX2_finish 5 none [.ref (ad 9 0), .ref (ad 21 q), .int v] σ (fun rv σ' => rv = none ∧ RepC (m_fin M q v) σ') := by
  have hpq : M.1 3 q ≠ nI q := by
    intro z
    rcases hpar with h | ⟨r, hr, hne, h⟩
    · rw [h] at z
      exact nI_ne0 hq.1 (by obtain ⟨a, b⟩ := hq; omega) z.symm
    · rw [h] at z
      exact hne (nV_inj hr hq z)
  obtain ⟨hq1, hq12⟩ := id hq
  refine n_ofW (by decide) (Nat.le_of_ble_eq_true rfl) ?_
  intro p e s m below meth c hC
  have hd : cw_dom 21 q := hq
  have tail : ∀ (σ1 : n_S) (z3 z4 : Option Value), RepC (m_K M q 12) σ1 → n_W p l e s m [Value.ref (ad 9 0), Value.ref (ad 21 q), Value.int v].toArray below meth c (cw D ca ad ae Ex) (d + 3) (fun rv σ' => rv = none ∧ RepC (m_fin M q v) σ') 124 [some (.ref (ad 9 0)), some (.ref (ad 21 q)), some (.int v), z3, z4] [] σ1 := by
    intro σ1 z3 z4 h1
    obtain ⟨-, f2, -⟩ := m_K_facts hI hP hq hpq 12 (Nat.le_refl _)
    have hIf := IR_fin1 hI hP hq hpq v
    have hR : RepC (m_fin1 M q v) (n_up (n_up σ1 21 q 7 7) 21 q 8 v) := by
      rw [m_fin1_eq]
      exact cu_1 (cu_0 h1 hq) hq
    have e3 : n_up (n_up σ1 21 q 7 7) 21 q 8 v 21 q 10 = M.1 3 q := by
      have h9 := hR.1 3 q hq
      rw [m_fin1_eq, ms_n (by omega), ms_n (by omega), f2] at h9
      exact h9
    refine n_aload_n hC dX2_finish_124 rfl rfl ?_
    refine n_bipush (v := 7) hC dX2_finish_125 (by decide) ?_
    refine p21_status hC (by first | exact rfl | with_reducible assumption) wfX2_66 dX2_finish_127 ?_
    refine n_aload_n hC dX2_finish_130 rfl rfl ?_
    refine n_iload_n hC dX2_finish_131 rfl rfl ?_
    refine p21_code hC (by first | exact rfl | with_reducible assumption) wfX2_121 dX2_finish_132 ?_
    refine n_aload_n hC dX2_finish_135 rfl rfl ?_
    refine n_aload_n hC dX2_finish_136 rfl rfl ?_
    refine g21_parent hC (by first | exact rfl | with_reducible assumption) wfX2_60 dX2_finish_137 ?_
    generalize n_up (n_up σ1 21 q 7 7) 21 q 8 v = σ2 at hR e3
    rw [e3]
    refine n_callV hC (c_find (d + 2) (M.1 3 q) σ2) (Nat.le_refl _) (by decide) (by first | exact rfl | with_reducible assumption) rfl rfl rfl ⟨wmX2_56, wi_yX2_find, wv_yX2_find, wzX2, wc_yX2_find⟩ hy_yX2_find rfl (Nat.le_of_ble_eq_true rfl) dX2_finish_140 (fun rv σ' hpo => ?_)
    obtain ⟨hpo, rfl⟩ := hpo
    rcases hpo with ⟨r, hr, er, rfl⟩ | ⟨hx, rfl⟩
    · have hrV : n_V r := hr
      have hdr : cw_dom 21 r := hr
      have hup : m_up M q = r := by
        unfold m_up
        rw [er, nI_clamp (by omega)]
      have hn0 : M.1 3 q ≠ 0 := by rw [er]; exact nI_ne0 hr.1 (by omega)
      have g1 : σ' 21 r 7 = (m_fin1 M q v).1 0 r := hR.1 0 r hr
      have g2 : σ' 21 r 15 = (m_fin1 M q v).1 7 r := hR.1 7 r hr
      first | refine n_astore_n hC dX2_finish_143 rfl (Nat.le_of_ble_eq_true rfl) ?_ | refine n_astore_nN hC dX2_finish_143 rfl (Nat.le_of_ble_eq_true rfl) ?_
      refine n_aload_n hC dX2_finish_144 rfl rfl ?_
      first | refine n_ifnull hC dX2_finish_145 ?_ | refine n_ifnullN (tgt := 172) hC dX2_finish_145 (by decide) ?_
      refine n_aload_n hC dX2_finish_148 rfl rfl ?_
      refine g21_status hC (by first | exact rfl | with_reducible assumption) wfX2_66 dX2_finish_149 ?_
      rw [g1]
      refine n_iconst (v := 3) hC dX2_finish_152 (by decide) ?_
      refine n_icmp_ne (tgt := 172) hC dX2_finish_153 (by decide) (fun h => ?_) (fun h => ?_)
      · refine n_vret hC dX2_finish_172 ?_
        refine ⟨rfl, ?_⟩
        unfold m_fin
        rw [hup, if_neg (fun z => h z.2.1)]
        exact hR
      · have h3 : (m_fin1 M q v).1 0 r = 3 := h
        clear h
        refine n_aload_n hC dX2_finish_156 rfl rfl ?_
        refine g21_awaited hC (by first | exact rfl | with_reducible assumption) wfX2_83 dX2_finish_157 ?_
        refine n_aload_n hC dX2_finish_160 rfl rfl ?_
        refine g21_number hC (by first | exact rfl | with_reducible assumption) wfX2_63 dX2_finish_161 ?_
        rw [g2]
        refine n_icmp_ne (tgt := 172) hC dX2_finish_164 (by decide) (fun h => ?_) (fun h => ?_)
        · refine n_vret hC dX2_finish_172 ?_
          refine ⟨rfl, ?_⟩
          unfold m_fin
          rw [hup, if_neg (fun z => h z.2.2)]
          exact hR
        · have h7 : (m_fin1 M q v).1 7 r = nI q := h
          clear h
          refine n_aload_n hC dX2_finish_167 rfl rfl ?_
          refine n_aload_n hC dX2_finish_168 rfl rfl ?_
          refine n_callV hC (c_makeReady (d + 1) r (m_fin1 M q v) σ' hR hr (hIf.1 r hrV) (hIf.row hrV (hIf.lv hrV).1 (hIf.notrow hrV (hIf.lv hrV).1 (by rw [h3]; decide)))) (Nat.le_refl _) (by decide) (by first | exact rfl | with_reducible assumption) rfl rfl rfl ⟨wmX2_79, wi_yX2_makeReady, wv_yX2_makeReady, wzX2, wc_yX2_makeReady⟩ hy_yX2_makeReady rfl (Nat.le_of_ble_eq_true rfl) dX2_finish_169 (fun rv σ' hpo => ?_)
          obtain ⟨rfl, hR2⟩ := hpo
          refine n_vret hC dX2_finish_172 ?_
          refine ⟨rfl, ?_⟩
          unfold m_fin
          rw [hup, if_pos ⟨hn0, h3, h7⟩]
          exact hR2
    · have h0 : M.1 3 q = 0 := by
        rcases hpar with h | ⟨r, hr, -, h⟩
        · exact h
        · exfalso
          obtain ⟨a, b⟩ := hr
          refine hx ?_
          rw [h]
          exact ⟨nI_le (a := 1) (by omega) (by omega), nI_le (b := 12) (by omega) (by omega)⟩
      first | refine n_astore_n hC dX2_finish_143 rfl (Nat.le_of_ble_eq_true rfl) ?_ | refine n_astore_nN hC dX2_finish_143 rfl (Nat.le_of_ble_eq_true rfl) ?_
      refine n_aload_nN hC dX2_finish_144 rfl rfl ?_
      first | refine n_ifnull hC dX2_finish_145 ?_ | refine n_ifnullN (tgt := 172) hC dX2_finish_145 (by decide) ?_
      refine n_vret hC dX2_finish_172 ?_
      refine ⟨rfl, ?_⟩
      unfold m_fin
      rw [if_neg (fun z => z.1 h0)]
      exact hR
  have kids : ∀ (n k : Nat) (σ1 : n_S) (z4 : Option Value), n + k = 12 → RepC (m_K M q k) σ1 → n_W p l e s m [Value.ref (ad 9 0), Value.ref (ad 21 q), Value.int v].toArray below meth c (cw D ca ad ae Ex) (d + 3) (fun rv σ' => rv = none ∧ RepC (m_fin M q v) σ') 71 [some (.ref (ad 9 0)), some (.ref (ad 21 q)), some (.int v), some (.int (nI (k + 1))), z4] [] σ1 := by
    intro n
    induction n with
    | zero =>
      intro k σ1 z4 hk hR
      have : k = 12 := by omega
      subst this
      refine n_iload_n hC dX2_finish_71 rfl rfl ?_
      refine n_bipush (v := 12) hC dX2_finish_72 (by decide) ?_
      refine n_icmp_gt (tgt := 124) hC dX2_finish_74 (by decide) (fun h => ?_) (fun h => ?_)
      · exact tail σ1 _ _ hR
      · exact absurd (by decide) h
    | succ n ih =>
      intro k σ1 z4 hk hR
      have hp : n_V (k + 1) := ⟨by omega, by omega⟩
      have hdp : cw_dom 21 (k + 1) := hp
      obtain ⟨-, -, hPk⟩ := m_K_facts hI hP hq hpq k (by omega)
      have hKK := m_K_s M q k
      have e1 : σ1 21 (k + 1) 10 = (m_K M q k).1 3 (k + 1) := hR.1 3 _ hp
      have step : ∀ σ2 : n_S, RepC (m_kid1 (m_K M q k) q (k + 1)) σ2 → n_W p l e s m [Value.ref (ad 9 0), Value.ref (ad 21 q), Value.int v].toArray below meth c (cw D ca ad ae Ex) (d + 3) (fun rv σ' => rv = none ∧ RepC (m_fin M q v) σ') 118 [some (.ref (ad 9 0)), some (.ref (ad 21 q)), some (.int v), some (.int (nI (k + 1))), some (.ref (ad 21 (k + 1)))] [] σ2 := by
        intro σ2 h2
        refine n_iinc hC dX2_finish_118 rfl (show _ + Int32.ofInt 1 = _ + 1 from rfl) ?_
        refine n_goto (tgt := 71) hC dX2_finish_121 (by decide) ?_
        rw [nI_1]
        exact ih (k + 1) σ2 _ (by omega) (by rw [hKK]; exact h2)
      refine n_iload_n hC dX2_finish_71 rfl rfl ?_
      refine n_bipush (v := 12) hC dX2_finish_72 (by decide) ?_
      refine n_icmp_gt (tgt := 124) hC dX2_finish_74 (by decide) (fun h => ?_) (fun h => ?_)
      · exact absurd h (nI_nlt (a := 12) (by omega) (by decide))
      · clear h
        refine n_aload_n hC dX2_finish_77 rfl rfl ?_
        refine g9_processes hC (by first | exact rfl | with_reducible assumption) wfX2_11 dX2_finish_78 ?_
        refine n_iload_n hC dX2_finish_81 rfl rfl ?_
        first | refine a_rows hC (by omega) dX2_finish_82 ?_ | refine a_queues hC (by omega) dX2_finish_82 ?_ | refine a_procs hC (by omega) dX2_finish_82 ?_ | refine a_progs hC (by omega) dX2_finish_82 ?_
        first | refine n_astore hC dX2_finish_83 (Nat.le_of_ble_eq_true rfl) ?_ | refine n_astoreN hC dX2_finish_83 (Nat.le_of_ble_eq_true rfl) ?_
        refine n_aload hC dX2_finish_85 rfl ?_
        refine g21_parent hC (by first | exact rfl | with_reducible assumption) wfX2_60 dX2_finish_87 ?_
        refine n_aload_n hC dX2_finish_90 rfl rfl ?_
        refine g21_number hC (by first | exact rfl | with_reducible assumption) wfX2_63 dX2_finish_91 ?_
        rw [e1]
        refine n_icmp_ne (tgt := 118) hC dX2_finish_94 (by decide) (fun h => ?_) (fun h => ?_)
        · exact step σ1 (by unfold m_kid1; rw [if_neg h]; exact hR)
        · have he : (m_K M q k).1 3 (k + 1) = nI q := h
          clear h
          have hR2 : RepC (m_s (m_K M q k) 3 (k + 1) 0) (n_up σ1 21 (k + 1) 10 0) := cu_3 hR hp
          have e2 : n_up σ1 21 (k + 1) 10 0 21 (k + 1) 7 = (m_K M q k).1 0 (k + 1) := by
            rw [show n_up σ1 21 (k + 1) 10 0 21 (k + 1) 7 = _ from hR2.1 0 _ hp, ms_n (by omega)]
          refine n_aload hC dX2_finish_97 rfl ?_
          refine n_iconst (v := 0) hC dX2_finish_99 (by decide) ?_
          refine p21_parent hC (by first | exact rfl | with_reducible assumption) wfX2_60 dX2_finish_100 ?_
          refine n_aload hC dX2_finish_103 rfl ?_
          refine g21_status hC (by first | exact rfl | with_reducible assumption) wfX2_66 dX2_finish_105 ?_
          rw [e2]
          refine n_bipush (v := 7) hC dX2_finish_108 (by decide) ?_
          refine n_icmp_ne (tgt := 118) hC dX2_finish_110 (by decide) (fun h => ?_) (fun h => ?_)
          · exact step _ (by unfold m_kid1; rw [if_pos he, if_neg h]; exact hR2)
          · have h7 : (m_K M q k).1 0 (k + 1) = 7 := h
            clear h
            refine n_aload hC dX2_finish_113 rfl ?_
            refine n_callV hC (c_vanish (d + 1) (k + 1) _ _ hR2 hp (by unfold m_pok; rw [ms_n (by omega)]; exact hPk _ hp)) (Nat.le_refl _) (by decide) (by first | exact rfl | with_reducible assumption) rfl rfl rfl ⟨wmX2_118, wi_yX9_vanish, wv_yX9_vanish, wzX9, wc_yX9_vanish⟩ hy_yX9_vanish rfl (Nat.le_of_ble_eq_true rfl) dX2_finish_115 (fun rv σ' hpo => ?_)
            obtain ⟨rfl, hR3⟩ := hpo
            exact step _ (by unfold m_kid1; rw [if_pos he, if_pos h7]; exact hR3)
  have ques : ∀ (n k : Nat) (σ1 : n_S) (z4 : Option Value), n + k = 8 → RepC (m_outs q (k + 3) (m_free M (nI q) (-1))) σ1 → n_W p l e s m [Value.ref (ad 9 0), Value.ref (ad 21 q), Value.int v].toArray below meth c (cw D ca ad ae Ex) (d + 3) (fun rv σ' => rv = none ∧ RepC (m_fin M q v) σ') 40 [some (.ref (ad 9 0)), some (.ref (ad 21 q)), some (.int v), some (.int (nI k)), z4] [] σ1 := by
    intro n
    induction n with
    | zero =>
      intro k σ1 z4 hk hR
      have : k = 8 := by omega
      subst this
      refine n_iload_n hC dX2_finish_40 rfl rfl ?_
      refine n_bipush (v := 8) hC dX2_finish_41 (by decide) ?_
      refine n_icmp_ge (tgt := 65) hC dX2_finish_43 (by decide) (fun h => ?_) (fun h => ?_)
      · refine n_aload_n hC dX2_finish_65 rfl rfl ?_
        refine n_callV hC (c_empty (d + 2) q _ _ hR hq) (Nat.le_refl _) (by decide) (by first | exact rfl | with_reducible assumption) rfl rfl rfl ⟨wmX2_115, wi_yX9_empty, wv_yX9_empty, wzX9, wc_yX9_empty⟩ hy_yX9_empty rfl (Nat.le_of_ble_eq_true rfl) dX2_finish_66 (fun rv σ' hpo => ?_)
        obtain ⟨rfl, hR2⟩ := hpo
        refine n_iconst (v := 1) hC dX2_finish_69 (by decide) ?_
        refine n_istore_n hC dX2_finish_70 rfl (Nat.le_of_ble_eq_true rfl) ?_
        exact kids 12 0 _ _ rfl hR2
      · exact absurd (by decide) h
    | succ n ih =>
      intro k σ1 z4 hk hR
      refine n_iload_n hC dX2_finish_40 rfl rfl ?_
      refine n_bipush (v := 8) hC dX2_finish_41 (by decide) ?_
      refine n_icmp_ge (tgt := 65) hC dX2_finish_43 (by decide) (fun h => ?_) (fun h => ?_)
      · exact absurd h (nI_ge (b := 8) (by omega) (by decide))
      · clear h
        refine n_aload_n hC dX2_finish_46 rfl rfl ?_
        refine g9_queues hC (by first | exact rfl | with_reducible assumption) wfX2_33 dX2_finish_47 ?_
        refine n_iload_n hC dX2_finish_50 rfl rfl ?_
        first | refine a_rows hC (by omega) dX2_finish_51 ?_ | refine a_queues hC (by omega) dX2_finish_51 ?_ | refine a_procs hC (by omega) dX2_finish_51 ?_ | refine a_progs hC (by omega) dX2_finish_51 ?_
        refine n_aload_n hC dX2_finish_52 rfl rfl ?_
        refine g21_number hC (by first | exact rfl | with_reducible assumption) wfX2_63 dX2_finish_53 ?_
        refine n_callV hC (c_leave (d + 2) (k + 3) (nI q) _ _ hR (by omega)) (Nat.le_refl _) (by decide) (show k + 3 < 11 by omega) rfl rfl rfl ⟨wmX2_92, wi_yX7_leave, wv_yX7_leave, wzX7, wc_yX7_leave⟩ hy_yX7_leave rfl (Nat.le_of_ble_eq_true rfl) dX2_finish_56 (fun rv σ' hpo => ?_)
        obtain ⟨rfl, hR2⟩ := hpo
        refine n_iinc hC dX2_finish_59 rfl (show _ + Int32.ofInt 1 = _ + 1 from rfl) ?_
        refine n_goto (tgt := 40) hC dX2_finish_62 (by decide) ?_
        rw [nI_1]
        exact ih (k + 1) _ _ (by omega) hR2
  have rows : ∀ (n k : Nat) (σ1 : n_S) (z4 : Option Value), n + k = 3 → RepC (m_outs q k (m_free M (nI q) (-1))) σ1 → n_W p l e s m [Value.ref (ad 9 0), Value.ref (ad 21 q), Value.int v].toArray below meth c (cw D ca ad ae Ex) (d + 3) (fun rv σ' => rv = none ∧ RepC (m_fin M q v) σ') 14 [some (.ref (ad 9 0)), some (.ref (ad 21 q)), some (.int v), some (.int (nI k)), z4] [] σ1 := by
    intro n
    induction n with
    | zero =>
      intro k σ1 z4 hk hR
      have : k = 3 := by omega
      subst this
      refine n_iload_n hC dX2_finish_14 rfl rfl ?_
      refine n_iconst (v := 3) hC dX2_finish_15 (by decide) ?_
      refine n_icmp_ge (tgt := 38) hC dX2_finish_16 (by decide) (fun h => ?_) (fun h => ?_)
      · refine n_iconst (v := 0) hC dX2_finish_38 (by decide) ?_
        refine n_istore_n hC dX2_finish_39 rfl (Nat.le_of_ble_eq_true rfl) ?_
        exact ques 8 0 _ _ rfl hR
      · exact absurd (by decide) h
    | succ n ih =>
      intro k σ1 z4 hk hR
      refine n_iload_n hC dX2_finish_14 rfl rfl ?_
      refine n_iconst (v := 3) hC dX2_finish_15 (by decide) ?_
      refine n_icmp_ge (tgt := 38) hC dX2_finish_16 (by decide) (fun h => ?_) (fun h => ?_)
      · exact absurd h (nI_ge (b := 3) (by omega) (by decide))
      · clear h
        refine n_aload_n hC dX2_finish_19 rfl rfl ?_
        refine g9_rows hC (by first | exact rfl | with_reducible assumption) wfX2_25 dX2_finish_20 ?_
        refine n_iload_n hC dX2_finish_23 rfl rfl ?_
        first | refine a_rows hC (by omega) dX2_finish_24 ?_ | refine a_queues hC (by omega) dX2_finish_24 ?_ | refine a_procs hC (by omega) dX2_finish_24 ?_ | refine a_progs hC (by omega) dX2_finish_24 ?_
        refine n_aload_n hC dX2_finish_25 rfl rfl ?_
        refine g21_number hC (by first | exact rfl | with_reducible assumption) wfX2_63 dX2_finish_26 ?_
        refine n_callV hC (c_leave (d + 2) k (nI q) _ _ hR (by omega)) (Nat.le_refl _) (by decide) (show k < 11 by omega) rfl rfl rfl ⟨wmX2_92, wi_yX7_leave, wv_yX7_leave, wzX7, wc_yX7_leave⟩ hy_yX7_leave rfl (Nat.le_of_ble_eq_true rfl) dX2_finish_29 (fun rv σ' hpo => ?_)
        obtain ⟨rfl, hR2⟩ := hpo
        refine n_iinc hC dX2_finish_32 rfl (show _ + Int32.ofInt 1 = _ + 1 from rfl) ?_
        refine n_goto (tgt := 14) hC dX2_finish_35 (by decide) ?_
        rw [nI_1]
        exact ih (k + 1) _ _ (by omega) hR2
  refine n_aload_n hC dX2_finish_0 rfl rfl ?_
  refine g9_memory hC (by first | exact rfl | with_reducible assumption) wfX2_39 dX2_finish_1 ?_
  refine n_aload_n hC dX2_finish_4 rfl rfl ?_
  refine g21_number hC (by first | exact rfl | with_reducible assumption) wfX2_63 dX2_finish_5 ?_
  refine n_iconst (v := -1) hC dX2_finish_8 (by decide) ?_
  refine n_callV hC (c_regain d (nI q) (-1) (m_nsl M) (M.2 11 0) M σ hM hB) (by omega) (by decide) (by first | exact rfl | with_reducible assumption) rfl rfl rfl ⟨wmX2_111, wi_yX3_regain, wv_yX3_regain, wzX3, wc_yX3_regain⟩ hy_yX3_regain rfl (Nat.le_of_ble_eq_true rfl) dX2_finish_9 (fun rv σ' hpo => ?_)
  obtain ⟨rfl, hR2⟩ := hpo
  refine n_iconst (v := 0) hC dX2_finish_12 (by decide) ?_
  refine n_istore_n hC dX2_finish_13 rfl (Nat.le_of_ble_eq_true rfl) ?_
  exact rows 3 0 _ _ rfl hR2
end FI
