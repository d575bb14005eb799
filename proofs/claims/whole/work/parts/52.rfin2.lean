theorem m_fr_all (o : Int32) : ∀ (ns : List Nat) (os : List Int32) (a : Nat), ns.length = os.length → m_fr o (-1) ns os a = os.map (fun x => if x = o then 0 else x)
  | [], [], _, _ => rfl
  | [], _ :: _, _, e => by simp at e
  | _ :: _, [], _, e => by simp at e
  | n :: ns, x :: os, a, e => by
    simp only [m_fr, List.map_cons]
    rw [m_fr_all o ns os (a + n) (by simpa using e)]
    simp
theorem m_outs_free (q n : Nat) (M : n_M) (o x : Int32) : m_outs q n (m_free M o x) = m_free (m_outs q n M) o x := by
  have e10 : m_nsl (m_outs q n M) = m_nsl M := by unfold m_nsl; rw [m_outs_l, if_neg (by omega)]
  have e11 : (m_outs q n M).2 11 0 = M.2 11 0 := by rw [m_outs_l, if_neg (by omega)]
  unfold m_free
  rw [e10, e11]
  refine m_ext (fun c i => ?_) (fun c i => ?_)
  · rw [m_outs_s]
    show (if c = 11 then _ else if c = 13 then _ else M.1 c i) = (if c = 11 then _ else if c = 13 then _ else (m_outs q n M).1 c i)
    rw [m_outs_s]
  · rw [m_outs_l]
    by_cases h5 : c = 5
    · rw [m_mem_l (by omega), m_mem_l (by omega), m_outs_l]
    · rw [if_neg (fun z => h5 z.1)]
      show (if c = 10 ∧ i = 0 then _ else if c = 11 ∧ i = 0 then _ else M.2 c i) = (if c = 10 ∧ i = 0 then _ else if c = 11 ∧ i = 0 then _ else (m_outs q n M).2 c i)
      rw [m_outs_l, if_neg (show ¬ (c = 5 ∧ i < n) from fun z => h5 z.1)]
theorem m_outs_one {M : n_M} {q r0 : Nat} (hr0 : r0 < 11) (h : ∀ r, r < 11 → r ≠ r0 → nI q ∉ M.2 5 r) : m_outs q 11 M = m_out M r0 q := by
  refine m_ext (fun c i => ?_) (fun c i => ?_)
  · rw [m_outs_s]; rfl
  · rw [m_outs_l]
    unfold m_out
    by_cases e : c = 5 ∧ i < 11
    · rw [if_pos e, e.1]
      by_cases e2 : i = r0
      · rw [e2, ml_e]; rfl
      · rw [ml_n (by omega), m_fq_id (h i e.2 e2)]
    · rw [if_neg e, ml_n (by omega)]
theorem m_outs_none {M : n_M} {q : Nat} (h : ∀ r, r < 11 → nI q ∉ M.2 5 r) : m_outs q 11 M = M := by
  refine m_ext (fun c i => ?_) (fun c i => ?_)
  · rw [m_outs_s]
  · rw [m_outs_l]
    by_cases e : c = 5 ∧ i < 11
    · rw [if_pos e, e.1, m_fq_id (h i e.2)]
    · rw [if_neg e]
theorem IR.o1 {M : n_M} (h : IR M) {q : Nat} (hq : n_V q) (h1 : M.1 0 q = 1) : m_outs q 11 M = m_out M (m_lv M q) q := by
  have hl := (h.lv hq).1
  refine m_outs_one (by omega) (fun r hr hne => ?_)
  by_cases hr3 : r < 3
  · exact h.notrow2 hq hr3 (fun z => hne (m_lv_i hr3 z).symm)
  · have := h.notque (k := r - 3) hq (by omega) (by rw [h1]; decide)
    rwa [show r - 3 + 3 = r by omega] at this
theorem IR.o6 {M : n_M} (h : IR M) {q k : Nat} (hq : n_V q) (h6 : M.1 0 q = 6) (hk : k < 8) (h7 : M.1 7 q = nI k) : m_outs q 11 M = m_out M (k + 3) q := by
  refine m_outs_one (by omega) (fun r hr hne => ?_)
  by_cases hr3 : r < 3
  · exact h.notrow hq hr3 (by rw [h6]; decide)
  · have := h.notque2 (k := r - 3) hq (by omega) (by
      rw [h7]
      intro z
      have := (nI_eq (by omega) (by omega)).mp z
      omega)
    rwa [show r - 3 + 3 = r by omega] at this
theorem IR.o0 {M : n_M} (h : IR M) {q : Nat} (hq : n_V q) (h0 : M.1 0 q ≠ 1 ∧ M.1 0 q ≠ 6) : m_outs q 11 M = M := by
  refine m_outs_none (fun r hr => ?_)
  by_cases hr3 : r < 3
  · exact h.notrow hq hr3 h0.1
  · have := h.notque (k := r - 3) hq (by omega) h0.2
    rwa [show r - 3 + 3 = r by omega] at this
theorem m_cnt_mono {M M' : n_M} (i : Nat) (hi : i < 12) (h : ∀ p, 1 ≤ p → p ≤ 12 → M'.1 4 p = M.1 4 p ∨ M'.1 4 p = 0) : ∀ n, n ≤ 12 → m_cnt M' i n ≤ m_cnt M i n
  | 0, _ => Nat.le_refl _
  | n + 1, hn => by
    have := m_cnt_mono i hi h n (by omega)
    show m_cnt M' i n + (if M'.1 4 (n + 1) = nI (i + 1) then 1 else 0) ≤ m_cnt M i n + (if M.1 4 (n + 1) = nI (i + 1) then 1 else 0)
    rcases h (n + 1) (by omega) hn with e | e
    · rw [e]; omega
    · rw [e, if_neg (fun z => nI_ne0 (by omega) (by omega) z.symm)]; omega
theorem m_kids_4 {q : Nat} : ∀ (n : Nat) (M : n_M) (p : Nat), (m_kids q n M).1 4 p = M.1 4 p ∨ (m_kids q n M).1 4 p = 0
  | 0, _, _ => Or.inl rfl
  | n + 1, M, p => by
    show (m_kid1 (m_kids q n M) q (n + 1)).1 4 p = _ ∨ (m_kid1 (m_kids q n M) q (n + 1)).1 4 p = 0
    rcases m_kids_4 n M p with e | e <;> generalize m_kids q n M = K at e ⊢ <;> unfold m_kid1 <;> split
    · split
      · by_cases ep : p = n + 1
        · rw [ep]; exact Or.inr (m_van_p _ _).2.2.2.2.1
        · rw [m_van_o (by omega) ep, ms_n (by omega)]; exact Or.inl e
      · rw [ms_n (by omega)]; exact Or.inl e
    · exact Or.inl e
    · split
      · by_cases ep : p = n + 1
        · rw [ep]; exact Or.inr (m_van_p _ _).2.2.2.2.1
        · rw [m_van_o (by omega) ep, ms_n (by omega)]; exact Or.inr e
      · rw [ms_n (by omega)]; exact Or.inr e
    · exact Or.inr e
theorem m_fin_4 {M : n_M} (h : II M) {q : Nat} (hq : n_V q) (v : Int32) (p : Nat) : (m_fin M q v).1 4 p = M.1 4 p ∨ (m_fin M q v).1 4 p = 0 := by
  have e : (m_fin M q v).1 4 p = (m_fin1 M q v).1 4 p := by
    unfold m_fin
    split
    · exact m_rdy_sn (by omega)
    · rfl
  rw [e, m_fin1_f0 (h.pn hq)]
  have e2 : (m_f0 M q v).1 4 p = M.1 4 p := by rw [m_f0_K, ms_n (by omega), ms_n (by omega), m_K0_s (by omega) (by omega)]
  rw [← e2]
  exact m_kids_4 12 _ p
theorem m_fin_12 {M : n_M} (h : II M) {q : Nat} (hq : n_V q) (ha : m_al M q) (v : Int32) {i : Nat} (hi : i < 12) (hu : 0 < (m_fin M q v).1 12 i) : 0 < M.1 12 i := by
  have hf := II_fin h hq ha v
  rw [hf.2.2.2.2.1 i hi] at hu
  rw [h.2.2.2.2.1 i hi]
  have h1 := m_cnt_mono (M := M) i hi (fun p _ _ => m_fin_4 h hq v p) 12 (Nat.le_refl _)
  have h2 := m_cnt_le M i 12
  have h3 := m_cnt_le (m_fin M q v) i 12
  have := (nI_ltI (a := 0) (by omega) (by omega)).mp hu
  exact (nI_ltI (a := 0) (by omega) (by omega)).mpr (by omega)
theorem re_box {τ0 τ : n_S} {M : n_M} {q : Nat} (h : RQ τ0 M τ) (hq : n_V q) : RQ τ0 (m_l (m_l M 2 (2 * q) []) 3 (2 * q) []) (n_up τ 30 0 q 0) :=
  rql_2 h hq (fun κ x a _ _ => n_up_o a) (n_up_e _ _ _ _) (Nat.zero_le _) rfl (fun j hj => absurd hj (Nat.not_lt_zero j)) (fun j hj => absurd hj (Nat.not_lt_zero j))
theorem re_key {τ0 τ : n_S} {M : n_M} {q : Nat} (h : RQ τ0 M τ) (hq : n_V q) : RQ τ0 (m_l (m_l M 2 (2 * q + 1) []) 3 (2 * q + 1) []) (n_up τ 33 0 q 0) :=
  rql_k h hq (fun κ x a _ => n_up_o a) (n_up_e _ _ _ _) (Nat.zero_le _) rfl (fun j hj => absurd hj (Nat.not_lt_zero j))
theorem re_stk {τ0 τ : n_S} {M : n_M} {q : Nat} (h : RQ τ0 M τ) (hq : n_V q) : RQ τ0 (m_l M 0 q []) (n_up τ 26 0 q 0) :=
  rql_0 h hq (fun κ x a _ => n_up_o a) (n_up_e _ _ _ _) (Nat.zero_le _) (fun j hj => absurd hj (Nat.not_lt_zero j))
theorem re_ret {τ0 τ : n_S} {M : n_M} {q : Nat} (h : RQ τ0 M τ) (hq : n_V q) : RQ τ0 (m_l M 1 q []) (n_up τ 28 0 q 0) :=
  rql_1 h hq (fun κ x a _ => n_up_o a) (n_up_e _ _ _ _) (Nat.zero_le _) (fun j hj => absurd hj (Nat.not_lt_zero j))
section RFI
variable {l : Launch} {D : va_G} {ca : Nat → ClassId} {ad : Nat → Nat → Nat} {Ex : State → Heap → Prop}
set_option maxHeartbeats 2000000 in
theorem x_finish (d q : Nat) (v : Int32) (τ0 : n_S) (M : n_M) (τ : n_S) (hS : RS τ0 M τ) (hI : II M) (hq : n_V q) (ha : m_al M q) : n_Ct l (rw D ca ad Ex) (d + 2) yX12_finish cX12_finish 4 none [.ref (ad 0 0), .int (nI q), .int v] τ (fun rv τ' => rv = none ∧ RS τ0 (m_fin M q v) τ') := by
  obtain ⟨hq1, hq2⟩ := id hq
  have hM := hS.q
  have hpn := hI.pn hq
  have hIf := II_fin hI hq ha v
  obtain ⟨hIf1, hf7⟩ := II_fin1 hI hq ha v
  refine n_ofW (by decide) (Nat.le_of_ble_eq_true rfl) ?_
  intro p e s m below meth c hC
  -- behind the waking: sweep
  have sw : ∀ (τ1 : n_S) (w : Option Value), RQ τ (m_fin M q v) τ1 → n_W p l e s m [Value.ref (ad 0 0), Value.int (nI q), Value.int v].toArray below meth c (rw D ca ad Ex) (d + 2) (fun rv τ' => rv = none ∧ RS τ0 (m_fin M q v) τ') 236 [some (.ref (ad 0 0)), some (.int (nI q)), some (.int v), w] [] τ1 := by
    intro τ1 w h1
    have g11 := h1.2.1
    refine n_aload_n hC dX12_finish_236 rfl rfl ?_
    refine n_callV hC (x_sweep (d + 1) τ (m_fin M q v) τ1 h1 hIf.w (fun i hi hu => (g11 i).trans ((hS.2.1.1 i hi).trans (if_pos (m_fin_12 hI hq ha v hi hu)))) (fun i hi => by rw [g11 i, hS.2.1.1 i hi]; split <;> simp) ((g11 12).trans hS.2.1.2)) (Nat.le_refl _) (by decide) (by first | exact rfl | with_reducible assumption) rfl rfl rfl ⟨wmX12_327, wi_yX12_sweep, wv_yX12_sweep, wzX12, wc_yX12_sweep⟩ hy_yX12_sweep rfl (Nat.le_of_ble_eq_true rfl) dX12_finish_237 (fun rv σ' hpo => ?_)
    obtain ⟨rfl, h2⟩ := hpo
    refine n_vret hC dX12_finish_240 ?_
    exact ⟨rfl, h2.1, h2.2.1, h2.2.2.1.trans hS.2.2.1, h2.2.2.2.trans hS.2.2.2⟩
  -- behind the children
  have af : ∀ (τ1 : n_S) (w : Option Value), RQ τ (m_fin1 M q v) τ1 → n_W p l e s m [Value.ref (ad 0 0), Value.int (nI q), Value.int v].toArray below meth c (rw D ca ad Ex) (d + 2) (fun rv τ' => rv = none ∧ RS τ0 (m_fin M q v) τ') 200 [some (.ref (ad 0 0)), some (.int (nI q)), some (.int v), w] [] τ1 := by
    intro τ1 w h1
    have e3 : (m_fin1 M q v).1 3 q = M.1 3 q := by
      rw [m_fin1_f0 hpn]
      have e2 : (m_f0 M q v).1 3 q = M.1 3 q := by rw [m_f0_K, ms_n (by omega), ms_n (by omega), m_K0_s (by omega) (by omega)]
      rw [m_kids_3 (by rw [e2]; exact hpn), e2]
    have ep : τ1 23 0 q = M.1 3 q := (h1.parent hq).trans e3
    refine n_aload_n hC dX12_finish_200 rfl rfl ?_
    refine gm_parent hC wfX12_146 dX12_finish_201 ?_
    refine n_iload_n hC dX12_finish_204 rfl rfl ?_
    first | refine r_ld hC rfl (fun _ => rfl) (by decide) (by first | omega | with_reducible assumption) dX12_finish_205 ?_ | refine r_needs hC (by first | exact vp_in_nI (by omega) (by decide) | with_reducible assumption) dX12_finish_205 ?_
    rw [ep]
    rcases hI.pr hq with hp0 | ⟨r, hr, hrq, hpr⟩
    · have ef : m_fin M q v = m_fin1 M q v := by unfold m_fin; rw [if_neg (fun z => z.1 hp0)]
      rw [hp0]
      refine n_istore_n hC dX12_finish_206 rfl (Nat.le_of_ble_eq_true rfl) ?_
      refine n_iload_n hC dX12_finish_207 rfl rfl ?_
      refine n_if_le (tgt := 236) hC dX12_finish_208 (by decide) (fun h => ?_) (fun h => ?_)
      · exact sw τ1 _ (by rw [ef]; exact h1)
      · exact absurd (show (0 : Int32) ≤ 0 by decide) h
    · obtain ⟨hr1, hr2⟩ := id hr
      have eu : m_up M q = r := by unfold m_up; rw [hpr, nI_clamp (by omega)]
      have hp0 : M.1 3 q ≠ 0 := by rw [hpr]; exact nI_ne0 (by omega) (by omega)
      have no : ¬ ((m_fin1 M q v).1 0 r = 3 ∧ (m_fin1 M q v).1 7 r = nI q) → m_fin M q v = m_fin1 M q v := by
        intro z
        unfold m_fin
        rw [eu, if_neg (fun y => z y.2)]
      rw [hpr]
      refine n_istore_n hC dX12_finish_206 rfl (Nat.le_of_ble_eq_true rfl) ?_
      refine n_iload_n hC dX12_finish_207 rfl rfl ?_
      refine n_if_le (tgt := 236) hC dX12_finish_208 (by decide) (fun h => ?_) (fun h => ?_)
      · exact absurd h (nI_nle (by omega) (by omega))
      · clear h
        refine n_aload_n hC dX12_finish_211 rfl rfl ?_
        refine gm_status hC wfX12_137 dX12_finish_212 ?_
        refine n_iload_n hC dX12_finish_215 rfl rfl ?_
        first | refine r_ld hC rfl (fun _ => rfl) (by decide) (by first | omega | with_reducible assumption) dX12_finish_216 ?_ | refine r_needs hC (by first | exact vp_in_nI (by omega) (by decide) | with_reducible assumption) dX12_finish_216 ?_
        rw [h1.status hr]
        refine n_iconst (v := 3) hC dX12_finish_217 (by decide) ?_
        refine n_icmp_ne (tgt := 236) hC dX12_finish_218 (by decide) (fun h => ?_) (fun h => ?_)
        · exact sw τ1 _ (by rw [no (fun z => h z.1)]; exact h1)
        · have h3 := h
          clear h
          refine n_aload_n hC dX12_finish_221 rfl rfl ?_
          refine gm_waits hC wfX12_185 dX12_finish_222 ?_
          refine n_iload_n hC dX12_finish_225 rfl rfl ?_
          first | refine r_ld hC rfl (fun _ => rfl) (by decide) (by first | omega | with_reducible assumption) dX12_finish_226 ?_ | refine r_needs hC (by first | exact vp_in_nI (by omega) (by decide) | with_reducible assumption) dX12_finish_226 ?_
          rw [h1.waits hr]
          refine n_iload_n hC dX12_finish_227 rfl rfl ?_
          refine n_icmp_ne (tgt := 236) hC dX12_finish_228 (by decide) (fun h => ?_) (fun h => ?_)
          · exact sw τ1 _ (by rw [no (fun z => h z.2)]; exact h1)
          · have ef : m_fin M q v = m_rdy (m_fin1 M q v) r := by unfold m_fin; rw [eu, if_pos ⟨hp0, h3, h⟩]
            have hlv := hIf1.1.lv hr
            refine n_aload_n hC dX12_finish_231 rfl rfl ?_
            refine n_iload_n hC dX12_finish_232 rfl rfl ?_
            refine n_callV hC (x_wake d r τ (m_fin1 M q v) τ1 h1 hr (hIf1.1.1 r hr) (hIf1.1.row hr hlv.1 (hIf1.1.notrow hr hlv.1 (by rw [h3]; decide)))) (Nat.le_refl _) (by decide) (by first | exact rfl | with_reducible assumption) rfl rfl rfl ⟨wmX12_324, wi_yX12_wake, wv_yX12_wake, wzX12, wc_yX12_wake⟩ hy_yX12_wake rfl (Nat.le_of_ble_eq_true rfl) dX12_finish_233 (fun rv σ' hpo => ?_)
            obtain ⟨rfl, h4⟩ := hpo
            exact sw _ _ (by rw [ef]; exact h4)
  -- the children
  have e3f : ∀ x, (m_f0 M q v).1 3 x = M.1 3 x := fun x => by rw [m_f0_K, ms_n (by omega), ms_n (by omega), m_K0_s (by omega) (by omega)]
  have hpx : ∀ p, n_V p → m_parx (m_f0 M q v) q 0 p := by
    intro p hp
    have e0' : ∀ x, x ≠ q → (m_f0 M q v).1 0 x = M.1 0 x := fun x hx => by rw [m_f0_K, ms_n (by omega), ms_n (by omega), m_K0_s (by omega) (by omega)]
    rcases hI.2.2.2.1 p hp with g | ⟨r, g1, g2, g3, g4, g5⟩
    · exact Or.inl (Or.inl ((e3f p).trans g))
    · by_cases er : r = q
      · rw [er] at g2 g3
        exact Or.inr ⟨by have := hp.1; omega, fun z => g2 z.symm, (e3f p).trans g3⟩
      · refine Or.inl (Or.inr ⟨r, g1, g2, (e3f p).trans g3, ?_, by rw [e3f]; exact g5⟩)
        unfold m_al
        rw [e0' r er]
        exact g4
  have kids : ∀ (n k : Nat) (τ1 : n_S), n + k = 12 → RQ τ (m_kids q k (m_f0 M q v)) τ1 → n_W p l e s m [Value.ref (ad 0 0), Value.int (nI q), Value.int v].toArray below meth c (rw D ca ad Ex) (d + 2) (fun rv τ' => rv = none ∧ RS τ0 (m_fin M q v) τ') 146 [some (.ref (ad 0 0)), some (.int (nI q)), some (.int v), some (.int (nI (k + 1)))] [] τ1 := by
    intro n
    induction n with
    | zero =>
      intro k τ1 hn h1
      obtain rfl : k = 12 := by omega
      refine n_iload_n hC dX12_finish_146 rfl rfl ?_
      refine n_bipush (v := 12) hC dX12_finish_147 (by decide) ?_
      refine n_icmp_gt (tgt := 200) hC dX12_finish_149 (by decide) (fun h => ?_) (fun h => ?_)
      · exact af τ1 _ (by rw [m_fin1_f0 hpn]; exact h1)
      · exact absurd (show (12 : Int32) < nI 13 by decide) h
    | succ n ih =>
      intro k τ1 hn h1
      have hk : n_V (k + 1) := ⟨by omega, by omega⟩
      obtain ⟨kw, k7, -⟩ := II_kids hq (by rw [e3f]; exact hpn) k (by omega) (IW_f0 hI hq ha v) (by rw [m_f0_K, ms_n (by omega), ms_e]) hpx
      have eK : m_kids q (k + 1) (m_f0 M q v) = m_kid1 (m_kids q k (m_f0 M q v)) q (k + 1) := rfl
      have nx : ∀ τ2, RQ τ (m_kid1 (m_kids q k (m_f0 M q v)) q (k + 1)) τ2 → n_W p l e s m [Value.ref (ad 0 0), Value.int (nI q), Value.int v].toArray below meth c (rw D ca ad Ex) (d + 2) (fun rv τ' => rv = none ∧ RS τ0 (m_fin M q v) τ') 194 [some (.ref (ad 0 0)), some (.int (nI q)), some (.int v), some (.int (nI (k + 1)))] [] τ2 := by
        intro τ2 h2
        refine n_iinc hC dX12_finish_194 rfl (show _ + Int32.ofInt 1 = _ + 1 from rfl) ?_
        refine n_goto (tgt := 146) hC dX12_finish_197 (by decide) ?_
        rw [nI_1]
        exact ih (k + 1) τ2 (by omega) (by rw [eK]; exact h2)
      clear ih eK
      generalize m_kids q k (m_f0 M q v) = K at h1 kw k7 nx
      have n12 : ¬ (12 : Int32) < nI (k + 1) := nI_nlt (a := 12) (b := k + 1) (by omega) (by omega)
      refine n_iload_n hC dX12_finish_146 rfl rfl ?_
      refine n_bipush (v := 12) hC dX12_finish_147 (by decide) ?_
      refine n_icmp_gt (tgt := 200) hC dX12_finish_149 (by decide) (fun h => ?_) (fun h => ?_)
      · exact absurd h n12
      · clear h
        have nokid : K.1 3 (k + 1) ≠ nI q → m_kid1 K q (k + 1) = K := fun z => by unfold m_kid1; rw [if_neg z]
        refine n_aload_n hC dX12_finish_152 rfl rfl ?_
        refine gm_status hC wfX12_137 dX12_finish_153 ?_
        refine n_iload_n hC dX12_finish_156 rfl rfl ?_
        first | refine r_ld hC rfl (fun _ => rfl) (by decide) (by first | omega | with_reducible assumption) dX12_finish_157 ?_ | refine r_needs hC (by first | exact vp_in_nI (by omega) (by decide) | with_reducible assumption) dX12_finish_157 ?_
        rw [h1.status hk]
        refine n_if_eq (tgt := 194) hC dX12_finish_158 (by decide) (fun h => ?_) (fun h => ?_)
        · refine nx τ1 ?_
          rw [nokid]
          · exact h1
          · rw [((kw.2.2.1 (k + 1) hk).2.1 h).2.2.2.1]
            exact fun z => nI_ne0 (by omega) (by omega) z.symm
        · clear h
          refine n_aload_n hC dX12_finish_161 rfl rfl ?_
          refine gm_parent hC wfX12_146 dX12_finish_162 ?_
          refine n_iload_n hC dX12_finish_165 rfl rfl ?_
          first | refine r_ld hC rfl (fun _ => rfl) (by decide) (by first | omega | with_reducible assumption) dX12_finish_166 ?_ | refine r_needs hC (by first | exact vp_in_nI (by omega) (by decide) | with_reducible assumption) dX12_finish_166 ?_
          rw [h1.parent hk]
          refine n_iload_n hC dX12_finish_167 rfl rfl ?_
          refine n_icmp_ne (tgt := 194) hC dX12_finish_168 (by decide) (fun h => ?_) (fun h => ?_)
          · exact nx τ1 (by rw [nokid h]; exact h1)
          · have hkid := h
            clear h
            refine n_aload_n hC dX12_finish_171 rfl rfl ?_
            refine gm_parent hC wfX12_146 dX12_finish_172 ?_
            refine n_iload_n hC dX12_finish_175 rfl rfl ?_
            refine n_iconst (v := 0) hC dX12_finish_176 (by decide) ?_
            refine r_st hC rfl (fun _ h => h) (fun _ => rfl) (by decide) (by first | omega | with_reducible assumption) dX12_finish_177 ?_
            refine n_aload_n hC dX12_finish_178 rfl rfl ?_
            refine gm_status hC wfX12_137 dX12_finish_179 ?_
            refine n_iload_n hC dX12_finish_182 rfl rfl ?_
            first | refine r_ld hC rfl (fun _ => rfl) (by decide) (by first | omega | with_reducible assumption) dX12_finish_183 ?_ | refine r_needs hC (by first | exact vp_in_nI (by omega) (by decide) | with_reducible assumption) dX12_finish_183 ?_
            have h2 := rq_3 (v := 0) h1 hk
            rw [(h2.status hk).trans (ms_n (by omega))]
            refine n_bipush (v := 7) hC dX12_finish_184 (by decide) ?_
            refine n_icmp_ne (tgt := 194) hC dX12_finish_186 (by decide) (fun h => ?_) (fun h => ?_)
            · refine nx _ ?_
              unfold m_kid1
              rw [if_pos hkid, if_neg h]
              exact h2
            · have h7 : (m_s K 3 (k + 1) 0).1 0 (k + 1) = 7 := h
              have e7 := h
              clear h
              refine n_aload_n hC dX12_finish_189 rfl rfl ?_
              refine n_iload_n hC dX12_finish_190 rfl rfl ?_
              refine n_callV hC (x_release (d + 1) (k + 1) τ (m_s K 3 (k + 1) 0) _ h2 hk (IW_3 kw (k + 1)) h7) (Nat.le_refl _) (by decide) (by first | exact rfl | with_reducible assumption) rfl rfl rfl ⟨wmX12_321, wi_yX12_release, wv_yX12_release, wzX12, wc_yX12_release⟩ hy_yX12_release rfl (Nat.le_of_ble_eq_true rfl) dX12_finish_191 (fun rv σ' hpo => ?_)
              obtain ⟨rfl, h3⟩ := hpo
              refine nx _ ?_
              unfold m_kid1
              rw [if_pos hkid, if_pos e7]
              exact h3
  -- the process's own
  have own : ∀ (τ1 : n_S) (w : Option Value), RQ τ (m_free (m_outs q 11 M) (nI q) (-1)) τ1 → n_W p l e s m [Value.ref (ad 0 0), Value.int (nI q), Value.int v].toArray below meth c (rw D ca ad Ex) (d + 2) (fun rv τ' => rv = none ∧ RS τ0 (m_fin M q v) τ') 80 [some (.ref (ad 0 0)), some (.int (nI q)), some (.int v), w] [] τ1 := by
    intro τ1 w h1
    have eF : m_f0 M q v = m_s (m_s (m_emp (m_free (m_outs q 11 M) (nI q) (-1)) q) 0 q 7) 1 q v := by
      unfold m_f0
      rw [m_outs_free]
    rw [← m_emp_ref] at eF
    generalize m_free (m_outs q 11 M) (nI q) (-1) = N at h1 eF
    refine n_aload_n hC dX12_finish_80 rfl rfl ?_
    refine gm_boxed hC wfX12_167 dX12_finish_81 ?_
    refine n_iload_n hC dX12_finish_84 rfl rfl ?_
    refine n_iconst (v := 0) hC dX12_finish_85 (by decide) ?_
    refine r_st hC rfl (fun _ h => h) (fun _ => rfl) (by decide) (by first | omega | with_reducible assumption) dX12_finish_86 ?_
    refine n_aload_n hC dX12_finish_87 rfl rfl ?_
    refine gm_keyed hC wfX12_176 dX12_finish_88 ?_
    refine n_iload_n hC dX12_finish_91 rfl rfl ?_
    refine n_iconst (v := 0) hC dX12_finish_92 (by decide) ?_
    refine r_st hC rfl (fun _ h => h) (fun _ => rfl) (by decide) (by first | omega | with_reducible assumption) dX12_finish_93 ?_
    refine n_aload_n hC dX12_finish_94 rfl rfl ?_
    refine gm_next hC wfX12_152 dX12_finish_95 ?_
    refine n_iload_n hC dX12_finish_98 rfl rfl ?_
    refine n_iconst (v := 0) hC dX12_finish_99 (by decide) ?_
    refine r_st hC rfl (fun _ h => h) (fun _ => rfl) (by decide) (by first | omega | with_reducible assumption) dX12_finish_100 ?_
    refine n_aload_n hC dX12_finish_101 rfl rfl ?_
    refine gm_deep hC wfX12_155 dX12_finish_102 ?_
    refine n_iload_n hC dX12_finish_105 rfl rfl ?_
    refine n_iconst (v := 0) hC dX12_finish_106 (by decide) ?_
    refine r_st hC rfl (fun _ h => h) (fun _ => rfl) (by decide) (by first | omega | with_reducible assumption) dX12_finish_107 ?_
    refine n_aload_n hC dX12_finish_108 rfl rfl ?_
    refine gm_called hC wfX12_161 dX12_finish_109 ?_
    refine n_iload_n hC dX12_finish_112 rfl rfl ?_
    refine n_iconst (v := 0) hC dX12_finish_113 (by decide) ?_
    refine r_st hC rfl (fun _ h => h) (fun _ => rfl) (by decide) (by first | omega | with_reducible assumption) dX12_finish_114 ?_
    refine n_aload_n hC dX12_finish_115 rfl rfl ?_
    refine gm_waits hC wfX12_185 dX12_finish_116 ?_
    refine n_iload_n hC dX12_finish_119 rfl rfl ?_
    refine n_iconst (v := 0) hC dX12_finish_120 (by decide) ?_
    refine r_st hC rfl (fun _ h => h) (fun _ => rfl) (by decide) (by first | omega | with_reducible assumption) dX12_finish_121 ?_
    refine n_aload_n hC dX12_finish_122 rfl rfl ?_
    refine gm_inRow hC wfX12_188 dX12_finish_123 ?_
    refine n_iload_n hC dX12_finish_126 rfl rfl ?_
    refine n_iconst (v := 0) hC dX12_finish_127 (by decide) ?_
    refine r_st hC rfl (fun _ h => h) (fun _ => rfl) (by decide) (by first | omega | with_reducible assumption) dX12_finish_128 ?_
    refine n_aload_n hC dX12_finish_129 rfl rfl ?_
    refine gm_status hC wfX12_137 dX12_finish_130 ?_
    refine n_iload_n hC dX12_finish_133 rfl rfl ?_
    refine n_bipush (v := 7) hC dX12_finish_134 (by decide) ?_
    refine r_st hC rfl (fun _ h => h) (fun _ => rfl) (by decide) (by first | omega | with_reducible assumption) dX12_finish_136 ?_
    refine n_aload_n hC dX12_finish_137 rfl rfl ?_
    refine gm_codes hC wfX12_140 dX12_finish_138 ?_
    refine n_iload_n hC dX12_finish_141 rfl rfl ?_
    refine n_iload_n hC dX12_finish_142 rfl rfl ?_
    refine r_st hC rfl (fun _ h => h) (fun _ => rfl) (by decide) (by first | omega | with_reducible assumption) dX12_finish_143 ?_
    refine n_iconst (v := 1) hC dX12_finish_144 (by decide) ?_
    refine n_istore_n hC dX12_finish_145 rfl (Nat.le_of_ble_eq_true rfl) ?_
    refine kids 12 0 _ rfl ?_
    show RQ τ (m_f0 M q v) _
    rw [eF]
    exact rq_1 (rq_0 (rq_8 (rq_7 (re_ret (re_stk (rq_5 (re_key (re_box h1 hq) hq) hq) hq) hq) hq) hq) hq) hq
  -- the blocks
  have blk : ∀ (τ1 : n_S) (w : Option Value), RQ τ (m_outs q 11 M) τ1 → n_W p l e s m [Value.ref (ad 0 0), Value.int (nI q), Value.int v].toArray below meth c (rw D ca ad Ex) (d + 2) (fun rv τ' => rv = none ∧ RS τ0 (m_fin M q v) τ') 34 [some (.ref (ad 0 0)), some (.int (nI q)), some (.int v), w] [] τ1 := by
    intro τ1 w h1
    have eB : IB (m_outs q 11 M) := IB_cong hI.2.1 (fun k => by rw [m_outs_s]) (fun k => by rw [m_outs_s]) (by rw [m_outs_l, if_neg (by omega)]) (by rw [m_outs_l, if_neg (by omega)])
    have hR := h1.1.2.rb eB
    have hbw := eB.1
    generalize hns : m_nsl (m_outs q 11 M) = ns at hR hbw
    generalize hos : (m_outs q 11 M).2 11 0 = os at hR hbw
    have hlen : ns.length ≤ 1024 := by
      have : ∀ l : List Nat, (∀ x ∈ l, 1 ≤ x) → l.length ≤ l.sum := by
        intro l
        induction l with
        | nil => intro _; simp
        | cons a l ih =>
          intro h
          have h1 := h a (by simp)
          have h2 := ih (fun x hx => h x (by simp [hx]))
          simp
          omega
      have := this ns hbw.2.1
      have := hbw.2.2
      omega
    have loop : ∀ (n k : Nat) (τ2 : n_S), n + k = ns.length → r_bk τ1 τ2 → τ2 0 0 48 = nI ns.length → (∀ j, j < ns.length → τ2 46 0 j = τ1 46 0 j ∧ τ2 47 0 j = τ1 47 0 j ∧ τ2 48 0 j = if j < k then (if os.getD j 0 = nI q then 0 else os.getD j 0) else os.getD j 0) → n_W p l e s m [Value.ref (ad 0 0), Value.int (nI q), Value.int v].toArray below meth c (rw D ca ad Ex) (d + 2) (fun rv τ' => rv = none ∧ RS τ0 (m_fin M q v) τ') 36 [some (.ref (ad 0 0)), some (.int (nI q)), some (.int v), some (.int (nI k))] [] τ2 := by
      intro n
      induction n with
      | zero =>
        intro k τ2 hn hk h48 hj
        obtain rfl : k = ns.length := by omega
        refine n_iload_n hC dX12_finish_36 rfl rfl ?_
        refine n_aload_n hC dX12_finish_37 rfl rfl ?_
        refine gm_blocks hC wfX12_221 dX12_finish_38 ?_
        rw [h48]
        refine n_icmp_ge (tgt := 76) hC dX12_finish_41 (by decide) (fun h => ?_) (fun h => ?_)
        · clear h
          have hB2 : RB ns (os.map (fun x => if x = nI q then 0 else x)) τ2 := by
            refine ⟨h48, fun j hjl => ?_⟩
            obtain ⟨a1, a2, a3⟩ := hj j hjl
            obtain ⟨b1, b2, b3⟩ := hR.2 j hjl
            refine ⟨a1.trans b1, a2.trans b2, ?_⟩
            rw [a3, if_pos hjl, List.getD_eq_getElem?_getD, List.getD_eq_getElem?_getD, List.getElem?_map]
            cases os[j]? with
            | none => simp
            | some x => rfl
          have hb2 : m_bw ns (os.map (fun x => if x = nI q then 0 else x)) := ⟨by rw [List.length_map]; exact hbw.1, hbw.2⟩
          refine n_aload_n hC dX12_finish_76 rfl rfl ?_
          refine n_callV hC (x_joinBlocks (d + 1) ns (os.map (fun x => if x = nI q then 0 else x)) τ2 hb2 hB2) (Nat.le_refl _) (by decide) (by first | exact rfl | with_reducible assumption) rfl rfl rfl ⟨wmX12_318, wi_yX12_joinBlocks, wv_yX12_joinBlocks, wzX12, wc_yX12_joinBlocks⟩ hy_yX12_joinBlocks rfl (Nat.le_of_ble_eq_true rfl) dX12_finish_77 (fun rv σ' hpo => ?_)
          obtain ⟨rfl, h2, h3⟩ := hpo
          refine own _ _ ?_
          unfold m_free
          rw [hns, hos, m_fr_all _ _ _ _ hbw.1]
          have hw := m_mgs_w ns (os.map (fun x => if x = nI q then 0 else x)) ([], []) hb2.1 hb2.2.1 rfl (by simp)
          exact h1.mem ⟨hw.1, hw.2.1, by rw [hw.2.2, hbw.2.2]; rfl⟩ (hk.trans h2) h3
        · exact absurd (Int32.le_refl _) h
      | succ n ih =>
        intro k τ2 hn hk h48 hj
        have hkl : k < ns.length := by omega
        obtain ⟨-, -, a3⟩ := hj k hkl
        rw [if_neg (by omega)] at a3
        have nx : ∀ x : Int32, x = (if os.getD k 0 = nI q then 0 else os.getD k 0) → n_W p l e s m [Value.ref (ad 0 0), Value.int (nI q), Value.int v].toArray below meth c (rw D ca ad Ex) (d + 2) (fun rv τ' => rv = none ∧ RS τ0 (m_fin M q v) τ') 69 [some (.ref (ad 0 0)), some (.int (nI q)), some (.int v), some (.int (nI k))] [.int x, .int (nI k), .ref (ad 48 0)] τ2 := by
          intro x hx
          refine r_st hC rfl (fun _ h => h) (fun _ => rfl) (by decide) (by first | omega | with_reducible assumption) dX12_finish_69 ?_
          refine n_iinc hC dX12_finish_70 rfl (show _ + Int32.ofInt 1 = _ + 1 from rfl) ?_
          refine n_goto (tgt := 36) hC dX12_finish_73 (by decide) ?_
          rw [nI_1]
          refine ih (k + 1) _ (by omega) (hk.up (by omega)) (by rw [n_up_o (by omega)]; exact h48) (fun j hjl => ?_)
          obtain ⟨c1, c2, c3⟩ := hj j hjl
          rw [n_up_o (by omega), n_up_o (by omega)]
          refine ⟨c1, c2, ?_⟩
          by_cases e : j = k
          · rw [e, n_up_e, if_pos (by omega)]; exact hx
          · rw [n_up_o (by omega), c3]
            by_cases e2 : j < k
            · rw [if_pos e2, if_pos (show j < k + 1 by omega)]
            · rw [if_neg e2, if_neg (show ¬ j < k + 1 by omega)]
        refine n_iload_n hC dX12_finish_36 rfl rfl ?_
        refine n_aload_n hC dX12_finish_37 rfl rfl ?_
        refine gm_blocks hC wfX12_221 dX12_finish_38 ?_
        rw [h48]
        refine n_icmp_ge (tgt := 76) hC dX12_finish_41 (by decide) (fun h => ?_) (fun h => ?_)
        · exact absurd h (nI_ge hkl (by omega))
        · clear h
          refine n_aload_n hC dX12_finish_44 rfl rfl ?_
          refine gm_blockOf hC wfX12_218 dX12_finish_45 ?_
          refine n_iload_n hC dX12_finish_48 rfl rfl ?_
          refine n_aload_n hC dX12_finish_49 rfl rfl ?_
          refine gm_blockOf hC wfX12_218 dX12_finish_50 ?_
          refine n_iload_n hC dX12_finish_53 rfl rfl ?_
          first | refine r_ld hC rfl (fun _ => rfl) (by decide) (by first | omega | with_reducible assumption) dX12_finish_54 ?_ | refine r_needs hC (by first | exact vp_in_nI (by omega) (by decide) | with_reducible assumption) dX12_finish_54 ?_
          rw [a3]
          refine n_iload_n hC dX12_finish_55 rfl rfl ?_
          refine n_icmp_ne (tgt := 63) hC dX12_finish_56 (by decide) (fun h => ?_) (fun h => ?_)
          · refine n_aload_n hC dX12_finish_63 rfl rfl ?_
            refine gm_blockOf hC wfX12_218 dX12_finish_64 ?_
            refine n_iload_n hC dX12_finish_67 rfl rfl ?_
            first | refine r_ld hC rfl (fun _ => rfl) (by decide) (by first | omega | with_reducible assumption) dX12_finish_68 ?_ | refine r_needs hC (by first | exact vp_in_nI (by omega) (by decide) | with_reducible assumption) dX12_finish_68 ?_
            rw [a3]
            exact nx _ (if_neg h).symm
          · refine n_iconst (v := 0) hC dX12_finish_59 (by decide) ?_
            refine n_goto (tgt := 69) hC dX12_finish_60 (by decide) ?_
            exact nx _ (if_pos h).symm
    refine n_iconst (v := 0) hC dX12_finish_34 (by decide) ?_
    refine n_istore_n hC dX12_finish_35 rfl (Nat.le_of_ble_eq_true rfl) ?_
    exact loop ns.length 0 τ1 (by omega) (r_bk.refl τ1) hR.1 (fun j hj => ⟨rfl, rfl, by rw [if_neg (by omega)]; exact (hR.2 j hj).2.2⟩)
  refine n_aload_n hC dX12_finish_0 rfl rfl ?_
  refine gm_status hC wfX12_137 dX12_finish_1 ?_
  refine n_iload_n hC dX12_finish_4 rfl rfl ?_
  first | refine r_ld hC rfl (fun _ => rfl) (by decide) (by first | omega | with_reducible assumption) dX12_finish_5 ?_ | refine r_needs hC (by first | exact vp_in_nI (by omega) (by decide) | with_reducible assumption) dX12_finish_5 ?_
  rw [hM.status hq]
  refine n_iconst (v := 1) hC dX12_finish_6 (by decide) ?_
  refine n_icmp_ne (tgt := 18) hC dX12_finish_7 (by decide) (fun h => ?_) (fun h => ?_)
  · have h1 := h
    clear h
    refine n_aload_n hC dX12_finish_18 rfl rfl ?_
    refine gm_status hC wfX12_137 dX12_finish_19 ?_
    refine n_iload_n hC dX12_finish_22 rfl rfl ?_
    first | refine r_ld hC rfl (fun _ => rfl) (by decide) (by first | omega | with_reducible assumption) dX12_finish_23 ?_ | refine r_needs hC (by first | exact vp_in_nI (by omega) (by decide) | with_reducible assumption) dX12_finish_23 ?_
    rw [hM.status hq]
    refine n_bipush (v := 6) hC dX12_finish_24 (by decide) ?_
    refine n_icmp_ne (tgt := 34) hC dX12_finish_26 (by decide) (fun h => ?_) (fun h => ?_)
    · refine blk τ _ ?_
      rw [hI.1.o0 hq ⟨h1, h⟩]
      exact hM
    · obtain ⟨k, hk, h7, -⟩ := hI.1.2.2.2.2 q hq h
      refine n_aload_n hC dX12_finish_29 rfl rfl ?_
      refine n_iload_n hC dX12_finish_30 rfl rfl ?_
      refine n_callV hC (x_leaveSemaphore (d + 1) q k τ M τ hM hq hk h7) (Nat.le_refl _) (by decide) (by first | exact rfl | with_reducible assumption) rfl rfl rfl ⟨wmX12_315, wi_yX12_leaveSemaphore, wv_yX12_leaveSemaphore, wzX12, wc_yX12_leaveSemaphore⟩ hy_yX12_leaveSemaphore rfl (Nat.le_of_ble_eq_true rfl) dX12_finish_31 (fun rv σ' hpo => ?_)
      obtain ⟨rfl, h2⟩ := hpo
      refine blk _ _ ?_
      rw [hI.1.o6 hq h hk h7]
      exact h2
  · obtain ⟨hl1, hl2⟩ := hI.1.lv hq
    refine n_aload_n hC dX12_finish_10 rfl rfl ?_
    refine n_iload_n hC dX12_finish_11 rfl rfl ?_
    refine n_callV hC (x_leaveRow (d + 1) q (m_lv M q) τ M τ hM hq hl1 hl2) (Nat.le_refl _) (by decide) (by first | exact rfl | with_reducible assumption) rfl rfl rfl ⟨wmX12_306, wi_yX12_leaveRow, wv_yX12_leaveRow, wzX12, wc_yX12_leaveRow⟩ hy_yX12_leaveRow rfl (Nat.le_of_ble_eq_true rfl) dX12_finish_12 (fun rv σ' hpo => ?_)
    obtain ⟨rfl, h2⟩ := hpo
    refine n_goto (tgt := 34) hC dX12_finish_15 (by decide) ?_
    refine blk _ _ ?_
    rw [hI.1.o1 hq h]
    exact h2
end RFI
