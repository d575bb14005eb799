theorem II_st {M M' : n_M} {q : Nat} (h : II M) (hq : n_V q) (ha : m_al M q) (hR : IR M') (hS : ∀ c i, ¬ ((c = 0 ∨ c = 2 ∨ c = 7 ∨ c = 8) ∧ i = q) → c ≠ 19 → M'.1 c i = M.1 c i) (hL : ∀ c i, c ≠ 5 → M'.2 c i = M.2 c i) (h19 : M'.1 19 0 ≤ M.1 19 0) (hs : ∃ s, 1 ≤ s ∧ s ≤ 6 ∧ M'.1 0 q = nI s) (h5 : M'.1 0 q = 5 → M'.1 19 0 ≤ M'.1 7 q ∧ M'.1 15 0 < M'.1 7 q) : II M' := by
  obtain ⟨s, s1, s6, es⟩ := hs
  have s0 : M'.1 0 q ≠ 0 := by rw [es]; exact nI_ne0 (by omega) (by omega)
  have s7 : M'.1 0 q ≠ 7 := by
    rw [es]
    intro z
    have := (nI_eq (a := s) (b := 7) (by omega) (by decide)).mp z
    omega
  have hn : m_one M' q := by
    refine ⟨⟨s, by omega, es⟩, fun z => absurd z s0, fun z => z.elim (fun z => absurd z s0) (fun z => absurd z s7), fun _ => ?_, h5⟩
    obtain ⟨i, hi, x1, x2, x3⟩ := (h.2.2.1 q hq).2.2.2.1 (m_al_st ha).1
    exact ⟨i, hi, by rw [hS 4 q (by omega) (by omega)]; exact x1, by rw [hL 12 i (by omega), hS 5 q (by omega) (by omega)]; exact x2, by rw [hL 12 i (by omega), hL 1 q (by omega)]; exact x3⟩
  refine II_at h hq hR (IB_cong h.2.1 (fun k => hS 11 k (by omega) (by omega)) (fun k => hS 13 k (by omega) (by omega)) (hL 10 0 (by omega)) (hL 11 0 (by omega))) (fun p hp hne => ⟨fun c hc => hS c p (by omega) (by omega), fun c hc => hL c p (by omega), fun c h2 h3 => ⟨hL c _ (by omega), hL c _ (by omega)⟩⟩) (fun i _ => hS 12 i (by omega) (by omega)) (fun i _ => hL 12 i (by omega)) (fun i _ => hL 13 i (by omega)) (hS 15 0 (by omega) (by omega)) h19 (hS 4 q (by omega) (by omega)) (hS 3 q (by omega) (by omega)) (fun _ => m_st_al hn ⟨s0, s7⟩) hn
theorem m_rdy_sn {M : n_M} {q c i : Nat} (h : ¬ ((c = 0 ∨ c = 7 ∨ c = 8) ∧ i = q)) : (m_rdy M q).1 c i = M.1 c i := by
  unfold m_rdy
  rw [m_l_s, ms_n (by omega), ms_n (by omega), ms_n (by omega)]
theorem m_rdy_0 (M : n_M) (q : Nat) : (m_rdy M q).1 0 q = 1 := by
  unfold m_rdy
  rw [m_l_s, ms_n (by omega), ms_n (by omega), ms_e]
theorem m_rdy_7 (M : n_M) (q : Nat) : (m_rdy M q).1 7 q = 0 := by
  unfold m_rdy
  rw [m_l_s, ms_n (by omega), ms_e]
theorem m_rdy_8 (M : n_M) (q : Nat) : (m_rdy M q).1 8 q = 0 := by
  unfold m_rdy
  rw [m_l_s, ms_e]
theorem m_rdy_5 (M : n_M) (q : Nat) : (m_rdy M q).2 5 (m_lv M q) = M.2 5 (m_lv M q) ++ [nI q] := by
  unfold m_rdy
  rw [ml_e]
theorem m_rdy_5n {M : n_M} {q r : Nat} (h : r ≠ m_lv M q) : (m_rdy M q).2 5 r = M.2 5 r := by
  unfold m_rdy
  rw [ml_n (by omega)]
  rfl
theorem st1 : ∃ s, 1 ≤ s ∧ s ≤ 6 ∧ (1 : Int32) = nI s := ⟨1, by omega, by omega, rfl⟩
theorem II_rdy {M : n_M} {q : Nat} (h : II M) (hq : n_V q) (ha : m_al M q) (hb : M.1 0 q ≠ 1 ∧ M.1 0 q ≠ 6) : II (m_rdy M q) := by
  refine II_st h hq ha (IR_rdy h.1 hq hb) (fun c i a _ => m_rdy_sn (by omega)) (fun c i a => m_rdy_l a) ?_ ?_ ?_
  · rw [m_rdy_sn (by omega)]; exact Int32.le_refl _
  · rw [m_rdy_0]; exact st1
  · rw [m_rdy_0]; intro z; exact absurd z (by decide)
theorem m_susp_sn {M : n_M} {q c i : Nat} {st aw : Int32} (h : ¬ ((c = 0 ∨ c = 7 ∨ c = 8) ∧ i = q)) : (m_susp M q st aw).1 c i = M.1 c i := by
  unfold m_susp m_out
  rw [ms_n (by omega), ms_n (by omega), ms_n (by omega), m_l_s]
theorem m_susp_0 (M : n_M) (q : Nat) (st aw : Int32) : (m_susp M q st aw).1 0 q = st := by
  unfold m_susp
  rw [ms_n (by omega), ms_n (by omega), ms_e]
theorem m_susp_7 (M : n_M) (q : Nat) (st aw : Int32) : (m_susp M q st aw).1 7 q = aw := by
  unfold m_susp
  rw [ms_n (by omega), ms_e]
theorem m_susp_l {M : n_M} {q c i : Nat} {st aw : Int32} (h : c ≠ 5) : (m_susp M q st aw).2 c i = M.2 c i := by
  unfold m_susp m_out
  rw [m_s_l, m_s_l, m_s_l, ml_n (by omega)]
theorem II_susp {M : n_M} {q s : Nat} {aw : Int32} (h : II M) (hq : n_V q) (h1 : M.1 0 q = 1) (hs : 2 ≤ s ∧ s ≤ 5) (h5 : s = 5 → M.1 19 0 ≤ aw ∧ M.1 15 0 < aw) : II (m_susp M q (nI s) aw) := by
  have ha : m_al M q := by unfold m_al; rw [h1]; decide
  have n1 : nI s ≠ 1 := fun z => by have := (nI_eq (a := s) (b := 1) (by omega) (by decide)).mp z; omega
  have n6 : nI s ≠ 6 := fun z => by have := (nI_eq (a := s) (b := 6) (by omega) (by decide)).mp z; omega
  refine II_st h hq ha (IR_susp h.1 hq h1 ⟨n1, n6⟩) (fun c i a _ => m_susp_sn (by omega)) (fun c i a => m_susp_l a) ?_ ?_ ?_
  · rw [m_susp_sn (by omega)]; exact Int32.le_refl _
  · rw [m_susp_0]; exact ⟨s, by omega, by omega, rfl⟩
  · rw [m_susp_0, m_susp_7, m_susp_sn (by omega), m_susp_sn (by omega)]
    intro z
    exact h5 ((nI_eq (a := s) (b := 5) (by omega) (by decide)).mp z)
theorem m_rdy_over (M : n_M) (q : Nat) (v : Int32) : m_rdy (m_s M 0 q v) q = m_rdy M q := by
  unfold m_rdy
  rw [ms_ms]
  rfl
theorem IR_out {M : n_M} (h : IR M) {q : Nat} (hq : n_V q) (h1 : M.1 0 q = 1) {a st : Int32} (ha : ∃ r, r < 3 ∧ a = nI r) (hs : st ≠ 1 ∧ st ≠ 6) : IR (m_s (m_s (m_out M (m_lv M q) q) 2 q a) 0 q st) := by
  refine IR_off h hq (fun r _ hne => ?_) (fun r _ hne => ?_) (fun r _ hne => ?_) ?_ ?_ (fun r hr => ?_)
  · rw [ms_n (by omega), ms_n (by omega)]; rfl
  · rw [ms_n (by omega), ms_n (by omega)]; rfl
  · rw [ms_n (by omega), ms_n (by omega)]; rfl
  · rw [ms_e]; exact hs
  · obtain ⟨r, hr, e⟩ := ha
    exact ⟨r, hr, by rw [ms_n (by omega), ms_e]; exact e⟩
  · rw [m_s_l, m_s_l]
    unfold m_out
    by_cases e : r = m_lv M q
    · rw [e, ml_e]; rfl
    · rw [ml_n (by omega), m_fq_id]
      by_cases hr3 : r < 3
      · exact h.notrow2 hq hr3 (fun z => e (m_lv_i hr3 z).symm)
      · have := h.notque (k := r - 3) hq (by omega) (by rw [h1]; decide)
        rwa [show r - 3 + 3 = r by omega] at this
theorem IR_plast {M : n_M} (h : IR M) {q : Nat} (hq : n_V q) (h1 : M.1 0 q = 1) {a : Int32} (ha : ∃ r, r < 3 ∧ a = nI r) : IR (m_plast M q a) := by
  unfold m_plast
  rw [← m_rdy_over _ q 2]
  refine IR_rdy (IR_out h hq h1 ha (by decide)) hq ?_
  rw [ms_e]
  decide
theorem m_plast_sn {M : n_M} {q c i : Nat} {a : Int32} (h : ¬ ((c = 0 ∨ c = 2 ∨ c = 7 ∨ c = 8) ∧ i = q)) : (m_plast M q a).1 c i = M.1 c i := by
  unfold m_plast
  rw [m_rdy_sn (by omega), ms_n (by omega)]
  rfl
theorem m_plast_l {M : n_M} {q c i : Nat} {a : Int32} (h : c ≠ 5) : (m_plast M q a).2 c i = M.2 c i := by
  unfold m_plast m_out
  rw [m_rdy_l h, m_s_l, ml_n (by omega)]
theorem II_plast {M : n_M} {q : Nat} (h : II M) (hq : n_V q) (h1 : M.1 0 q = 1) {a : Int32} (ha : ∃ r, r < 3 ∧ a = nI r) : II (m_plast M q a) := by
  have hal : m_al M q := by unfold m_al; rw [h1]; decide
  refine II_st h hq hal (IR_plast h.1 hq h1 ha) (fun c i a _ => m_plast_sn (by omega)) (fun c i a => m_plast_l a) ?_ ?_ ?_
  · rw [m_plast_sn (by omega)]; exact Int32.le_refl _
  · unfold m_plast; rw [m_rdy_0]; exact st1
  · unfold m_plast; rw [m_rdy_0]; intro z; exact absurd z (by decide)
theorem m_jn_eq (M : n_M) (q k : Nat) : m_jn M q k = m_l (m_susp M q 6 (nI k)) 5 (k + 3) (M.2 5 (k + 3) ++ [nI q]) := rfl
theorem m_susp_5 {M : n_M} {q r : Nat} {st aw : Int32} (h : r ≠ m_lv M q) : (m_susp M q st aw).2 5 r = M.2 5 r := by
  unfold m_susp m_out
  rw [m_s_l, m_s_l, m_s_l, ml_n (by omega)]
theorem IR_jn {M : n_M} (h : IR M) {q k : Nat} (hq : n_V q) (hk : k < 8) (h1 : M.1 0 q = 1) : IR (m_jn M q k) := by
  obtain ⟨hl, -⟩ := h.lv hq
  have h2 : IR (m_susp M q 2 0) := IR_susp h hq h1 (by decide)
  rw [m_jn_eq]
  refine IR_sem (k0 := k) h2 hq hk ?_ (fun r _ hne => ?_) (fun r _ => ?_) (fun r _ hne => ?_) ?_ ?_ (fun r _ hne => ?_) ?_
  · rw [m_susp_0]; decide
  · rw [m_l_s, m_susp_sn (by omega), m_susp_sn (by omega)]
  · rw [m_l_s, m_susp_sn (by omega), m_susp_sn (by omega)]
  · rw [m_l_s, m_susp_sn (by omega), m_susp_sn (by omega)]
  · rw [m_l_s, m_susp_0]
  · rw [m_l_s, m_susp_7]
  · rw [ml_n (by omega)]; rfl
  · rw [ml_e, m_susp_5 (by omega)]
theorem II_jn {M : n_M} (h : II M) {q k : Nat} (hq : n_V q) (hk : k < 8) (h1 : M.1 0 q = 1) : II (m_jn M q k) := by
  have hal : m_al M q := by unfold m_al; rw [h1]; decide
  have e0 : (m_jn M q k).1 0 q = 6 := by rw [m_jn_eq, m_l_s, m_susp_0]
  refine II_st h hq hal (IR_jn h.1 hq hk h1) (fun c i a _ => ?_) (fun c i a => ?_) ?_ ?_ ?_
  · rw [m_jn_eq, m_l_s, m_susp_sn (by omega)]
  · rw [m_jn_eq, ml_n (by omega), m_susp_l a]
  · rw [m_jn_eq, m_l_s, m_susp_sn (by omega)]; exact Int32.le_refl _
  · rw [e0]; exact ⟨6, by omega, by omega, rfl⟩
  · rw [e0]; intro z; exact absurd z (by decide)
theorem m_wk_lt {k a : Int32} (hk : k < 2147483647) (ha : ¬ a < 1) : k < m_wk k a := by
  have b1 := k.toInt_lt
  have b2 := k.le_toInt
  have b3 := a.toInt_lt
  have b4 := a.le_toInt
  have hk' := Int32.lt_iff_toInt_lt.mp hk
  have ha' : ¬ a.toInt < 1 := fun z => ha (Int32.lt_iff_toInt_lt.mpr z)
  have hk' : k.toInt < 2147483647 := hk'
  have e1 : (k.toInt64 + a.toInt64).toInt = k.toInt + a.toInt := by
    rw [Int64.toInt_add, Int32.toInt_toInt64, Int32.toInt_toInt64]
    exact Int.bmod_eq_of_le (by omega) (by omega)
  refine Int32.lt_iff_toInt_lt.mpr ?_
  unfold m_wk
  split
  · exact hk'
  · rename_i hz
    have hz' : ¬ (2147483647 : Int) < (k.toInt64 + a.toInt64).toInt := fun z => hz (Int64.lt_iff_toInt_lt.mpr z)
    rw [e1] at hz'
    rw [Int64.toInt_toInt32, e1, Int.bmod_eq_of_le (by omega) (by omega)]
    omega
theorem m_min_le (x y : Int32) : m_min x y ≤ x ∧ m_min x y ≤ y := by
  unfold m_min
  by_cases h : y < x
  · rw [if_pos h]
    exact ⟨Int32.le_of_lt h, Int32.le_refl _⟩
  · rw [if_neg h]
    exact ⟨Int32.le_refl _, Int32.not_lt.mp h⟩
theorem II_19 {M : n_M} (h : II M) {v : Int32} (hv : v ≤ M.1 19 0) : II (m_s M 19 0 v) := by
  have hq : n_V 1 := by unfold n_V; omega
  obtain ⟨i1, i2, i3, i4, i5, i6⟩ := h
  refine ⟨IR_s i1 (by omega), IB_s i2 (by omega), fun p hp => ?_, i4, i5, i6⟩
  obtain ⟨g1, g2, g3, g4, g5⟩ := i3 p hp
  exact ⟨g1, g2, g3, g4, fun z => ⟨Int32.le_trans (by rw [ms_e]; exact hv) (g5 z).1, (g5 z).2⟩⟩
theorem II_slp {M : n_M} {q : Nat} (h : II M) (hq : n_V q) (h1 : M.1 0 q = 1) {a : Int32} (ha : ¬ a < 1) (hc : M.1 15 0 < 2147483647) : II (m_slp M q a) := by
  unfold m_slp
  refine II_susp (s := 5) (II_19 h (m_min_le _ _).1) hq h1 (by omega) (fun _ => ⟨?_, m_wk_lt hc ha⟩)
  rw [ms_e]
  exact (m_min_le _ _).2
theorem IR_up {M : n_M} (h : IR M) {k r : Nat} {u : List Int32} (hk : k < 8) (hr : n_V r) (hu : M.2 5 (k + 3) = nI r :: u) : M.1 0 r = 6 ∧ IR (m_s (m_out M (k + 3) r) 0 r 2) := by
  obtain ⟨hnd, hx⟩ := h.2.2.2.1 k hk
  obtain ⟨q, hq, e1, e2, e3⟩ := hx (nI r) (by rw [hu]; exact List.mem_cons_self)
  have := nV_inj hr hq e1
  subst this
  refine ⟨e2, IR_off h hr (fun r _ hne => ?_) (fun r _ hne => ?_) (fun r _ hne => ?_) ?_ ?_ (fun r' hr' => ?_)⟩
  · rw [ms_n (by omega)]; rfl
  · rw [ms_n (by omega)]; rfl
  · rw [ms_n (by omega)]; rfl
  · rw [ms_e]; decide
  · exact h.1 r hr
  · rw [m_s_l]
    unfold m_out
    by_cases e : r' = k + 3
    · rw [e, ml_e]; rfl
    · rw [ml_n (by omega), m_fq_id]
      by_cases hr3 : r' < 3
      · exact h.notrow hr hr3 (by rw [e2]; decide)
      · have := h.notque2 (k := r' - 3) hr (by omega) (by
          rw [e3]
          intro z
          have := (nI_eq (by omega) (by omega)).mp z
          omega)
        rwa [show r' - 3 + 3 = r' by omega] at this
theorem II_up {M : n_M} (h : II M) {k r : Nat} {u : List Int32} (hk : k < 8) (hr : n_V r) (hu : M.2 5 (k + 3) = nI r :: u) : II (m_rdy (m_out M (k + 3) r) r) := by
  obtain ⟨e6, hR⟩ := IR_up h.1 hk hr hu
  have hal : m_al M r := by unfold m_al; rw [e6]; decide
  have hR2 : IR (m_rdy (m_out M (k + 3) r) r) := by
    rw [← m_rdy_over _ r 2]
    exact IR_rdy hR hr (by rw [ms_e]; decide)
  refine II_st h hr hal hR2 (fun c i a _ => ?_) (fun c i a => ?_) ?_ ?_ ?_
  · rw [m_rdy_sn (by omega)]; rfl
  · rw [m_rdy_l a]; unfold m_out; rw [ml_n (by omega)]
  · rw [m_rdy_sn (by omega)]; exact Int32.le_refl _
  · rw [m_rdy_0]; exact st1
  · rw [m_rdy_0]; intro z; exact absurd z (by decide)
theorem II_mem {M M' : n_M} (h : II M) (hB : IB M') (hS : ∀ c i, c ≠ 10 → c ≠ 11 → c ≠ 13 → M'.1 c i = M.1 c i) (hL : ∀ c i, c ≠ 10 → c ≠ 11 → M'.2 c i = M.2 c i) : II M' := by
  obtain ⟨i1, i2, i3, i4, i5, i6⟩ := h
  refine ⟨IR_cong i1 (fun r _ => hS 0 r (by omega) (by omega) (by omega)) (fun r _ => hS 2 r (by omega) (by omega) (by omega)) (fun r _ => hS 7 r (by omega) (by omega) (by omega)) (fun r _ => hL 5 r (by omega) (by omega)), hB, fun p hp => ?_, fun p hp => ?_, fun i hi => ?_, fun i hi hu => ?_⟩
  · refine m_one_eqp (i3 p hp) ⟨fun c _ => hS c p (by omega) (by omega) (by omega), fun c _ => hL c p (by omega) (by omega), fun c _ _ => ⟨hL c _ (by omega) (by omega), hL c _ (by omega) (by omega)⟩⟩ (fun i _ => hL 12 i (by omega) (by omega)) (hS 15 0 (by omega) (by omega) (by omega)) ?_
    rw [hS 19 0 (by omega) (by omega) (by omega)]
    exact Int32.le_refl _
  · unfold m_par m_al
    rw [hS 3 p (by omega) (by omega) (by omega)]
    rcases i4 p hp with g | ⟨r, g1, g2, g3, g4, g5⟩
    · exact Or.inl g
    · exact Or.inr ⟨r, g1, g2, g3, by rw [hS 0 r (by omega) (by omega) (by omega)]; exact g4, by rw [hS 3 r (by omega) (by omega) (by omega)]; exact g5⟩
  · rw [hS 12 i (by omega) (by omega) (by omega), i5 i hi, m_cnt_cong 12 (fun p _ _ => hS 4 p (by omega) (by omega) (by omega))]
  · have := i6 i hi (by rw [← hS 12 i (by omega) (by omega) (by omega)]; exact hu)
    unfold m_prg at this ⊢
    rw [hL 12 i (by omega) (by omega), hL 13 i (by omega) (by omega)]
    exact this
