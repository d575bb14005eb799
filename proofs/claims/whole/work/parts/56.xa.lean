def m_opr (M : n_M) (q k n0 : Nat) (n : Int32) (M' : n_M) : Prop := m_mw M q k M' ∨ (m_nw M q k ∧ ((40 < (M.2 0 q).length + m_gr k ∧ M' = m_fin M q (-3)) ∨ ((M.2 0 q).length + m_gr k ≤ 40 ∧ ∃ v M1, m_do q k n (m_s M 5 q (nI (n0 + 1))) v M1 ∧ m_set q v M1 M')))
/-- what an instruction of the reference leaves -/
def XA (τ0 : n_S) (M : n_M) (q k n0 : Nat) (n : Int32) (τ' : n_S) : Prop := ∃ Ma, RepQ Ma τ' ∧ RF Ma τ' ∧ τ' 0 0 2 = τ0 0 0 2 ∧ ((τ' 0 0 52 = 0 ∧ Ma.1 0 q = 1 ∧ m_opr M q k n0 n (m_cont Ma q) ∧ m_nw M q k ∧ ∃ M1, Ma = m_dn M1 q ∧ m_do q k n (m_s M 5 q (nI (n0 + 1))) 0 M1) ∨ ((τ' 0 0 52 = 1 ∨ Ma.1 0 q ≠ 1) ∧ m_opr M q k n0 n Ma))
theorem m_nw_t {M : n_M} {q k : Nat} (h : k ≠ 31 ∧ k ≠ 33 ∧ k ≠ 35) : m_nw M q k := ⟨fun z => absurd z h.1, fun z => absurd z h.2.1, fun z => absurd z h.2.2⟩
theorem m_fin_st {M : n_M} (h : II M) {q : Nat} (hq : n_V q) (ha : m_al M q) (v : Int32) : (m_fin M q v).1 0 q = 7 := by
  obtain ⟨h1, h7⟩ := II_fin1 h hq ha v
  unfold m_fin
  split
  · rename_i hc
    rcases h.pr hq with z | ⟨r, hr, hne, e⟩
    · exact absurd z hc.1
    · have hu : m_up M q = r := by
        unfold m_up
        rw [e]
        exact nI_clamp (by have := hr.2; omega)
      rw [m_rdy_sn (by rw [hu]; omega)]
      exact h7
  · exact h7
theorem XA.done {τ0 τ' : n_S} {M M1 : n_M} {q k n0 : Nat} {n : Int32} (hmv : τ0 0 0 52 = 0) (hS : RS τ0 (m_dn M1 q) τ') (h1 : M1.1 0 q = 1) (hnw : m_nw M q k) (hg : (M.2 0 q).length + m_gr k ≤ 40) (hd : m_do q k n (m_s M 5 q (nI (n0 + 1))) 0 M1) : XA τ0 M q k n0 n τ' :=
  ⟨m_dn M1 q, hS.1, hS.2.1, hS.2.2.2, Or.inl ⟨hS.2.2.1.trans hmv, (ms_n (by omega)).trans h1, Or.inr ⟨hnw, Or.inr ⟨hg, 0, M1, hd, Or.inr (Or.inr (Or.inr (Or.inr ⟨rfl, rfl⟩)))⟩⟩, hnw, M1, rfl, hd⟩⟩
theorem XA.trap {τ0 τ' : n_S} {M M1 : n_M} {q k n0 : Nat} {n v : Int32} (hI : II M) (hq : n_V q) (ha : m_al M q) (hS : RS τ0 (m_fin M q v) τ') (hnw : m_nw M q k) (hg : (M.2 0 q).length + m_gr k ≤ 40) (hv : v < 0) (hd : m_do q k n (m_s M 5 q (nI (n0 + 1))) v M1) (he : m_fin M1 q v = m_fin M q v) : XA τ0 M q k n0 n τ' :=
  ⟨m_fin M q v, hS.1, hS.2.1, hS.2.2.2, Or.inr ⟨Or.inr (by rw [m_fin_st hI hq ha]; decide), Or.inr ⟨hnw, Or.inr ⟨hg, v, M1, hd, Or.inl ⟨hv, he.symm⟩⟩⟩⟩⟩
theorem XA.exit {τ0 τ' : n_S} {M M1 : n_M} {q k n0 : Nat} {n x : Int32} {t : List Int32} (hI : II M) (hq : n_V q) (ha : m_al M q) (hS : RS τ0 (m_fin M q x) τ') (hnw : m_nw M q k) (hg : (M.2 0 q).length + m_gr k ≤ 40) (hd : m_do q k n (m_s M 5 q (nI (n0 + 1))) 3 M1) (ht : M1.2 0 q = t ++ [x]) (he : m_fin (m_l M1 0 q t) q x = m_fin M q x) : XA τ0 M q k n0 n τ' :=
  ⟨m_fin M q x, hS.1, hS.2.1, hS.2.2.2, Or.inr ⟨Or.inr (by rw [m_fin_st hI hq ha]; decide), Or.inr ⟨hnw, Or.inr ⟨hg, 3, M1, hd, Or.inr (Or.inl ⟨rfl, t, x, ht, he.symm⟩)⟩⟩⟩⟩
theorem XA.full {τ0 τ' : n_S} {M : n_M} {q k n0 : Nat} {n : Int32} (hI : II M) (hq : n_V q) (ha : m_al M q) (hS : RS τ0 (m_fin M q (-3)) τ') (hnw : m_nw M q k) (hg : 40 < (M.2 0 q).length + m_gr k) : XA τ0 M q k n0 n τ' :=
  ⟨m_fin M q (-3), hS.1, hS.2.1, hS.2.2.2, Or.inr ⟨Or.inr (by rw [m_fin_st hI hq ha]; decide), Or.inr ⟨hnw, Or.inl ⟨hg, rfl⟩⟩⟩⟩
theorem XA.wait {τ0 τ' : n_S} {M M' : n_M} {q k n0 : Nat} {n : Int32} (hS : RS τ0 M' τ') (hw : m_mw M q k M') : XA τ0 M q k n0 n τ' := by
  refine ⟨M', hS.1, hS.2.1, hS.2.2.2, Or.inr ⟨Or.inr ?_, Or.inl hw⟩⟩
  rcases hw with ⟨-, -, rfl⟩ | ⟨-, -, rfl⟩ | ⟨-, t, x, r, -, -, -, rfl⟩ <;> (rw [m_susp_0]; decide)
theorem XA.placed {τ0 τ' : n_S} {M M1 : n_M} {q k n0 : Nat} {n : Int32} (hQ : RepQ (m_dn M1 q) τ') (hF : RF (m_dn M1 q) τ') (hc : τ' 0 0 2 = τ0 0 0 2) (hm : τ' 0 0 52 = 1 ∨ M1.1 0 q ≠ 1) (hnw : m_nw M q k) (hg : (M.2 0 q).length + m_gr k ≤ 40) (hd : m_do q k n (m_s M 5 q (nI (n0 + 1))) 1 M1) : XA τ0 M q k n0 n τ' :=
  ⟨m_dn M1 q, hQ, hF, hc, Or.inr ⟨hm.imp id (fun z => by unfold m_dn; rw [ms_n (by omega)]; exact z), Or.inr ⟨hnw, Or.inr ⟨hg, 1, M1, hd, Or.inr (Or.inr (Or.inl ⟨rfl, rfl⟩))⟩⟩⟩⟩
/-- what the end takes away anyhow -/
theorem m_fin_ab {M M1 : n_M} {q : Nat} {v : Int32} (hS : ∀ c i, ¬ (c = 5 ∧ i = q) → M1.1 c i = M.1 c i) (hL : ∀ c i, ¬ (c = 0 ∧ i = q) → M1.2 c i = M.2 c i) : m_fin M1 q v = m_fin M q v := by
  have e0 : m_emp (m_outs q 11 (m_free M1 (nI q) (-1))) q = m_emp (m_outs q 11 (m_free M (nI q) (-1))) q := by
    have f1 : m_free M1 (nI q) (-1) = m_mem M1 (m_mgs (m_nsl M) (m_fr (nI q) (-1) (m_nsl M) (M.2 11 0) 0) ([], [])).1 (m_mgs (m_nsl M) (m_fr (nI q) (-1) (m_nsl M) (M.2 11 0) 0) ([], [])).2 := by
      unfold m_free m_nsl
      rw [hL 10 0 (by omega), hL 11 0 (by omega)]
    have f2 : m_free M (nI q) (-1) = m_mem M (m_mgs (m_nsl M) (m_fr (nI q) (-1) (m_nsl M) (M.2 11 0) 0) ([], [])).1 (m_mgs (m_nsl M) (m_fr (nI q) (-1) (m_nsl M) (M.2 11 0) 0) ([], [])).2 := rfl
    rw [f1, f2]
    generalize (m_mgs (m_nsl M) (m_fr (nI q) (-1) (m_nsl M) (M.2 11 0) 0) ([], [])).1 = ns
    generalize (m_mgs (m_nsl M) (m_fr (nI q) (-1) (m_nsl M) (M.2 11 0) 0) ([], [])).2 = os
    have c1 := m_emp_c (m_outs q 11 (m_mem M1 ns os)) q
    have c2 := m_emp_c (m_outs q 11 (m_mem M ns os)) q
    obtain ⟨a1, a2, a3, a4, a5, a6, a7, a8, a9⟩ := c1
    obtain ⟨b1, b2, b3, b4, b5, b6, b7, b8, b9⟩ := c2
    refine m_ext (fun c i => ?_) (fun c i => ?_)
    · by_cases z : i = q ∧ (c = 5 ∨ c = 7 ∨ c = 8)
      · obtain ⟨rfl, rfl | rfl | rfl⟩ := z
        · rw [a7, b7]
        · rw [a8, b8]
        · rw [a9, b9]
      · rw [m_emp_s z, m_emp_s z, m_outs_s, m_outs_s]
        by_cases z2 : c ≠ 11 ∧ c ≠ 13
        · rw [m_mem_s z2, m_mem_s z2]
          exact hS c i (by omega)
        · rcases (show c = 11 ∨ c = 13 by omega) with rfl | rfl <;> rfl
    · by_cases z : ¬ (i = q ∧ c ≤ 1) ∧ ¬ ((i = 2 * q ∨ i = 2 * q + 1) ∧ (c = 2 ∨ c = 3))
      · rw [m_emp_l z, m_emp_l z, m_outs_l, m_outs_l]
        have e1 : (m_mem M1 ns os).2 c i = (m_mem M ns os).2 c i := by
          by_cases z2 : c ≠ 10 ∧ c ≠ 11
          · rw [m_mem_l z2, m_mem_l z2]
            exact hL c i (by omega)
          · show (if c = 10 ∧ i = 0 then _ else if c = 11 ∧ i = 0 then _ else M1.2 c i) = (if c = 10 ∧ i = 0 then _ else if c = 11 ∧ i = 0 then _ else M.2 c i)
            rw [hL c i (by omega)]
        rw [e1]
      · rcases (show (i = q ∧ c = 0) ∨ (i = q ∧ c = 1) ∨ (i = 2 * q ∧ c = 2) ∨ (i = 2 * q ∧ c = 3) ∨ (i = 2 * q + 1 ∧ c = 2) ∨ (i = 2 * q + 1 ∧ c = 3) by omega) with ⟨rfl, rfl⟩ | ⟨rfl, rfl⟩ | ⟨rfl, rfl⟩ | ⟨rfl, rfl⟩ | ⟨rfl, rfl⟩ | ⟨rfl, rfl⟩
        · rw [a1, b1]
        · rw [a2, b2]
        · rw [a3, b3]
        · rw [a4, b4]
        · rw [a5, b5]
        · rw [a6, b6]
  have e1 : m_fin1 M1 q v = m_fin1 M q v := by
    unfold m_fin1
    rw [e0]
  have e2 : m_up M1 q = m_up M q := by
    unfold m_up
    rw [hS 3 q (by omega)]
  unfold m_fin
  rw [e1, e2, hS 3 q (by omega)]
theorem m_fin_ab' {M : n_M} {q : Nat} {v y : Int32} {t : List Int32} : m_fin (m_l (m_s M 5 q y) 0 q t) q v = m_fin M q v :=
  m_fin_ab (fun _ _ z => ms_n z) (fun _ _ z => ml_n z)
theorem m_rdy_s {M : n_M} {c i r : Nat} {v : Int32} (hc : c ≠ 0 ∧ c ≠ 2 ∧ c ≠ 7 ∧ c ≠ 8) : m_rdy (m_s M c i v) r = m_s (m_rdy M r) c i v := by
  have e : m_lv (m_s M c i v) r = m_lv M r := by
    unfold m_lv
    rw [ms_n (by omega)]
  unfold m_rdy
  rw [e, ms_c (c := c) (i := i) (c' := 0) _ _ _ (by omega), ms_c (c := c) (i := i) (c' := 7) _ _ _ (by omega), ms_c (c := c) (i := i) (c' := 8) _ _ _ (by omega), msl_c]
  rfl
theorem m_rdy_lc {M : n_M} {c i r : Nat} {t : List Int32} (hc : c ≠ 5) : m_rdy (m_l M c i t) r = m_l (m_rdy M r) c i t := by
  have e : (m_l M c i t).2 5 (m_lv M r) = M.2 5 (m_lv M r) := ml_n (by omega)
  show m_l (m_l (m_s (m_s (m_s M 0 r 1) 7 r 0) 8 r 0) c i t) 5 (m_lv M r) ((m_l M c i t).2 5 (m_lv M r) ++ [nI r]) = _
  rw [e, ml_c _ _ _ (by omega)]
  rfl
theorem m_mem_sc {M : n_M} {c i : Nat} {v : Int32} {ns : List Nat} {os : List Int32} (hc : c ≠ 11 ∧ c ≠ 13) : m_mem (m_s M c i v) ns os = m_s (m_mem M ns os) c i v := by
  refine m_ext (fun a b => ?_) (fun a b => rfl)
  by_cases z : a = 11 ∨ a = 13
  · rw [ms_n (by omega)]
    rcases z with rfl | rfl <;> rfl
  · rw [m_mem_s (by omega), m_s_s, m_s_s, m_mem_s (by omega)]
theorem m_mem_lc {M : n_M} {c i : Nat} {t : List Int32} {ns : List Nat} {os : List Int32} (hc : c ≠ 10 ∧ c ≠ 11) : m_mem (m_l M c i t) ns os = m_l (m_mem M ns os) c i t := by
  refine m_ext (fun a b => rfl) (fun a b => ?_)
  by_cases z : a = 10 ∨ a = 11
  · rw [ml_n (by omega)]
    show (if a = 10 ∧ b = 0 then _ else if a = 11 ∧ b = 0 then _ else (m_l M c i t).2 a b) = (if a = 10 ∧ b = 0 then _ else if a = 11 ∧ b = 0 then _ else M.2 a b)
    rw [ml_n (by omega)]
  · rw [m_mem_l (by omega), m_l_l, m_l_l, m_mem_l (by omega)]
theorem m_free_sc {M : n_M} {c i : Nat} {v o x : Int32} (hc : c ≠ 11 ∧ c ≠ 13) : m_free (m_s M c i v) o x = m_s (m_free M o x) c i v := m_mem_sc hc
theorem m_nsl_l {M : n_M} {c i : Nat} {t : List Int32} (hc : c ≠ 10) : m_nsl (m_l M c i t) = m_nsl M := by
  unfold m_nsl
  rw [ml_n (by omega)]
theorem m_free_lc {M : n_M} {c i : Nat} {t : List Int32} {o x : Int32} (hc : c ≠ 10 ∧ c ≠ 11) : m_free (m_l M c i t) o x = m_l (m_free M o x) c i t := by
  unfold m_free
  rw [m_nsl_l hc.1, ml_n (by omega), m_mem_lc hc]
theorem m_own1_sc {M : n_M} {c i j : Nat} {v o : Int32} (hc : c ≠ 11 ∧ c ≠ 13) : m_own1 (m_s M c i v) j o = m_s (m_own1 M j o) c i v := m_mem_sc hc
theorem m_own1_lc {M : n_M} {c i j : Nat} {t : List Int32} {o : Int32} (hc : c ≠ 10 ∧ c ≠ 11) : m_own1 (m_l M c i t) j o = m_l (m_own1 M j o) c i t := by
  unfold m_own1
  rw [m_nsl_l hc.1, ml_n (by omega), m_mem_lc hc]
theorem m_fl_sc {M : n_M} {c i c' a b : Nat} {v w : Int32} (hc : c ≠ c') : m_fl (m_s M c i v) c' a b w = m_s (m_fl M c' a b w) c i v := by
  refine m_ext (fun x y => ?_) (fun x y => rfl)
  by_cases z : x = c'
  · rw [ms_n (by omega)]
    show (if x = c' ∧ a ≤ y ∧ y < b then w else (m_s M c i v).1 x y) = (if x = c' ∧ a ≤ y ∧ y < b then w else M.1 x y)
    rw [ms_n (by omega)]
  · rw [m_fl_n z, m_s_s, m_s_s, m_fl_n z]
theorem m_cut_sc {M : n_M} {c i j n : Nat} {v o : Int32} {ns : List Nat} {os : List Int32} (hc : c ≠ 11 ∧ c ≠ 13 ∧ c ≠ 10) : m_cut (m_s M c i v) ns os j n o = m_s (m_cut M ns os j n o) c i v := by
  unfold m_cut
  rw [m_mem_sc ⟨hc.1, hc.2.1⟩, m_fl_sc hc.2.2]
theorem m_cut_lc {M : n_M} {c i j n : Nat} {t : List Int32} {o : Int32} {ns : List Nat} {os : List Int32} (hc : c ≠ 10 ∧ c ≠ 11) : m_cut (m_l M c i t) ns os j n o = m_l (m_cut M ns os j n o) c i t := by
  unfold m_cut
  rw [m_mem_lc hc]
  rfl
theorem m_box_sc {M : n_M} {c i r : Nat} {v x y : Int32} : m_box (m_s M c i v) r x y = m_s (m_box M r x y) c i v := rfl
theorem m_box_lc {M : n_M} {c i r : Nat} {t : List Int32} {x y : Int32} (hc : c ≠ 2 ∧ c ≠ 3) : m_box (m_l M c i t) r x y = m_l (m_box M r x y) c i t := by
  unfold m_box
  rw [ml_n (c' := 2) (by omega), ml_n (c' := 3) (by omega), ml_c (c := c) (i := i) (c' := 2) _ _ _ (by omega), ml_c (c := c) (i := i) (c' := 3) _ _ _ (by omega)]
theorem m_del_sc {M : n_M} {c i r : Nat} {v x y : Int32} (hc : c ≠ 0 ∧ c ≠ 2 ∧ c ≠ 7 ∧ c ≠ 8) : m_del (m_s M c i v) r x y = m_s (m_del M r x y) c i v := by
  unfold m_del
  rw [ms_n (by omega), m_box_sc]
  by_cases z : M.1 0 r = 2
  · rw [if_pos z, if_pos z, m_rdy_s hc]
  · rw [if_neg z, if_neg z]
theorem m_del_lc {M : n_M} {c i r : Nat} {t : List Int32} {x y : Int32} (hc : c ≠ 2 ∧ c ≠ 3 ∧ c ≠ 5) : m_del (m_l M c i t) r x y = m_l (m_del M r x y) c i t := by
  unfold m_del
  rw [m_box_lc ⟨hc.1, hc.2.1⟩, show (m_l M c i t).1 0 r = M.1 0 r from rfl]
  by_cases z : M.1 0 r = 2
  · rw [if_pos z, if_pos z, m_rdy_lc hc.2.2]
  · rw [if_neg z, if_neg z]
theorem m_outs_sc {M : n_M} {c i r n : Nat} {v : Int32} : m_outs r n (m_s M c i v) = m_s (m_outs r n M) c i v := by
  refine m_ext (fun a b => ?_) (fun a b => ?_)
  · rw [m_outs_s, m_s_s, m_s_s, m_outs_s]
  · rw [m_outs_l, m_s_l, m_s_l, m_outs_l]
theorem m_outs_lc {M : n_M} {c i r n : Nat} {t : List Int32} (hc : c ≠ 5) : m_outs r n (m_l M c i t) = m_l (m_outs r n M) c i t := by
  refine m_ext (fun a b => ?_) (fun a b => ?_)
  · rw [m_outs_s, m_l_s, m_l_s, m_outs_s]
  · rw [m_outs_l]
    by_cases z : a = 5
    · rw [ml_n (by omega), ml_n (by omega), m_outs_l]
    · rw [if_neg (show ¬ (a = 5 ∧ b < n) from fun w => z w.1), m_l_l, m_l_l, m_outs_l, if_neg (show ¬ (a = 5 ∧ b < n) from fun w => z w.1)]
theorem m_emp_lc {M : n_M} {p q : Nat} {t : List Int32} (h : q ≠ p) : m_emp (m_l M 0 q t) p = m_l (m_emp M p) 0 q t := by
  unfold m_emp
  rw [ml_c (c := 0) (i := q) (c' := 0) (i' := p) _ _ _ (by omega), ml_c (c := 0) (i := q) (c' := 1) _ _ _ (by omega), ml_c (c := 0) (i := q) (c' := 2) _ _ _ (by omega), ml_c (c := 0) (i := q) (c' := 3) _ _ _ (by omega), ml_c (c := 0) (i := q) (c' := 2) _ _ _ (by omega), ml_c (c := 0) (i := q) (c' := 3) _ _ _ (by omega)]
  rfl
theorem m_van_lc {M : n_M} {p q : Nat} {t : List Int32} (h : q ≠ p) : m_van (m_l M 0 q t) p = m_l (m_van M p) 0 q t := by
  unfold m_van
  rw [m_emp_lc h]
  have e : m_usr (m_l (m_emp M p) 0 q t) p = m_l (m_usr (m_emp M p) p) 0 q t := by
    unfold m_usr m_pi
    rw [m_l_s]
    by_cases z : (m_emp M p).1 4 p = 0
    · rw [if_pos z, if_pos z]
    · rw [if_neg z, if_neg z]
      rfl
  rw [e]
  rfl
theorem m_kid1_s {M : n_M} {r p q c : Nat} {x : Int32} (h3 : M.1 3 q ≠ nI r) (hc : c ≠ 0 ∧ c ≠ 3 ∧ c ≠ 12) : m_kid1 (m_s M c q x) r p = m_s (m_kid1 M r p) c q x := by
  unfold m_kid1
  rw [ms_n (by omega)]
  by_cases e : M.1 3 p = nI r
  · have hne : p ≠ q := fun z => h3 (by rw [z] at e; exact e)
    rw [if_pos e, if_pos e, ms_n (by omega)]
    by_cases e7 : M.1 0 p = 7
    · rw [if_pos e7, if_pos e7, ms_c _ _ _ (by omega), m_van_sc (fun z => hne z.symm) (by omega)]
    · rw [if_neg e7, if_neg e7, ms_c _ _ _ (by omega)]
  · rw [if_neg e, if_neg e]
theorem m_kid1_l {M : n_M} {r p q : Nat} {t : List Int32} (h3 : M.1 3 q ≠ nI r) : m_kid1 (m_l M 0 q t) r p = m_l (m_kid1 M r p) 0 q t := by
  unfold m_kid1
  rw [m_l_s]
  by_cases e : M.1 3 p = nI r
  · have hne : p ≠ q := fun z => h3 (by rw [z] at e; exact e)
    rw [if_pos e, if_pos e]
    by_cases e7 : M.1 0 p = 7
    · rw [if_pos e7, if_pos e7, ← msl_c, m_van_lc (fun z => hne z.symm)]
    · rw [if_neg e7, if_neg e7]
      rfl
  · rw [if_neg e, if_neg e]
theorem m_kids_s {M : n_M} {r q c : Nat} {x : Int32} (h3 : M.1 3 q ≠ nI r) (hc : c ≠ 0 ∧ c ≠ 3 ∧ c ≠ 12) : ∀ n, m_kids r n (m_s M c q x) = m_s (m_kids r n M) c q x
  | 0 => rfl
  | n + 1 => by
    show m_kid1 (m_kids r n (m_s M c q x)) r (n + 1) = m_s (m_kid1 (m_kids r n M) r (n + 1)) c q x
    rw [m_kids_s h3 hc n, m_kid1_s (by rw [(m_kids_o (c := 3) h3 (by omega) n).1]; exact h3) hc]
theorem m_kids_lc {M : n_M} {r q : Nat} {t : List Int32} (h3 : M.1 3 q ≠ nI r) : ∀ n, m_kids r n (m_l M 0 q t) = m_l (m_kids r n M) 0 q t
  | 0 => rfl
  | n + 1 => by
    show m_kid1 (m_kids r n (m_l M 0 q t)) r (n + 1) = m_l (m_kid1 (m_kids r n M) r (n + 1)) 0 q t
    rw [m_kids_lc h3 n, m_kid1_l (by rw [(m_kids_o (c := 3) h3 (by omega) n).1]; exact h3)]
theorem m_fin1_s5 {M : n_M} {r q : Nat} {x v : Int32} (hne : q ≠ r) (h3 : M.1 3 q ≠ nI r) : m_fin1 (m_s M 5 q x) r v = m_s (m_fin1 M r v) 5 q x := by
  have e3 : (m_emp (m_outs r 11 (m_free M (nI r) (-1))) r).1 3 q ≠ nI r := by
    rw [m_emp_s (by omega), m_outs_s, m_free_s (by omega)]
    exact h3
  unfold m_fin1
  rw [m_free_sc (by omega), m_outs_sc, m_emp_sc hne, m_kids_s e3 (by omega), ms_c (c := 5) (i := q) (c' := 0) _ _ _ (by omega), ms_c (c := 5) (i := q) (c' := 1) _ _ _ (by omega)]
theorem m_fin1_l0 {M : n_M} {r q : Nat} {t : List Int32} {v : Int32} (hne : q ≠ r) (h3 : M.1 3 q ≠ nI r) : m_fin1 (m_l M 0 q t) r v = m_l (m_fin1 M r v) 0 q t := by
  have e3 : (m_emp (m_outs r 11 (m_free M (nI r) (-1))) r).1 3 q ≠ nI r := by
    rw [m_emp_s (by omega), m_outs_s, m_free_s (by omega)]
    exact h3
  unfold m_fin1
  rw [m_free_lc (by omega), m_outs_lc (by omega), m_emp_lc hne, m_kids_lc e3, ← msl_c, ← msl_c]
theorem m_spn_s5 {M : n_M} {r q i : Nat} {x n : Int32} (hne : q ≠ r) : m_spn (m_s M 5 q x) q r i n = m_s (m_spn M q r i n) 5 q x := by
  unfold m_spn m_adm
  rw [ms_n (c' := 2) (by omega), ms_n (c' := 12) (by omega), ms_c (c := 5) (i := q) (c' := 4) _ _ _ (by omega), ms_c (c := 5) (i := q) (c' := 12) _ _ _ (by omega), ms_c (c := 5) (i := q) (c' := 2) _ _ _ (by omega), m_rdy_s (by omega), ms_c (c := 5) (i := q) (c' := 3) _ _ _ (by omega), ms_c (c := 5) (i := q) (c' := 5) (i' := r) _ _ _ (by omega)]
