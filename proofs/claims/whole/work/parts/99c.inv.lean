/-! the tape stays; what holds between the calls -/
def S8 (M M' : n_M) : Prop := M'.2 8 0 = M.2 8 0
theorem S8.trans {M M' M'' : n_M} (h : S8 M M') (h2 : S8 M' M'') : S8 M M'' := Eq.trans h2 h
theorem S8_s (M : n_M) {c i : Nat} {v : Int32} (hc : 0 = 0) : S8 M (m_s M c i v) := rfl
theorem S8_st (M : n_M) {q : Nat} {v : Int32} (hv : 0 = 0) : S8 M (m_s M 0 q v) := rfl
theorem S8_l (M : n_M) (c i : Nat) (v : List Int32) (hc : c ≠ 8 := by decide) : S8 M (m_l M c i v) := by
  show (if 8 = c ∧ 0 = i then v else M.2 8 0) = M.2 8 0
  rw [if_neg (fun q => hc q.1.symm)]
theorem S8_rdy (M : n_M) (q : Nat) : S8 M (m_rdy M q) := m_rdy_l (by decide)
theorem S8_susp (M : n_M) (q : Nat) {st : Int32} (aw : Int32) (hv : 0 = 0) : S8 M (m_susp M q st aw) := m_susp_l (by decide)
theorem S8_emp (M : n_M) (q : Nat) : S8 M (m_emp M q) := m_emp_l (by omega)
theorem S8_van (M : n_M) (q : Nat) : S8 M (m_van M q) := m_van_l (by omega)
theorem S8_mem (M : n_M) (ns : List Nat) (os : List Int32) : S8 M (m_mem M ns os) := m_mem_l (by omega)
theorem S8_outs (M : n_M) (q n : Nat) : S8 M (m_outs q n M) := by
  unfold S8
  rw [m_outs_l, if_neg (by omega)]
theorem S8_cut (M : n_M) (ns : List Nat) (os : List Int32) (j n : Nat) (o : Int32) : S8 M (m_cut M ns os j n o) := m_cut_l (by omega)
theorem S8_plast (M : n_M) (q : Nat) (a : Int32) : S8 M (m_plast M q a) := ((S8_l M _ _ _).trans (S8_s _ (by omega))).trans (S8_rdy _ _)
theorem S8_kid1 (M : n_M) (q p : Nat) : S8 M (m_kid1 M q p) := by
  unfold m_kid1
  split
  · split
    · exact (S8_s M (by omega)).trans (S8_van _ _)
    · exact S8_s M (by omega)
  · exact rfl
theorem S8_kids (M : n_M) (q : Nat) : ∀ n, S8 M (m_kids q n M)
  | 0 => rfl
  | n + 1 => (S8_kids M q n).trans (S8_kid1 _ _ _)
theorem S8_free (M : n_M) (o x : Int32) : S8 M (m_free M o x) := S8_mem M _ _
theorem S8_fin1 (M : n_M) (q : Nat) (v : Int32) : S8 M (m_fin1 M q v) := by
  unfold m_fin1
  exact (((((S8_free M _ _).trans (S8_outs _ _ _)).trans (S8_emp _ _)).trans (S8_kids _ _ _)).trans (S8_st _ (by decide))).trans (S8_s _ (by omega))
theorem S8_fin (M : n_M) (q : Nat) (v : Int32) : S8 M (m_fin M q v) := by
  unfold m_fin
  split
  · exact (S8_fin1 M q v).trans (S8_rdy _ _)
  · exact S8_fin1 M q v
theorem S8_del (M : n_M) (r : Nat) (x y : Int32) : S8 M (m_del M r x y) := by
  unfold m_del
  split
  · exact ((S8_l M _ _ _).trans (S8_l _ _ _ _)).trans (S8_rdy _ _)
  · exact (S8_l M _ _ _).trans (S8_l _ _ _ _)
theorem S8_adm (M : n_M) (r i : Nat) (a : Int32) : S8 M (m_adm M r i a) := (((S8_s M (by omega)).trans (S8_s _ (by omega))).trans (S8_s _ (by omega))).trans (S8_rdy _ _)
theorem S8_spn (M : n_M) (q r i : Nat) (n : Int32) : S8 M (m_spn M q r i n) := ((S8_adm M _ _ _).trans (S8_s _ (by omega))).trans (S8_s _ (by omega))
theorem S8_show (M : n_M) (x : Int32) : S8 M (m_show M x) := by
  unfold m_show
  split
  · exact S8_l M _ _ _
  · exact S8_s M (by omega)
theorem S8_slp (M : n_M) (q : Nat) (a : Int32) : S8 M (m_slp M q a) := (S8_s M (by omega)).trans (S8_susp _ _ _ (by decide))
theorem S8_jn (M : n_M) (q k : Nat) : S8 M (m_jn M q k) := (S8_susp M q _ (by decide)).trans (S8_l _ _ _ _)
theorem S8_rf (M : n_M) : S8 M M := rfl
theorem S8_own1 (M : n_M) (j : Nat) (o : Int32) : S8 M (m_own1 M j o) := S8_mem M _ _
theorem S8_out (M : n_M) (r q : Nat) : S8 M (m_out M r q) := S8_l M _ _ _
theorem S8_do {q k : Nat} {n v : Int32} {M M' : n_M} (h : m_do q k n M v M') : S8 M M' := by
  rcases h with ⟨-, -, s, -, rfl⟩ | ⟨-, t, a, b, -, ⟨-, -, rfl⟩ | ⟨-, -, rfl⟩⟩ | ⟨-, -, rfl⟩ | ⟨-, -, t, a, -, rfl⟩ | ⟨-, ⟨-, -, rfl⟩ | ⟨-, -, rfl⟩⟩ | ⟨-, ⟨-, -, rfl⟩ | ⟨t, a, -, -, rfl⟩⟩ | ⟨-, -, rfl⟩ | ⟨-, t, a, -, ⟨j, -, -, rfl⟩ | ⟨-, -, rfl⟩⟩ | ⟨-, t, x, a, -, ⟨j, -, -, rfl⟩ | ⟨-, -, rfl⟩⟩ | ⟨-, -, t, a, -, ⟨n', j, -, -, -, rfl⟩ | ⟨-, rfl⟩⟩ | ⟨-, -, t, a, -, ⟨-, rfl⟩ | ⟨-, rfl⟩⟩ | ⟨-, -, t, a, x, -, ⟨r, j, -, -, -, -, rfl⟩ | ⟨-, rfl⟩⟩ | ⟨-, -, t, x, y, -, ⟨-, rfl⟩ | ⟨r, -, -, -, ⟨-, rfl⟩ | ⟨-, rfl⟩⟩⟩ | ⟨-, -, x, y, bs, ws, -, -, rfl⟩ | ⟨-, -, t, x, -, rfl⟩ | ⟨-, -, x, bs, -, rfl⟩ | ⟨-, -, ⟨r, i', -, -, -, rfl⟩ | ⟨-, rfl⟩⟩ | ⟨-, -, t, x, -, ⟨r, -, rfl⟩ | ⟨-, rfl⟩⟩ | ⟨-, -, t, x, -, ⟨r, -, -, rfl⟩ | ⟨-, rfl⟩⟩ | ⟨-, -, rfl⟩ | ⟨-, t, a, -, ⟨-, -, rfl⟩ | ⟨-, -, rfl⟩⟩ | ⟨-, -, rfl⟩ | ⟨-, -, t, a, -, rfl⟩ | ⟨-, t, a, -, ⟨k', -, -, ⟨-, -, rfl⟩ | ⟨-, -, rfl⟩⟩ | ⟨-, -, rfl⟩⟩ | ⟨-, t, a, -, ⟨k', -, -, -, ⟨r, u, -, -, rfl⟩ | ⟨-, rfl⟩⟩ | ⟨-, -, rfl⟩⟩
  all_goals first
    | with_reducible exact S8_rf _
    | with_reducible exact S8_l M _ _ _
    | with_reducible exact S8_s M (by omega)
    | with_reducible exact (S8_l M _ _ _).trans (S8_s _ (by omega))
    | with_reducible exact ((S8_l M _ _ _).trans (S8_l _ _ _ _)).trans (S8_l _ _ _ _)
    | with_reducible exact (S8_l M _ _ _).trans ((S8_cut _ _ _ _ _ _).trans (S8_l _ _ _ _))
    | with_reducible exact (S8_l M _ _ _).trans ((S8_free _ _ _).trans (S8_l _ _ _ _))
    | with_reducible exact (S8_l M _ _ _).trans ((S8_own1 _ _ _).trans (S8_l _ _ _ _))
    | with_reducible exact (S8_l M _ _ _).trans ((S8_del _ _ _ _).trans (S8_l _ _ _ _))
    | with_reducible exact (S8_l M _ _ _).trans (S8_show _ _)
    | with_reducible exact (S8_spn M _ _ _ _).trans (S8_l _ _ _ _)
    | with_reducible exact (S8_l M _ _ _).trans (S8_van _ _)
    | with_reducible exact (S8_l M _ _ _).trans ((S8_fin _ _ _).trans (S8_l _ _ _ _))
    | with_reducible exact (S8_l M _ _ _).trans (S8_plast _ _ _)
    | with_reducible exact S8_plast M _ _
    | with_reducible exact (S8_l M _ _ _).trans (S8_jn _ _ _)
    | with_reducible exact (S8_l M _ _ _).trans ((S8_out _ _ _).trans (S8_rdy _ _))
    | with_reducible exact rfl
    | (split <;> first | with_reducible exact S8_l M _ _ _ | with_reducible exact (S8_l M _ _ _).trans (S8_s _ (by omega)) | with_reducible exact (S8_l M _ _ _).trans (S8_plast _ _ _) | with_reducible exact (S8_l M _ _ _).trans (S8_slp _ _ _))
theorem S8_set {q : Nat} {v : Int32} {M M' : n_M} (h : m_set q v M M') : S8 M M' := by
  rcases h with ⟨-, rfl⟩ | ⟨-, t, x, -, rfl⟩ | ⟨-, rfl⟩ | ⟨-, rfl⟩ | ⟨-, rfl⟩
  · exact S8_fin M _ _
  · exact (S8_l M _ _ _).trans (S8_fin _ _ _)
  · exact S8_s M (by omega)
  · exact rfl
  · unfold m_cont
    split
    · exact (S8_s M (by omega)).trans ((S8_s _ (by omega)).trans (S8_plast _ _ _))
    · exact (S8_s M (by omega)).trans (S8_s _ (by omega))
theorem S8_act {q : Nat} {M M' : n_M} (h : m_act M q M') : S8 M M' := by
  obtain ⟨i, hi, h4, ⟨-, rfl⟩ | ⟨n0, k, hk, hn0, h5, hop, hA⟩⟩ := h
  · exact S8_fin M _ _
  rcases hA with ⟨-, rfl⟩ | ⟨-, (⟨-, -, rfl⟩ | ⟨-, -, rfl⟩ | ⟨-, t, x, r, -, -, -, rfl⟩) | ⟨-, ⟨-, rfl⟩ | ⟨hgr, v, M1, hd, hs⟩⟩⟩
  · exact S8_fin M _ _
  · exact S8_susp M _ _ (by decide)
  · exact S8_susp M _ _ (by decide)
  · exact S8_susp M _ _ (by decide)
  · exact S8_fin M _ _
  · exact (S8_s M (by omega)).trans ((S8_do hd).trans (S8_set hs))
theorem S8_ws1 (M : n_M) (q : Nat) : S8 M (m_ws1 M q) := by
  unfold m_ws1
  split
  · split
    · exact S8_rdy M q
    · exact S8_s M (by omega)
  · exact rfl
theorem S8_ws (M : n_M) : ∀ n, S8 M (m_ws n M)
  | 0 => rfl
  | n + 1 => (S8_ws M n).trans (S8_ws1 _ _)
theorem S8_wake (M : n_M) : S8 M (m_wake M) := by
  unfold m_wake
  split
  · exact ((S8_s M (by omega)).trans (S8_s _ (by omega))).trans (S8_ws _ _)
  · exact S8_s M (by omega)
theorem S8_tick {M M' : n_M} {v : Int32} (h : m_tick M v M') : S8 M M' := by
  rcases h with ⟨-, -, rfl⟩ | ⟨r, q, t, -, -, -, -, -, hA⟩
  · exact S8_wake M
  · exact (S8_wake M).trans (S8_act hA)
theorem S8_key (M : n_M) (q : Nat) (x : Int32) : S8 M (m_key M q x) := by
  unfold m_key m_kb
  split
  · exact ((S8_l M _ _ _).trans (S8_l _ _ _ _)).trans (S8_rdy _ _)
  · exact (S8_l M _ _ _).trans (S8_l _ _ _ _)
theorem S7_key (M : n_M) (q : Nat) (x : Int32) : S7 M (m_key M q x) := by
  unfold m_key m_kb
  split
  · exact ((S7_l M _ _ _).trans (S7_l _ _ _ _)).trans (S7_rdy _ _)
  · exact (S7_l M _ _ _).trans (S7_l _ _ _ _)
theorem m_key_15 (M : n_M) (q : Nat) (x : Int32) : (m_key M q x).1 15 0 = M.1 15 0 := by
  unfold m_key m_kb
  split
  · exact m_rdy_sn (by omega)
  · rfl
theorem m_del_15 (M : n_M) (q : Nat) (x y : Int32) : (m_del M q x y).1 15 0 = M.1 15 0 := by
  unfold m_del m_box
  split
  · exact m_rdy_sn (by omega)
  · rfl
theorem m_adm_15 (M : n_M) (r i : Nat) (a : Int32) : (m_adm M r i a).1 15 0 = M.1 15 0 := m_adm_s (by omega) (by omega)
theorem II_key {M : n_M} (h : II M) {r : Nat} (hr : n_V r) (ha : m_al M r) (x : Int32) : II (m_key M r x) := by
  have hb : II (m_kb M r x) := by
    refine II_own h hr ha (fun _ _ _ _ => rfl) (fun c i a b _ _ => ?_)
    unfold m_kb
    rw [ml_n (by omega), ml_n (by omega)]
  unfold m_key
  by_cases e : M.1 0 r = 4
  · rw [if_pos e]
    have e' : (m_kb M r x).1 0 r = 4 := e
    exact II_rdy hb hr ha (by rw [e']; decide)
  · rw [if_neg e]
    exact hb
theorem LI_lv {x : Int32} (h : ¬ x < 0 ∧ x < 3) : ∃ q, q < 3 ∧ x = nI q := by
  obtain ⟨q, hq, rfl⟩ := nI_of h.1
  exact ⟨q, (nI_ltI (a := q) (b := 3) (by omega) (by decide)).mp h.2, rfl⟩
theorem II_frm {M M' : n_M} (h : II M) (hS : ∀ c i, ¬ m_frS c → M'.1 c i = M.1 c i) (hL : ∀ c i, c ≠ 7 → c ≠ 8 → M'.2 c i = M.2 c i) : II M' := by
  have hs : ∀ c i, c ≤ 8 ∨ c = 11 ∨ c = 12 ∨ c = 13 ∨ c = 15 ∨ c = 19 → M'.1 c i = M.1 c i := fun c i hc => hS c i (by unfold m_frS; omega)
  obtain ⟨i1, i2, i3, i4, i5, i6⟩ := h
  refine ⟨IR_cong i1 (fun r _ => hs 0 r (by omega)) (fun r _ => hs 2 r (by omega)) (fun r _ => hs 7 r (by omega)) (fun r _ => hL 5 r (by omega) (by omega)), IB_cong i2 (fun k => hs 11 k (by omega)) (fun k => hs 13 k (by omega)) (hL 10 0 (by omega) (by omega)) (hL 11 0 (by omega) (by omega)), fun p hp => ?_, fun p hp => ?_, fun i hi => ?_, fun i hi hu => ?_⟩
  · refine m_one_eqp (i3 p hp) ⟨fun c hc => hs c p (by omega), fun c _ => hL c p (by omega) (by omega), fun c _ _ => ⟨hL c _ (by omega) (by omega), hL c _ (by omega) (by omega)⟩⟩ (fun i _ => hL 12 i (by omega) (by omega)) (hs 15 0 (by omega)) ?_
    rw [hs 19 0 (by omega)]
    exact Int32.le_refl _
  · unfold m_par m_al
    rw [hs 3 p (by omega)]
    rcases i4 p hp with g | ⟨r, g1, g2, g3, g4, g5⟩
    · exact Or.inl g
    · exact Or.inr ⟨r, g1, g2, g3, by rw [hs 0 r (by omega)]; exact g4, by rw [hs 3 r (by omega)]; exact g5⟩
  · rw [hs 12 i (by omega), i5 i hi, m_cnt_cong 12 (fun p _ _ => hs 4 p (by omega))]
  · rw [hs 12 i (by omega)] at hu
    have := i6 i hi hu
    unfold m_prg at this ⊢
    rw [hL 12 i (by omega) (by omega), hL 13 i (by omega) (by omega)]
    exact this
def LI (M : n_M) (ck : Nat) : Prop := II M ∧ I7 M ∧ BY (M.2 8 0) ∧ M.1 15 0 = nI ck
theorem LI.up {M M' : n_M} {ck : Nat} (h : LI M ck) (h1 : II M') (h2 : S7 M M') (h3 : S8 M M') (h4 : M'.1 15 0 = M.1 15 0) : LI M' ck := ⟨h1, h.2.1.step h2, by rw [h3]; exact h.2.2.1, h4.trans h.2.2.2⟩
theorem BY_app {A B : List Int32} (h1 : BY A) (h2 : BY B) : BY (A ++ B) := by
  intro j hj
  rw [List.length_append] at hj
  by_cases h : j < A.length
  · rw [List.getD_eq_getElem?_getD, List.getElem?_append_left h, ← List.getD_eq_getElem?_getD]
    exact h1 j h
  · rw [List.getD_eq_getElem?_getD, List.getElem?_append_right (by omega), ← List.getD_eq_getElem?_getD]
    exact h2 _ (by omega)
theorem BY_take {A : List Int32} (h1 : BY A) (n : Nat) : BY (A.take n) := by
  intro j hj
  rw [List.length_take] at hj
  have e : (A.take n).getD j 0 = A.getD j 0 := by
    rw [List.getD_eq_getElem?_getD, List.getD_eq_getElem?_getD, List.getElem?_take, if_pos (by omega)]
  rw [e]
  exact h1 j (by omega)
theorem BY_fb (a b c d e : Int32) : BY ((List.range 20).map (m_fb a b c d e)) := by
  intro j hj
  rw [List.length_map, List.length_range] at hj
  have e : ((List.range 20).map (m_fb a b c d e)).getD j 0 = m_fb a b c d e j := by
    rw [List.getD_eq_getElem?_getD, List.getElem?_map, List.getElem?_range hj]
    rfl
  rw [e]
  unfold m_fb m_byt
  rw [Int8.toInt8_toInt32, Int8.toInt8_toInt32]
theorem LI_8 {M : n_M} {ck : Nat} (h : LI M ck) {B : List Int32} (hB : BY B) : LI (m_l M 8 0 B) ck := by
  refine ⟨II_frm h.1 (fun _ _ _ => rfl) (fun c i _ h8 => ?_), h.2.1.step (S7_l _ _ _ _), ?_, h.2.2.2⟩
  · show (if c = 8 ∧ i = 0 then B else M.2 c i) = M.2 c i
    rw [if_neg (fun q => h8 q.1)]
  · show BY (if 8 = 8 ∧ 0 = 0 then B else M.2 8 0)
    rw [if_pos ⟨rfl, rfl⟩]
    exact hB
theorem LI_feed {M : n_M} {ck : Nat} (h : LI M ck) (a b c d e : Int32) : LI (u_feed M a b c d e).2.2 ck := by
  unfold u_feed
  split
  · exact LI_8 h (BY_app h.2.2.1 (BY_fb a b c d e))
  · exact h
theorem LI_end {M : n_M} {ck : Nat} (h : LI M ck) (x : Int32) : LI (u_end M x).2 ck := by
  unfold u_end
  split
  · exact LI_8 h (BY_take h.2.2.1 _)
  · exact h
theorem LI_quantum {M : n_M} {ck : Nat} (h : LI M ck) (x : Int32) : LI (u_quantum M x).2.2 ck := by
  unfold u_quantum
  split
  · refine h.up (II_frm h.1 (fun c i hc => ?_) (fun _ _ _ _ => rfl)) (S7_s M (by omega)) rfl (by show (if 15 = 16 ∧ 0 = 0 then x else M.1 15 0) = _; rw [if_neg (by decide)])
    show (if c = 16 ∧ i = 0 then x else M.1 c i) = M.1 c i
    rw [if_neg (fun q => hc (by unfold m_frS; omega))]
  · exact h
theorem LI_x {x : Int32} (h : ¬ x < 1 ∧ ¬ 12 < x) : n_V x.toNatClampNeg := by
  obtain ⟨q, hq, rfl⟩ := pq_of h
  have := hq.2
  rw [nI_clamp (by omega)]
  exact hq
theorem LI_al {M : n_M} {q : Nat} (h : u_al M q = true) : m_al M q := by
  unfold u_al at h
  simpa [m_al] using h
theorem LI_kill {M : n_M} {ck : Nat} (h : LI M ck) (x : Int32) : LI (u_kill M x).2.2 ck := by
  unfold u_kill
  split
  · rename_i hx
    split
    · rename_i ha
      exact h.up (II_fin h.1 (LI_x hx) (LI_al ha) (-1)) (S7_fin M _ _) (S8_fin M _ _) (m_fin_g (by omega))
    · exact h
  · exact h
theorem LI_reap {M : n_M} {ck : Nat} (h : LI M ck) (x : Int32) : LI (u_reap M x).2.2 ck := by
  unfold u_reap
  split
  · rename_i hx
    split
    · rename_i ha
      exact h.up (II_van h.1 (LI_x hx) ha.1) (S7_van M _) (S8_van M _) (m_van_g (by omega))
    · exact h
  · exact h
theorem LI_key {M : n_M} {ck : Nat} (h : LI M ck) (x y : Int32) : LI (u_key M x y).2.2 ck := by
  unfold u_key
  split
  · rename_i hx
    split
    · rename_i ha
      split
      · exact h.up (II_key h.1 (LI_x hx) (LI_al ha) y) (S7_key M _ _) (S8_key M _ _) (m_key_15 M _ _)
      · exact h
    · exact h
  · exact h
theorem LI_post {M : n_M} {ck : Nat} (h : LI M ck) (x y : Int32) : LI (u_post M x y).2.2 ck := by
  unfold u_post
  split
  · rename_i hx
    split
    · rename_i ha
      split
      · exact h.up (II_del h.1 (LI_x hx) (LI_al ha) y 0) (S7_del M _ _ _) (S8_del M _ _ _) (m_del_15 M _ _ _)
      · exact h
    · exact h
  · exact h
theorem LI_ld {M : n_M} {ck : Nat} (h : LI M ck) {i : Nat} (hs : m_sp M i) (o n : List Int32) (fv : Int32) : LI (m_ld M i o n fv) ck :=
  ⟨II_ld h.1 hs.1 hs.2.1 o n fv, h.2.1.step (S7_ld M i o n fv), fun j hj => absurd hj (Nat.not_lt_zero _), (m_ld_s (by decide)).trans h.2.2.2⟩
theorem LI_load {M : n_M} {ck : Nat} (h : LI M ck) {r i : Nat} {o n B : List Int32} {x : Int32} (hr : m_lfree M r) (hs : m_sp M i) (hp : p_all B = .inr (o, n)) (hx : ¬ x < 0 ∧ x < 3) : LI (m_adm (m_ld M i o n 0) r i x) ck := by
  have h2 := LI_ld h hs o n 0
  refine ⟨II_load h.1 hr hs hp (LI_lv hx), h2.2.1.step (S7_adm _ _ _ _), by rw [S8_adm]; exact h2.2.2.1, (m_adm_15 _ _ _ _).trans h2.2.2.2⟩
theorem LI_tick {M M' : n_M} {ck : Nat} {v : Int32} (h : LI M ck) (hc : ck + 1 < 2147483647) (ht : m_tick M v M') : LI M' (ck + 1) :=
  ⟨II_tick h.1 (by rw [h.2.2.2, nI_1]; exact (nI_ltI (a := ck + 1) (b := 2147483647) (by omega) (by decide)).mpr hc) ht, h.2.1.step (S7_tick ht), by rw [S8_tick ht]; exact h.2.2.1, by rw [m_tick_15 ht, h.2.2.2, nI_1]⟩
theorem LI_runs : ∀ (k : Nat) {M M' : n_M} {a ck : Nat}, LI M ck → ck + k < 2147483646 → m_runs k M a M' → LI M' (ck + k)
  | 0, M, M', a, ck, h, _, r => by
    rw [r.2]
    exact h
  | k + 1, M, M', a, ck, h, hc, r => by
    obtain ⟨v, M1, b, t1, r1, e1⟩ := r
    have := LI_runs k (LI_tick h (by omega) t1) (by omega) r1
    rw [show ck + 1 + k = ck + (k + 1) by omega] at this
    exact this
