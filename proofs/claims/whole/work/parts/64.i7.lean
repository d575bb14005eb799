def S7 (M M' : n_M) : Prop := ∀ p, (M'.1 0 p = M.1 0 p ∧ M'.1 7 p = M.1 7 p) ∨ M'.1 0 p ≠ 1 ∨ M'.1 7 p = 0
def I7 (M : n_M) : Prop := ∀ p, M.1 0 p = 1 → M.1 7 p = 0
theorem I7.step {M M' : n_M} (h : I7 M) (s : S7 M M') : I7 M' := fun p hp => by
  rcases s p with ⟨a, b⟩ | a | a
  · rw [b]
    exact h p (by rw [← a]; exact hp)
  · exact absurd hp a
  · exact a
theorem S7.trans {M M' M'' : n_M} (h : S7 M M') (h2 : S7 M' M'') : S7 M M'' := fun p => by
  rcases h2 p with ⟨a, b⟩ | a | a
  · rcases h p with ⟨c, d⟩ | c | c
    · exact Or.inl ⟨a.trans c, b.trans d⟩
    · exact Or.inr (Or.inl (by rw [a]; exact c))
    · exact Or.inr (Or.inr (b.trans c))
  · exact Or.inr (Or.inl a)
  · exact Or.inr (Or.inr a)
theorem S7_s (M : n_M) {c i : Nat} {v : Int32} (hc : c ≠ 0 ∧ c ≠ 7) : S7 M (m_s M c i v) := fun p => Or.inl ⟨ms_n (by omega), ms_n (by omega)⟩
theorem S7_l (M : n_M) (c i : Nat) (v : List Int32) : S7 M (m_l M c i v) := fun p => Or.inl ⟨rfl, rfl⟩
theorem S7_st (M : n_M) {q : Nat} {v : Int32} (hv : v ≠ 1) : S7 M (m_s M 0 q v) := fun p => by
  by_cases z : p = q
  · exact Or.inr (Or.inl (by rw [z, ms_e]; exact hv))
  · exact Or.inl ⟨ms_n (by omega), ms_n (by omega)⟩
theorem S7_rdy (M : n_M) (q : Nat) : S7 M (m_rdy M q) := fun p => by
  by_cases z : p = q
  · exact Or.inr (Or.inr (by rw [z]; exact m_rdy_7 M q))
  · exact Or.inl ⟨m_rdy_sn (by omega), m_rdy_sn (by omega)⟩
theorem S7_susp (M : n_M) (q : Nat) {st : Int32} (aw : Int32) (hv : st ≠ 1) : S7 M (m_susp M q st aw) := fun p => by
  by_cases z : p = q
  · exact Or.inr (Or.inl (by rw [z, m_susp_0]; exact hv))
  · exact Or.inl ⟨m_susp_sn (by omega), m_susp_sn (by omega)⟩
theorem S7_plast (M : n_M) (q : Nat) (a : Int32) : S7 M (m_plast M q a) := ((S7_l M _ _ _).trans (S7_s _ (by omega))).trans (S7_rdy _ _)
theorem S7_emp (M : n_M) (q : Nat) : S7 M (m_emp M q) := fun p => by
  by_cases z : p = q
  · exact Or.inr (Or.inr (by rw [z]; exact (m_emp_c M q).2.2.2.2.2.2.2.1))
  · exact Or.inl ⟨m_emp_s (by omega), m_emp_s (by omega)⟩
theorem S7_van (M : n_M) (q : Nat) : S7 M (m_van M q) := fun p => by
  by_cases z : p = q
  · exact Or.inr (Or.inl (by rw [z, (m_van_p M q).1]; decide))
  · exact Or.inl ⟨m_van_o (by omega) z, m_van_o (by omega) z⟩
theorem S7_kid1 (M : n_M) (q p : Nat) : S7 M (m_kid1 M q p) := by
  unfold m_kid1
  split
  · split
    · exact (S7_s M (by omega)).trans (S7_van _ _)
    · exact S7_s M (by omega)
  · exact fun p => Or.inl ⟨rfl, rfl⟩
theorem S7_kids (M : n_M) (q : Nat) : ∀ n, S7 M (m_kids q n M)
  | 0 => fun p => Or.inl ⟨rfl, rfl⟩
  | n + 1 => (S7_kids M q n).trans (S7_kid1 _ _ _)
theorem S7_mem (M : n_M) (ns : List Nat) (os : List Int32) : S7 M (m_mem M ns os) := fun p => Or.inl ⟨m_mem_s (by omega), m_mem_s (by omega)⟩
theorem S7_free (M : n_M) (o x : Int32) : S7 M (m_free M o x) := S7_mem M _ _
theorem S7_outs (M : n_M) (q n : Nat) : S7 M (m_outs q n M) := fun p => Or.inl ⟨by rw [m_outs_s], by rw [m_outs_s]⟩
theorem S7_fin1 (M : n_M) (q : Nat) (v : Int32) : S7 M (m_fin1 M q v) := by
  unfold m_fin1
  exact (((((S7_free M _ _).trans (S7_outs _ _ _)).trans (S7_emp _ _)).trans (S7_kids _ _ _)).trans (S7_st _ (by decide))).trans (S7_s _ (by omega))
theorem S7_fin (M : n_M) (q : Nat) (v : Int32) : S7 M (m_fin M q v) := by
  unfold m_fin
  split
  · exact (S7_fin1 M q v).trans (S7_rdy _ _)
  · exact S7_fin1 M q v
theorem S7_del (M : n_M) (r : Nat) (x y : Int32) : S7 M (m_del M r x y) := by
  unfold m_del
  split
  · exact ((S7_l M _ _ _).trans (S7_l _ _ _ _)).trans (S7_rdy _ _)
  · exact (S7_l M _ _ _).trans (S7_l _ _ _ _)
theorem S7_adm (M : n_M) (r i : Nat) (a : Int32) : S7 M (m_adm M r i a) := (((S7_s M (by omega)).trans (S7_s _ (by omega))).trans (S7_s _ (by omega))).trans (S7_rdy _ _)
theorem S7_spn (M : n_M) (q r i : Nat) (n : Int32) : S7 M (m_spn M q r i n) := ((S7_adm M _ _ _).trans (S7_s _ (by omega))).trans (S7_s _ (by omega))
theorem S7_cut (M : n_M) (ns : List Nat) (os : List Int32) (j n : Nat) (o : Int32) : S7 M (m_cut M ns os j n o) := fun p => Or.inl ⟨m_cut_s (by omega), m_cut_s (by omega)⟩
theorem S7_show (M : n_M) (x : Int32) : S7 M (m_show M x) := by
  unfold m_show
  split
  · exact S7_l M _ _ _
  · exact S7_s M (by omega)
theorem S7_slp (M : n_M) (q : Nat) (a : Int32) : S7 M (m_slp M q a) := (S7_s M (by omega)).trans (S7_susp _ _ _ (by decide))
theorem S7_jn (M : n_M) (q k : Nat) : S7 M (m_jn M q k) := (S7_susp M q _ (by decide)).trans (S7_l _ _ _ _)
theorem S7_rf (M : n_M) : S7 M M := fun p => Or.inl ⟨rfl, rfl⟩
theorem S7_own1 (M : n_M) (j : Nat) (o : Int32) : S7 M (m_own1 M j o) := S7_mem M _ _
theorem S7_out (M : n_M) (r q : Nat) : S7 M (m_out M r q) := S7_l M _ _ _
theorem S7_do {q k : Nat} {n v : Int32} {M M' : n_M} (h : m_do q k n M v M') : S7 M M' := by
  rcases h with ⟨-, -, s, -, rfl⟩ | ⟨-, t, a, b, -, ⟨-, -, rfl⟩ | ⟨-, -, rfl⟩⟩ | ⟨-, -, rfl⟩ | ⟨-, -, t, a, -, rfl⟩ | ⟨-, ⟨-, -, rfl⟩ | ⟨-, -, rfl⟩⟩ | ⟨-, ⟨-, -, rfl⟩ | ⟨t, a, -, -, rfl⟩⟩ | ⟨-, -, rfl⟩ | ⟨-, t, a, -, ⟨j, -, -, rfl⟩ | ⟨-, -, rfl⟩⟩ | ⟨-, t, x, a, -, ⟨j, -, -, rfl⟩ | ⟨-, -, rfl⟩⟩ | ⟨-, -, t, a, -, ⟨n', j, -, -, -, rfl⟩ | ⟨-, rfl⟩⟩ | ⟨-, -, t, a, -, ⟨-, rfl⟩ | ⟨-, rfl⟩⟩ | ⟨-, -, t, a, x, -, ⟨r, j, -, -, -, -, rfl⟩ | ⟨-, rfl⟩⟩ | ⟨-, -, t, x, y, -, ⟨-, rfl⟩ | ⟨r, -, -, -, ⟨-, rfl⟩ | ⟨-, rfl⟩⟩⟩ | ⟨-, -, x, y, bs, ws, -, -, rfl⟩ | ⟨-, -, t, x, -, rfl⟩ | ⟨-, -, x, bs, -, rfl⟩ | ⟨-, -, ⟨r, i', -, -, -, rfl⟩ | ⟨-, rfl⟩⟩ | ⟨-, -, t, x, -, ⟨r, -, rfl⟩ | ⟨-, rfl⟩⟩ | ⟨-, -, t, x, -, ⟨r, -, -, rfl⟩ | ⟨-, rfl⟩⟩ | ⟨-, -, rfl⟩ | ⟨-, t, a, -, ⟨-, -, rfl⟩ | ⟨-, -, rfl⟩⟩ | ⟨-, -, rfl⟩ | ⟨-, -, t, a, -, rfl⟩ | ⟨-, t, a, -, ⟨k', -, -, ⟨-, -, rfl⟩ | ⟨-, -, rfl⟩⟩ | ⟨-, -, rfl⟩⟩ | ⟨-, t, a, -, ⟨k', -, -, -, ⟨r, u, -, -, rfl⟩ | ⟨-, rfl⟩⟩ | ⟨-, -, rfl⟩⟩
  all_goals first
    | with_reducible exact S7_rf _
    | with_reducible exact S7_l M _ _ _
    | with_reducible exact S7_s M (by omega)
    | with_reducible exact (S7_l M _ _ _).trans (S7_s _ (by omega))
    | with_reducible exact ((S7_l M _ _ _).trans (S7_l _ _ _ _)).trans (S7_l _ _ _ _)
    | with_reducible exact (S7_l M _ _ _).trans ((S7_cut _ _ _ _ _ _).trans (S7_l _ _ _ _))
    | with_reducible exact (S7_l M _ _ _).trans ((S7_free _ _ _).trans (S7_l _ _ _ _))
    | with_reducible exact (S7_l M _ _ _).trans ((S7_own1 _ _ _).trans (S7_l _ _ _ _))
    | with_reducible exact (S7_l M _ _ _).trans ((S7_del _ _ _ _).trans (S7_l _ _ _ _))
    | with_reducible exact (S7_l M _ _ _).trans (S7_show _ _)
    | with_reducible exact (S7_spn M _ _ _ _).trans (S7_l _ _ _ _)
    | with_reducible exact (S7_l M _ _ _).trans (S7_van _ _)
    | with_reducible exact (S7_l M _ _ _).trans ((S7_fin _ _ _).trans (S7_l _ _ _ _))
    | with_reducible exact (S7_l M _ _ _).trans (S7_plast _ _ _)
    | with_reducible exact S7_plast M _ _
    | with_reducible exact (S7_l M _ _ _).trans (S7_jn _ _ _)
    | with_reducible exact (S7_l M _ _ _).trans ((S7_out _ _ _).trans (S7_rdy _ _))
    | with_reducible exact fun p => Or.inl ⟨rfl, rfl⟩
    | (split <;> first | with_reducible exact S7_l M _ _ _ | with_reducible exact (S7_l M _ _ _).trans (S7_s _ (by omega)) | with_reducible exact (S7_l M _ _ _).trans (S7_plast _ _ _) | with_reducible exact (S7_l M _ _ _).trans (S7_slp _ _ _))
theorem S7_set {q : Nat} {v : Int32} {M M' : n_M} (h : m_set q v M M') : S7 M M' := by
  rcases h with ⟨-, rfl⟩ | ⟨-, t, x, -, rfl⟩ | ⟨-, rfl⟩ | ⟨-, rfl⟩ | ⟨-, rfl⟩
  · exact S7_fin M _ _
  · exact (S7_l M _ _ _).trans (S7_fin _ _ _)
  · exact S7_s M (by omega)
  · exact fun p => Or.inl ⟨rfl, rfl⟩
  · unfold m_cont
    split
    · exact (S7_s M (by omega)).trans ((S7_s _ (by omega)).trans (S7_plast _ _ _))
    · exact (S7_s M (by omega)).trans (S7_s _ (by omega))
theorem S7_act {q : Nat} {M M' : n_M} (h : m_act M q M') : S7 M M' := by
  obtain ⟨i, hi, h4, ⟨-, rfl⟩ | ⟨n0, k, hk, hn0, h5, hop, hA⟩⟩ := h
  · exact S7_fin M _ _
  rcases hA with ⟨-, rfl⟩ | ⟨-, (⟨-, -, rfl⟩ | ⟨-, -, rfl⟩ | ⟨-, t, x, r, -, -, -, rfl⟩) | ⟨-, ⟨-, rfl⟩ | ⟨hgr, v, M1, hd, hs⟩⟩⟩
  · exact S7_fin M _ _
  · exact S7_susp M _ _ (by decide)
  · exact S7_susp M _ _ (by decide)
  · exact S7_susp M _ _ (by decide)
  · exact S7_fin M _ _
  · exact (S7_s M (by omega)).trans ((S7_do hd).trans (S7_set hs))
theorem S7_ws1 (M : n_M) (q : Nat) : S7 M (m_ws1 M q) := by
  unfold m_ws1
  split
  · split
    · exact S7_rdy M q
    · exact S7_s M (by omega)
  · exact fun p => Or.inl ⟨rfl, rfl⟩
theorem S7_ws (M : n_M) : ∀ n, S7 M (m_ws n M)
  | 0 => fun p => Or.inl ⟨rfl, rfl⟩
  | n + 1 => (S7_ws M n).trans (S7_ws1 _ _)
theorem S7_wake (M : n_M) : S7 M (m_wake M) := by
  unfold m_wake
  split
  · exact ((S7_s M (by omega)).trans (S7_s _ (by omega))).trans (S7_ws _ _)
  · exact S7_s M (by omega)
theorem S7_tick {M M' : n_M} {v : Int32} (h : m_tick M v M') : S7 M M' := by
  rcases h with ⟨-, -, rfl⟩ | ⟨r, q, t, -, -, -, -, -, hA⟩
  · exact S7_wake M
  · exact (S7_wake M).trans (S7_act hA)
/-- nobody due between: only the ghost moves -/
def m_due (M : n_M) (p : Nat) : Prop := M.1 0 p = 5 ∧ M.1 7 p ≤ M.1 15 0
theorem m_ws_above (M : n_M) {p : Nat} : ∀ n, n < p → (m_ws n M).1 0 p = M.1 0 p ∧ (m_ws n M).1 7 p = M.1 7 p
  | 0, _ => ⟨rfl, rfl⟩
  | n + 1, h => by
    obtain ⟨a, b⟩ := m_ws_above M (p := p) n (by omega)
    rw [← a, ← b]
    show (m_ws1 (m_ws n M) (n + 1)).1 0 p = _ ∧ (m_ws1 (m_ws n M) (n + 1)).1 7 p = _
    unfold m_ws1
    split
    · split
      · exact ⟨m_rdy_sn (by omega), m_rdy_sn (by omega)⟩
      · exact ⟨ms_n (by omega), ms_n (by omega)⟩
    · exact ⟨rfl, rfl⟩
theorem m_ws_due (M : n_M) {p : Nat} (hp : 1 ≤ p) : ∀ n, p ≤ n → ¬ m_due (m_ws n M) p
  | 0, h => by omega
  | n + 1, h => by
    rintro ⟨a, b⟩
    rw [m_ws_15] at b
    have a : (m_ws1 (m_ws n M) (n + 1)).1 0 p = 5 := a
    have b : (m_ws1 (m_ws n M) (n + 1)).1 7 p ≤ M.1 15 0 := b
    by_cases z : p = n + 1
    · unfold m_ws1 at a b
      rw [← z] at a b
      split at a
      · rename_i h5
        rw [if_pos h5] at b
        split at a
        · rw [m_rdy_0] at a
          exact absurd a (by decide)
        · rename_i hw
          rw [if_neg hw, ms_n (by omega)] at b
          rw [m_ws_15] at hw
          exact hw b
      · rename_i h5
        exact h5 a
    · have ih := m_ws_due M hp n (by omega)
      refine ih ⟨?_, ?_⟩
      · rw [← a]
        unfold m_ws1
        split
        · split
          · exact (m_rdy_sn (by omega)).symm
          · exact (ms_n (by omega)).symm
        · rfl
      · rw [m_ws_15]
        refine Int32.le_trans (Int32.le_of_eq ?_) b
        unfold m_ws1
        split
        · split
          · exact (m_rdy_sn (by omega)).symm
          · exact (ms_n (by omega)).symm
        · rfl
theorem m_ws_skip (M : n_M) {j : Nat} : ∀ k, j ≤ k → (∀ p, j < p → p ≤ k → ¬ m_due M p) → (∀ c i, c ≠ 19 → (m_ws k M).1 c i = (m_ws j M).1 c i) ∧ ∀ c i, (m_ws k M).2 c i = (m_ws j M).2 c i
  | 0, h, _ => by
    obtain rfl : j = 0 := by omega
    exact ⟨fun _ _ _ => rfl, fun _ _ => rfl⟩
  | k + 1, h, hd => by
    by_cases z : j = k + 1
    · rw [z]
      exact ⟨fun _ _ _ => rfl, fun _ _ => rfl⟩
    · obtain ⟨a, b⟩ := m_ws_skip M k (by omega) (fun p h1 h2 => hd p h1 (by omega))
      obtain ⟨u1, u2⟩ := m_ws_above M (p := k + 1) k (by omega)
      have nd : ¬ ((m_ws k M).1 0 (k + 1) = 5 ∧ (m_ws k M).1 7 (k + 1) ≤ (m_ws k M).1 15 0) := by
        rw [u1, u2, m_ws_15]
        exact hd (k + 1) (by omega) (Nat.le_refl _)
      have e : (∀ c i, c ≠ 19 → (m_ws1 (m_ws k M) (k + 1)).1 c i = (m_ws k M).1 c i) ∧ ∀ c i, (m_ws1 (m_ws k M) (k + 1)).2 c i = (m_ws k M).2 c i := by
        unfold m_ws1
        split
        · split
          · rename_i h1 h2
            exact absurd ⟨h1, h2⟩ nd
          · exact ⟨fun c i hc => ms_n (by omega), fun _ _ => rfl⟩
        · exact ⟨fun _ _ _ => rfl, fun _ _ => rfl⟩
      exact ⟨fun c i hc => (e.1 c i hc).trans (a c i hc), fun c i => (e.2 c i).trans (b c i)⟩
theorem m_ws_at (M : n_M) {k : Nat} (h : m_due M (k + 1)) : m_ws (k + 1) M = m_rdy (m_ws k M) (k + 1) := by
  obtain ⟨u1, u2⟩ := m_ws_above M (p := k + 1) k (by omega)
  show m_ws1 (m_ws k M) (k + 1) = _
  unfold m_ws1
  rw [u1, u2, m_ws_15, if_pos h.1, if_pos h.2]
theorem RQ.gh19 {τ0 τ : n_S} {M M' : n_M} (h : RQ τ0 M τ) (hS : ∀ c i, c ≠ 19 → M'.1 c i = M.1 c i) (hL : ∀ c i, M'.2 c i = M.2 c i) : RQ τ0 M' τ :=
  h.gh (fun c i _ _ z => hS c i z) hL (fun p i _ _ z => by rw [hS 4 p (by omega)] at z; exact z) (fun i _ z => by rw [hS 12 i (by omega)] at z; exact z)
theorem m_ws_19 (M : n_M) (v : Int32) : ∀ n, (∀ c i, c ≠ 19 → (m_ws n (m_s M 19 0 v)).1 c i = (m_ws n M).1 c i) ∧ ∀ c i, (m_ws n (m_s M 19 0 v)).2 c i = (m_ws n M).2 c i
  | 0 => ⟨fun c i hc => ms_n (by omega), fun _ _ => rfl⟩
  | n + 1 => by
    obtain ⟨a, b⟩ := m_ws_19 M v n
    show (∀ c i, c ≠ 19 → (m_ws1 (m_ws n (m_s M 19 0 v)) (n + 1)).1 c i = (m_ws1 (m_ws n M) (n + 1)).1 c i) ∧ ∀ c i, (m_ws1 (m_ws n (m_s M 19 0 v)) (n + 1)).2 c i = (m_ws1 (m_ws n M) (n + 1)).2 c i
    generalize m_ws n (m_s M 19 0 v) = X at a b ⊢
    generalize m_ws n M = Y at a b ⊢
    unfold m_ws1
    rw [a 0 (n + 1) (by omega), a 7 (n + 1) (by omega), a 15 0 (by omega)]
    by_cases h5 : Y.1 0 (n + 1) = 5
    · rw [if_pos h5, if_pos h5]
      by_cases hw : Y.1 7 (n + 1) ≤ Y.1 15 0
      · rw [if_pos hw, if_pos hw]
        have el : m_lv X (n + 1) = m_lv Y (n + 1) := by
          unfold m_lv
          rw [a 2 (n + 1) (by omega)]
        refine ⟨fun c i hc => ?_, fun c i => ?_⟩
        · show (m_s (m_s (m_s X 0 (n + 1) 1) 7 (n + 1) 0) 8 (n + 1) 0).1 c i = (m_s (m_s (m_s Y 0 (n + 1) 1) 7 (n + 1) 0) 8 (n + 1) 0).1 c i
          rw [m_s_s, m_s_s, m_s_s, m_s_s, m_s_s, m_s_s, a c i hc]
        · unfold m_rdy
          rw [el, b 5 (m_lv Y (n + 1)), m_l_l, m_l_l]
          show (if _ then _ else X.2 c i) = (if _ then _ else Y.2 c i)
          rw [b c i]
      · rw [if_neg hw, if_neg hw]
        exact ⟨fun c i hc => (ms_n (by omega)).trans ((a c i hc).trans (ms_n (by omega)).symm), b⟩
    · rw [if_neg h5, if_neg h5]
      exact ⟨a, b⟩
theorem m_wake_12 (M : n_M) (i : Nat) : (m_wake M).1 12 i = M.1 12 i := by
  have key : ∀ (N : n_M) (n : Nat), (m_ws n N).1 12 i = N.1 12 i := by
    intro N n
    induction n with
    | zero => rfl
    | succ n ih =>
      rw [← ih]
      show (m_ws1 (m_ws n N) (n + 1)).1 12 i = _
      unfold m_ws1
      split
      · split
        · exact m_rdy_sn (by omega)
        · exact ms_n (by omega)
      · rfl
  unfold m_wake
  split
  · rw [key, ms_n (by omega)]
    exact ms_n (by omega)
  · exact ms_n (by omega)
