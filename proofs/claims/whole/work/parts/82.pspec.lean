/-- what has been read: labels (place, size, target), instructions, their numbers, their names (place, size) -/
abbrev p_P : Type := List (Nat × Nat × Nat) × List Nat × List Int32 × List (Nat × Nat)
abbrev p_P.lab (P : p_P) : List (Nat × Nat × Nat) := P.1
abbrev p_P.op (P : p_P) : List Nat := P.2.1
abbrev p_P.nu (P : p_P) : List Int32 := P.2.2.1
abbrev p_P.na (P : p_P) : List (Nat × Nat) := P.2.2.2
theorem pP1 (a : List (Nat × Nat × Nat)) (b : List Nat) (c : List Int32) (e : List (Nat × Nat)) : p_P.lab (a, b, c, e) = a := rfl
theorem pP2 (a : List (Nat × Nat × Nat)) (b : List Nat) (c : List Int32) (e : List (Nat × Nat)) : p_P.op (a, b, c, e) = b := rfl
theorem pP3 (a : List (Nat × Nat × Nat)) (b : List Nat) (c : List Int32) (e : List (Nat × Nat)) : p_P.nu (a, b, c, e) = c := rfl
theorem pP4 (a : List (Nat × Nat × Nat)) (b : List Nat) (c : List Int32) (e : List (Nat × Nat)) : p_P.na (a, b, c, e) = e := rfl
def p_nm (B : List Int32) (s n : Nat) : Prop := 1 ≤ n ∧ n ≤ 12 ∧ p_lt (b_at B s) ∧ (∀ i, 1 ≤ i → i < n → p_lt (b_at B (s + i)) ∨ p_dg (b_at B (s + i))) ∧ ¬ ∃ k, p_opc B s n k
noncomputable def p_op (B : List Int32) (s n : Nat) : Nat := by classical exact if h : ∃ k, p_opc B s n k then h.choose else 0
theorem p_op_of {B : List Int32} {s n k : Nat} (h : p_opc B s n k) : p_op B s n = k := by
  have h1 : ∃ k, p_opc B s n k := ⟨k, h⟩
  unfold p_op
  rw [dif_pos h1]
  exact p_opc_det h1.choose_spec h
theorem p_op_no {B : List Int32} {s n : Nat} (h : ¬ ∃ k, p_opc B s n k) : p_op B s n = 0 := by
  unfold p_op
  rw [dif_neg h]
theorem p_op_lt (B : List Int32) (s n : Nat) : p_op B s n < 43 := by
  by_cases h : ∃ k, p_opc B s n k
  · obtain ⟨k, h⟩ := h
    rw [p_op_of h]
    exact h.1
  · rw [p_op_no h]
    omega
def p_from (B : List Int32) (a : Nat) : Nat := if b_at B a = 45 then a + 1 else a
def p_dec (B : List Int32) (f : Nat) : Nat → Nat
  | 0 => 0
  | n + 1 => p_dec B f n * 10 + ((b_at B (f + n)).toNatClampNeg - 48)
def p_N (B : List Int32) (a b : Nat) : Nat := p_dec B (p_from B a) (b - p_from B a)
def p_isn (B : List Int32) (a b : Nat) : Prop := p_from B a < b ∧ (∀ i, p_from B a ≤ i → i < b → p_dg (b_at B i)) ∧ ((b_at B a = 45 ∧ p_N B a b ≤ 2147483648) ∨ (b_at B a ≠ 45 ∧ p_N B a b < 2147483648))
def p_nl (B : List Int32) (a b : Nat) : Int64 := if b_at B a = 45 then -Int64.ofNat (p_N B a b) else Int64.ofNat (p_N B a b)
def p_nv (B : List Int32) (a b : Nat) : Int32 := (p_nl B a b).toInt32
def p_same (B : List Int32) (a n a' n' : Nat) : Prop := n = n' ∧ ∀ i, i < n → b_at B (a + i) = b_at B (a' + i)
noncomputable def p_lkf (B : List Int32) : List (Nat × Nat × Nat) → Nat → Nat → Option Nat
  | [], _, _ => none
  | x :: t, a, n => by classical exact if p_same B x.1 x.2.1 a n then some x.2.2 else p_lkf B t a n
abbrev p_hn (k : Nat) : Prop := k = 20 ∨ k = 21 ∨ k = 22 ∨ k = 34
def p_put (P : p_P) (k : Nat) (v : Int32) (x : Nat × Nat) : p_P := ⟨P.lab, P.op ++ [k], P.nu ++ [v], P.na ++ [x]⟩
noncomputable def p_stp (B : List Int32) (P : p_P) (a b : Nat) : (Nat × Nat) ⊕ (p_P × Nat) := by
  classical
  exact if p_isn B a b then (if P.op.length < 256 then .inr (p_put P 0 (p_nv B a b) (0, 0), b) else .inl (5, a))
  else if p_op B a (b - a) ≠ 0 then
    (if P.op.length < 256 then
      (if p_hn (p_op B a (b - a)) then
        (if p_nm B (p_skip B b) (p_wend B (p_skip B b) - p_skip B b) then .inr (p_put P (p_op B a (b - a)) 0 (p_skip B b, p_wend B (p_skip B b) - p_skip B b), p_wend B (p_skip B b))
         else .inl (2, p_skip B b))
      else .inr (p_put P (p_op B a (b - a)) 0 (0, 0), b))
    else .inl (5, a))
  else if b_at B (b - 1) = 58 ∧ p_nm B a (b - 1 - a) then
    (if p_lkf B P.lab a (b - 1 - a) ≠ none then .inl (3, a)
     else if P.lab.length < 32 then .inr (⟨P.lab ++ [(a, b - 1 - a, P.op.length)], P.op, P.nu, P.na⟩, b)
     else .inl (4, a))
  else .inl (1, a)
noncomputable def p_words (B : List Int32) : Nat → p_P → Nat → (Nat × Nat) ⊕ p_P
  | 0, P, _ => .inr P
  | n + 1, P, pos => if p_skip B pos < B.length then (match p_stp B P (p_skip B pos) (p_wend B (p_skip B pos)) with
    | .inl f => .inl f
    | .inr (P', pos') => p_words B n P' pos') else .inr P
noncomputable def p_to (B : List Int32) (P : p_P) (j : Nat) : Option Nat := p_lkf B P.lab (P.na.getD j (0, 0)).1 (P.na.getD j (0, 0)).2
def p_bad (B : List Int32) (P : p_P) (j : Nat) : Prop := p_hn (P.op.getD j 0) ∧ p_to B P j = none
noncomputable def p_nums (B : List Int32) (P : p_P) : List Int32 := (List.range P.op.length).map (fun j => if p_hn (P.op.getD j 0) then nI ((p_to B P j).getD 0) else P.nu.getD j 0)
noncomputable def p_scan (B : List Int32) (P : p_P) : Nat → Nat → Option Nat
  | 0, _ => none
  | n + 1, j => by classical exact if p_bad B P j then some j else p_scan B P n (j + 1)
noncomputable def p_res (B : List Int32) (P : p_P) : (Nat × Nat) ⊕ (List Int32 × List Int32) := match p_scan B P P.op.length 0 with
  | some j => .inl (6, (P.na.getD j (0, 0)).1)
  | none => if P.op.length = 0 then .inl (7, B.length) else .inr (P.op.map (fun k => nI (k + 1)), p_nums B P)
noncomputable def p_all (B : List Int32) : (Nat × Nat) ⊕ (List Int32 × List Int32) := match p_words B B.length ⟨[], [], [], []⟩ 0 with
  | .inl f => .inl f
  | .inr P => p_res B P
/-- a word's first byte -/
theorem p_sk_nb (B : List Int32) : ∀ (n : Nat) (c : Bool) (k : Nat), k + n = B.length → p_sk B c n k < B.length → ¬ p_bl (b_at B (p_sk B c n k))
  | 0, c, k, e, h => by
    have : p_sk B c 0 k = k := rfl
    omega
  | n + 1, c, k, e, h => by
    unfold p_sk at h ⊢
    by_cases z1 : b_at B k = 10
    · rw [if_pos z1] at h ⊢
      exact p_sk_nb B n false (k + 1) (by omega) h
    · rw [if_neg z1] at h ⊢
      by_cases z2 : b_at B k = 35
      · rw [if_pos z2] at h ⊢
        exact p_sk_nb B n true (k + 1) (by omega) h
      · rw [if_neg z2] at h ⊢
        by_cases z3 : c = false ∧ ¬ p_bl (b_at B k)
        · rw [if_pos z3]
          exact z3.2
        · rw [if_neg z3] at h ⊢
          exact p_sk_nb B n c (k + 1) (by omega) h
theorem p_skip_nb {B : List Int32} {k : Nat} (hk : k ≤ B.length) (h : p_skip B k < B.length) : ¬ p_bl (b_at B (p_skip B k)) := p_sk_nb B (B.length - k) false k (by omega) h
theorem p_wend_gt {B : List Int32} {k : Nat} (h : k < B.length) (hb : ¬ p_bl (b_at B k)) : k < p_wend B k := by
  unfold p_wend
  rw [show B.length - k = (B.length - (k + 1)) + 1 by omega]
  unfold p_we
  rw [if_neg hb]
  have := p_we_le B (B.length - (k + 1)) (k + 1)
  omega
theorem p_wend_end {B : List Int32} {k : Nat} (h : B.length ≤ k) : p_wend B k = k := by
  unfold p_wend
  rw [show B.length - k = 0 by omega]
  rfl
/-- the texts and the numbers exclude each other -/
theorem p_tx_dig : ∀ k, k < 43 → 1 ≤ k → (¬ (48 ≤ (p_tx k).getD 0 0 ∧ (p_tx k).getD 0 0 ≤ 57)) ∧ ((p_tx k).getD 0 0 = 45 → (p_tx k).length = 1) ∧ (p_tx k).getD ((p_tx k).length - 1) 0 ≠ 58 := by decide +kernel
theorem p_dg_nat {x : Nat} (h : x < 256) : p_dg (nI x) ↔ 48 ≤ x ∧ x ≤ 57 := by
  constructor
  · rintro ⟨h1, h2⟩
    exact ⟨(nI_leI (a := 48) (by omega) (by omega)).mp h1, (nI_leI (b := 57) (by omega) (by omega)).mp h2⟩
  · rintro ⟨h1, h2⟩
    exact ⟨nI_le (a := 48) h1 (by omega), nI_le (b := 57) h2 (by omega)⟩
theorem p_ex1 {B : List Int32} {a b : Nat} (h : p_isn B a b) : ¬ ∃ k, p_opc B a (b - a) k := by
  rintro ⟨k, k1, k2, k3, k4⟩
  obtain ⟨t1, t2, t3⟩ := p_tx_dig k k1 k2
  obtain ⟨q1, q2, q3, q4, q5, q6⟩ := p_tx_ok k k1 k2
  obtain ⟨i1, i2, i3⟩ := h
  have e0 := k4 0 (by omega)
  have hb := (p_tx_b k1 k2 (i := 0) (by omega)).2
  unfold p_from at i1 i2
  by_cases z : b_at B a = 45
  · rw [if_pos z] at i1
    rw [Nat.add_zero, z] at e0
    have := t2 ((nI_eq (a := 45) (by omega) (by omega)).mp e0).symm
    omega
  · rw [if_neg z] at i1 i2
    have h2 := i2 a (Nat.le_refl _) i1
    rw [Nat.add_zero] at e0
    rw [e0, p_dg_nat (by omega)] at h2
    exact t1 h2
theorem p_ex2 {B : List Int32} {a b : Nat} (hab : a < b) (h : b_at B (b - 1) = 58) : ¬ p_isn B a b ∧ ¬ ∃ k, p_opc B a (b - a) k := by
  constructor
  · rintro ⟨i1, i2, i3⟩
    have := i2 (b - 1) (by omega) (by omega)
    rw [h] at this
    exact absurd this (by decide)
  · rintro ⟨k, k1, k2, k3, k4⟩
    obtain ⟨t1, t2, t3⟩ := p_tx_dig k k1 k2
    have e0 := k4 (b - a - 1) (by omega)
    rw [show a + (b - a - 1) = b - 1 by omega, h, show b - a - 1 = (p_tx k).length - 1 by omega] at e0
    have hb := (p_tx_b k1 k2 (i := (p_tx k).length - 1) (by omega)).2
    exact t3 ((nI_eq (a := 58) (by omega) (by omega)).mp e0).symm
theorem p_same_sym {B : List Int32} {a n a' n' : Nat} (h : p_same B a n a' n') : p_same B a' n' a n := ⟨h.1.symm, fun i hi => (h.2 i (by have := h.1; omega)).symm⟩
theorem p_same_trans {B : List Int32} {a n a' n' a2 n2 : Nat} (h : p_same B a n a' n') (h' : p_same B a' n' a2 n2) : p_same B a n a2 n2 := ⟨h.1.trans h'.1, fun i hi => (h.2 i hi).trans (h'.2 i (by have := h.1; omega))⟩
theorem p_lkf_none {B : List Int32} {a n : Nat} : ∀ {L : List (Nat × Nat × Nat)}, p_lkf B L a n = none ↔ ∀ l, l < L.length → ¬ p_same B (L.getD l (0, 0, 0)).1 (L.getD l (0, 0, 0)).2.1 a n
  | [] => by simp [p_lkf]
  | x :: t => by
    unfold p_lkf
    by_cases z : p_same B x.1 x.2.1 a n
    · rw [if_pos z]
      constructor
      · intro h; cases h
      · intro h
        exact absurd z (h 0 (by simp))
    · rw [if_neg z, p_lkf_none (L := t)]
      constructor
      · intro h l hl
        cases l with
        | zero => exact z
        | succ l => exact h l (by simpa using hl)
      · intro h l hl
        exact h (l + 1) (by simpa using hl)
/-- no two labels of one text -/
def p_un (B : List Int32) (L : List (Nat × Nat × Nat)) : Prop := ∀ l l', l < l' → l' < L.length → ¬ p_same B (L.getD l (0, 0, 0)).1 (L.getD l (0, 0, 0)).2.1 (L.getD l' (0, 0, 0)).1 (L.getD l' (0, 0, 0)).2.1
theorem p_lkf_at {B : List Int32} {a n : Nat} : ∀ {L : List (Nat × Nat × Nat)} {l : Nat}, p_un B L → l < L.length → p_same B (L.getD l (0, 0, 0)).1 (L.getD l (0, 0, 0)).2.1 a n → p_lkf B L a n = some (L.getD l (0, 0, 0)).2.2
  | [], l, _, hl, _ => by simp at hl
  | x :: t, l, hu, hl, hs => by
    unfold p_lkf
    cases l with
    | zero =>
      have hs : p_same B x.1 x.2.1 a n := hs
      rw [if_pos hs]; rfl
    | succ l =>
      have hl' : l < t.length := by simpa using hl
      rw [if_neg (fun z : p_same B x.1 x.2.1 a n => hu 0 (l + 1) (by omega) hl (p_same_trans z (p_same_sym hs)))]
      exact p_lkf_at (L := t) (fun i i' hi hi' => hu (i + 1) (i' + 1) (by omega) (by simpa using hi')) hl' hs
theorem p_lkf_some {B : List Int32} {a n v : Nat} : ∀ {L : List (Nat × Nat × Nat)}, p_lkf B L a n = some v → ∃ l, l < L.length ∧ (L.getD l (0, 0, 0)).2.2 = v
  | [], h => by simp [p_lkf] at h
  | x :: t, h => by
    unfold p_lkf at h
    by_cases z : p_same B x.1 x.2.1 a n
    · rw [if_pos z] at h
      exact ⟨0, by simp, Option.some.inj h⟩
    · rw [if_neg z] at h
      obtain ⟨l, h1, h2⟩ := p_lkf_some h
      exact ⟨l + 1, by simpa using h1, h2⟩
theorem getD_sn_e {α : Type} (L : List α) (x y : α) : (L ++ [x]).getD L.length y = x := by simp
theorem getD_sn_l {α : Type} (L : List α) (x y : α) {j : Nat} (h : j < L.length) : (L ++ [x]).getD j y = L.getD j y := by
  rw [List.getD_eq_getElem?_getD, List.getD_eq_getElem?_getD, List.getElem?_append_left h]
def p_ok (B : List Int32) (P : p_P) : Prop := P.lab.length ≤ 32 ∧ P.op.length ≤ 256 ∧ P.nu.length = P.op.length ∧ P.na.length = P.op.length ∧ p_un B P.lab ∧ (∀ l, l < P.lab.length → (P.lab.getD l (0, 0, 0)).1 + (P.lab.getD l (0, 0, 0)).2.1 ≤ B.length ∧ (P.lab.getD l (0, 0, 0)).2.2 ≤ P.op.length) ∧ ∀ j, j < P.op.length → P.op.getD j 0 < 43 ∧ (P.na.getD j (0, 0)).1 + (P.na.getD j (0, 0)).2 ≤ B.length ∧ (p_hn (P.op.getD j 0) → 1 ≤ (P.na.getD j (0, 0)).2) ∧ (¬ p_hn (P.op.getD j 0) → (P.na.getD j (0, 0)).2 = 0)
theorem p_ok_0 (B : List Int32) : p_ok B ⟨[], [], [], []⟩ := by
  refine ⟨by simp [pP1, pP2, pP3, pP4], by simp [pP1, pP2, pP3, pP4], rfl, rfl, fun l l' _ h => by simp [pP1, pP2, pP3, pP4] at h, fun l h => by simp [pP1, pP2, pP3, pP4] at h, fun j h => by simp [pP1, pP2, pP3, pP4] at h⟩
theorem p_ok_put {B : List Int32} {P : p_P} (h : p_ok B P) {k : Nat} {v : Int32} {x : Nat × Nat} (hl : P.op.length < 256) (hk : k < 43) (hx : x.1 + x.2 ≤ B.length) (h1 : p_hn k → 1 ≤ x.2) (h2 : ¬ p_hn k → x.2 = 0) : p_ok B (p_put P k v x) := by
  obtain ⟨a1, a2, a3, a4, a5, a6, a7⟩ := h
  refine ⟨a1, by simp [pP1, pP2, pP3, pP4, p_put]; omega, by simp [pP1, pP2, pP3, pP4, p_put, a3], by simp [pP1, pP2, pP3, pP4, p_put, a4], a5, fun l hl' => ⟨(a6 l hl').1, by have := (a6 l hl').2; simp [pP1, pP2, pP3, pP4, p_put] at this ⊢; omega⟩, fun j hj => ?_⟩
  have hj' : j < P.op.length + 1 := by simpa [pP1, pP2, pP3, pP4, p_put] using hj
  show (P.op ++ [k]).getD j 0 < 43 ∧ ((P.na ++ [x]).getD j (0, 0)).1 + ((P.na ++ [x]).getD j (0, 0)).2 ≤ B.length ∧ (p_hn ((P.op ++ [k]).getD j 0) → 1 ≤ ((P.na ++ [x]).getD j (0, 0)).2) ∧ (¬ p_hn ((P.op ++ [k]).getD j 0) → ((P.na ++ [x]).getD j (0, 0)).2 = 0)
  by_cases z : j = P.op.length
  · rw [z, getD_sn_e, ← a4, getD_sn_e]
    exact ⟨hk, hx, h1, h2⟩
  · rw [getD_sn_l _ _ _ (show j < P.op.length by omega), getD_sn_l _ _ _ (show j < P.na.length by omega)]
    exact a7 j (by omega)
theorem p_ok_lab {B : List Int32} {P : p_P} (h : p_ok B P) {a n : Nat} (hl : P.lab.length < 32) (hx : a + n ≤ B.length) (hn : p_lkf B P.lab a n = none) : p_ok B ⟨P.lab ++ [(a, n, P.op.length)], P.op, P.nu, P.na⟩ := by
  obtain ⟨a1, a2, a3, a4, a5, a6, a7⟩ := h
  refine ⟨by simp [pP1]; omega, a2, a3, a4, fun l l' h1 h2 => ?_, fun l h1 => ?_, a7⟩
  · have h2 : l' < P.lab.length + 1 := by simpa [pP1] using h2
    show ¬ p_same B ((P.lab ++ [(a, n, P.op.length)]).getD l (0, 0, 0)).1 ((P.lab ++ [(a, n, P.op.length)]).getD l (0, 0, 0)).2.1 ((P.lab ++ [(a, n, P.op.length)]).getD l' (0, 0, 0)).1 ((P.lab ++ [(a, n, P.op.length)]).getD l' (0, 0, 0)).2.1
    rw [getD_sn_l _ _ _ (show l < P.lab.length by omega)]
    by_cases z : l' = P.lab.length
    · rw [z, getD_sn_e]
      exact p_lkf_none.mp hn l (by omega)
    · rw [getD_sn_l _ _ _ (show l' < P.lab.length by omega)]
      exact a5 l l' h1 (by omega)
  · have h1 : l < P.lab.length + 1 := by simpa [pP1] using h1
    show ((P.lab ++ [(a, n, P.op.length)]).getD l (0, 0, 0)).1 + ((P.lab ++ [(a, n, P.op.length)]).getD l (0, 0, 0)).2.1 ≤ B.length ∧ ((P.lab ++ [(a, n, P.op.length)]).getD l (0, 0, 0)).2.2 ≤ P.op.length
    by_cases z : l = P.lab.length
    · rw [z, getD_sn_e]
      exact ⟨hx, Nat.le_refl _⟩
    · rw [getD_sn_l _ _ _ (show l < P.lab.length by omega)]
      exact a6 l (by omega)
theorem p_ok_stp {B : List Int32} {P P' : p_P} {a b b' : Nat} (h : p_ok B P) (hab : a < b) (hb : b ≤ B.length) (hs : p_stp B P a b = .inr (P', b')) : p_ok B P' ∧ b ≤ b' ∧ b' ≤ B.length := by
  have s1 := p_skip_le hb
  have s2 := p_wend_le s1.2
  unfold p_stp at hs
  split at hs
  · split at hs
    · cases hs
      exact ⟨p_ok_put h (by assumption) (by omega) (by simp) (fun z => absurd z (by decide)) (fun _ => rfl), by omega, hb⟩
    · cases hs
  · split at hs
    · split at hs
      · split at hs
        · split at hs
          · rename_i hnm
            cases hs
            exact ⟨p_ok_put h (by assumption) (p_op_lt _ _ _) (by simp only; omega) (fun _ => hnm.1) (fun z => absurd (by assumption) z), by omega, by omega⟩
          · cases hs
        · cases hs
          exact ⟨p_ok_put h (by assumption) (p_op_lt _ _ _) (by simp) (fun z => absurd z (by assumption)) (fun _ => rfl), by omega, hb⟩
      · cases hs
    · split at hs
      · split at hs
        · cases hs
        · split at hs
          · rename_i hl _
            cases hs
            exact ⟨p_ok_lab h (by assumption) (by omega) (by simpa using hl), by omega, hb⟩
          · cases hs
      · cases hs
