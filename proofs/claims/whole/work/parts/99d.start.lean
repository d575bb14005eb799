/-! the first state: places, worlds, what is represented -/
def c_ad (b : Nat) (κ i : Nat) : Nat := match κ with
  | 0 => b
  | 1 => b + 1 + 0
  | 2 => b + 1 + 1 + 0
  | 3 => b + 1 + 2
  | 4 => b + 1 + 3 + 0
  | 5 => b + 1 + 3 + 1
  | 6 => b + 1 + 3 + 2
  | 7 => b + 1 + 3 + 3
  | 8 => b + 1 + 3 + 4
  | 9 => b + 1 + 8
  | 10 => b + 1 + 9 + 0
  | 11 => b + 1 + 9 + 1
  | 12 => b + 1 + 9 + 2
  | 13 => b + 1 + 9 + 4
  | 14 => b + 1 + 9 + 3
  | 15 => b + 1 + 9 + 5
  | 16 => b + 1 + 9 + 6 + 0
  | 17 => b + 1 + 9 + 6 + 1
  | 18 => b + 1 + 9 + 6 + 2
  | 19 => b + 1 + 9 + 9
  | 20 => b + 1 + 185
  | 21 => b + 1 + 9 + (10 + 12 * (i - 1))
  | 22 => b + 1 + 9 + (10 + 12 * (i - 1) + 1) + 0
  | 23 => b + 1 + 9 + (10 + 12 * (i - 1) + 1) + 1
  | 24 => b + 1 + 9 + (10 + 12 * (i / 2 - 1) + 1) + (2 + 3 * (i % 2))
  | 26 => b + 1 + 9 + (10 + 12 * (i / 2 - 1) + 1) + (3 + 3 * (i % 2)) + 0
  | 27 => b + 1 + 9 + (10 + 12 * (i / 2 - 1) + 1) + (3 + 3 * (i % 2)) + 1
  | 28 => b + 1 + 9 + (19 + 12 * i)
  | 29 => b + 1 + 9 + (19 + 12 * i + 1) + 0
  | 30 => b + 1 + 9 + (19 + 12 * i + 1) + 1
  | 31 => b + 1 + 9 + (154 + 2 * i)
  | 32 => b + 1 + 9 + (154 + 2 * i + 1) + 0
  | _ => 0
def c_s0 : n_S := fun κ _ k => if κ = 9 ∧ k = 10 then 2147483647 else if κ = 20 ∧ k = 1 then 4 else if κ = 18 ∧ k = 0 then 1024 else 0
theorem c_dom_c {κ i : Nat} (h : cw_dom κ i) : κ ∈ [0, 1, 2, 3, 4, 5, 6, 7, 8, 9, 10, 11, 12, 13, 14, 15, 16, 17, 18, 19, 20, 21, 22, 23, 24, 26, 27, 28, 29, 30, 31, 32] := by
  unfold cw_dom at h
  split at h <;> simp at h ⊢
def c_inv (o : Nat) : Nat × Nat := if o < 20 then ((if o = 13 then 14 else if o = 14 then 13 else o), 0) else if o < 164 then
    (if (o - 20) % 12 < 3 then (21 + (o - 20) % 12, (o - 20) / 12 + 1) else if (o - 20) % 12 = 3 then (24, 2 * ((o - 20) / 12 + 1)) else if (o - 20) % 12 = 6 then (24, 2 * ((o - 20) / 12 + 1) + 1) else if (o - 20) % 12 < 6 then (22 + (o - 20) % 12, 2 * ((o - 20) / 12 + 1)) else if (o - 20) % 12 < 9 then (19 + (o - 20) % 12, 2 * ((o - 20) / 12 + 1) + 1) else (19 + (o - 20) % 12, (o - 20) / 12))
  else if o < 186 then (31 + (o - 164) % 2, (o - 164) / 2) else (20, 0)
theorem c_inv_a {o : Nat} (h : o < 20) (h3 : o ≠ 13) (h4 : o ≠ 14) : c_inv o = (o, 0) := by
  unfold c_inv
  rw [if_pos h, if_neg h3, if_neg h4]
theorem c_inv_p {t r : Nat} (ht : t < 12) (hr : r < 12) : c_inv (20 + 12 * t + r) = (if r < 3 then (21 + r, t + 1) else if r = 3 then (24, 2 * (t + 1)) else if r = 6 then (24, 2 * (t + 1) + 1) else if r < 6 then (22 + r, 2 * (t + 1)) else if r < 9 then (19 + r, 2 * (t + 1) + 1) else (19 + r, t)) := by
  unfold c_inv
  rw [if_neg (by omega), if_pos (by omega), show (20 + 12 * t + r - 20) % 12 = r by omega, show (20 + 12 * t + r - 20) / 12 = t by omega]
theorem c_inv_r {t r : Nat} (ht : t < 11) (hr : r < 2) : c_inv (164 + 2 * t + r) = (31 + r, t) := by
  unfold c_inv
  rw [if_neg (by omega), if_neg (by omega), if_pos (by omega), show (164 + 2 * t + r - 164) % 2 = r by omega, show (164 + 2 * t + r - 164) / 2 = t by omega]
theorem c_inv_ad {b κ i : Nat} (h : cw_dom κ i) : b ≤ c_ad b κ i ∧ c_ad b κ i < b + 187 ∧ c_inv (c_ad b κ i - b) = (κ, i) := by
  have hc := c_dom_c h
  simp only [List.mem_cons, List.not_mem_nil, or_false] at hc
  rcases hc with rfl | rfl | rfl | rfl | rfl | rfl | rfl | rfl | rfl | rfl | rfl | rfl | rfl | rfl | rfl | rfl | rfl | rfl | rfl | rfl | rfl | rfl | rfl | rfl | rfl | rfl | rfl | rfl | rfl | rfl | rfl | rfl
  case inr.inr.inr.inr.inr.inr.inr.inr.inr.inr.inr.inr.inr.inr.inr.inr.inr.inr.inr.inr.inr.inl =>
    have h : 1 ≤ i ∧ i ≤ 12 := h
    show b ≤ b + 1 + 9 + (10 + 12 * (i - 1)) ∧ b + 1 + 9 + (10 + 12 * (i - 1)) < b + 187 ∧ c_inv (b + 1 + 9 + (10 + 12 * (i - 1)) - b) = (21, i)
    refine ⟨by omega, by omega, ?_⟩
    rw [show b + 1 + 9 + (10 + 12 * (i - 1)) - b = 20 + 12 * (i - 1) + 0 by omega, c_inv_p (by omega) (by decide), if_pos (by decide), show i - 1 + 1 = i by omega]
  case inr.inr.inr.inr.inr.inr.inr.inr.inr.inr.inr.inr.inr.inr.inr.inr.inr.inr.inr.inr.inr.inr.inl =>
    have h : 1 ≤ i ∧ i ≤ 12 := h
    show b ≤ b + 1 + 9 + (10 + 12 * (i - 1) + 1) + 0 ∧ b + 1 + 9 + (10 + 12 * (i - 1) + 1) + 0 < b + 187 ∧ c_inv (b + 1 + 9 + (10 + 12 * (i - 1) + 1) + 0 - b) = (22, i)
    refine ⟨by omega, by omega, ?_⟩
    rw [show b + 1 + 9 + (10 + 12 * (i - 1) + 1) + 0 - b = 20 + 12 * (i - 1) + 1 by omega, c_inv_p (by omega) (by decide), if_pos (by decide), show i - 1 + 1 = i by omega]
  case inr.inr.inr.inr.inr.inr.inr.inr.inr.inr.inr.inr.inr.inr.inr.inr.inr.inr.inr.inr.inr.inr.inr.inl =>
    have h : 1 ≤ i ∧ i ≤ 12 := h
    show b ≤ b + 1 + 9 + (10 + 12 * (i - 1) + 1) + 1 ∧ b + 1 + 9 + (10 + 12 * (i - 1) + 1) + 1 < b + 187 ∧ c_inv (b + 1 + 9 + (10 + 12 * (i - 1) + 1) + 1 - b) = (23, i)
    refine ⟨by omega, by omega, ?_⟩
    rw [show b + 1 + 9 + (10 + 12 * (i - 1) + 1) + 1 - b = 20 + 12 * (i - 1) + 2 by omega, c_inv_p (by omega) (by decide), if_pos (by decide), show i - 1 + 1 = i by omega]
  case inr.inr.inr.inr.inr.inr.inr.inr.inr.inr.inr.inr.inr.inr.inr.inr.inr.inr.inr.inr.inr.inr.inr.inr.inl =>
    have h : 2 ≤ i ∧ i ≤ 25 := h
    show b ≤ b + 1 + 9 + (10 + 12 * (i / 2 - 1) + 1) + (2 + 3 * (i % 2)) ∧ b + 1 + 9 + (10 + 12 * (i / 2 - 1) + 1) + (2 + 3 * (i % 2)) < b + 187 ∧ c_inv (b + 1 + 9 + (10 + 12 * (i / 2 - 1) + 1) + (2 + 3 * (i % 2)) - b) = (24, i)
    refine ⟨by omega, by omega, ?_⟩
    rcases (show i % 2 = 0 ∨ i % 2 = 1 by omega) with e | e
    · rw [show b + 1 + 9 + (10 + 12 * (i / 2 - 1) + 1) + (2 + 3 * (i % 2)) - b = 20 + 12 * (i / 2 - 1) + 3 by omega, c_inv_p (by omega) (by decide), if_neg (by decide), if_pos rfl, show 2 * (i / 2 - 1 + 1) = i by omega]
    · rw [show b + 1 + 9 + (10 + 12 * (i / 2 - 1) + 1) + (2 + 3 * (i % 2)) - b = 20 + 12 * (i / 2 - 1) + 6 by omega, c_inv_p (by omega) (by decide), if_neg (by decide), if_neg (by decide), if_pos rfl, show 2 * (i / 2 - 1 + 1) + 1 = i by omega]
  case inr.inr.inr.inr.inr.inr.inr.inr.inr.inr.inr.inr.inr.inr.inr.inr.inr.inr.inr.inr.inr.inr.inr.inr.inr.inl =>
    have h : 2 ≤ i ∧ i ≤ 25 := h
    show b ≤ b + 1 + 9 + (10 + 12 * (i / 2 - 1) + 1) + (3 + 3 * (i % 2)) + 0 ∧ b + 1 + 9 + (10 + 12 * (i / 2 - 1) + 1) + (3 + 3 * (i % 2)) + 0 < b + 187 ∧ c_inv (b + 1 + 9 + (10 + 12 * (i / 2 - 1) + 1) + (3 + 3 * (i % 2)) + 0 - b) = (26, i)
    refine ⟨by omega, by omega, ?_⟩
    rcases (show i % 2 = 0 ∨ i % 2 = 1 by omega) with e | e
    · rw [show b + 1 + 9 + (10 + 12 * (i / 2 - 1) + 1) + (3 + 3 * (i % 2)) + 0 - b = 20 + 12 * (i / 2 - 1) + 4 by omega, c_inv_p (by omega) (by decide), if_neg (by decide), if_neg (by decide), if_neg (by decide), if_pos (by decide), show 2 * (i / 2 - 1 + 1) = i by omega]
    · rw [show b + 1 + 9 + (10 + 12 * (i / 2 - 1) + 1) + (3 + 3 * (i % 2)) + 0 - b = 20 + 12 * (i / 2 - 1) + 7 by omega, c_inv_p (by omega) (by decide), if_neg (by decide), if_neg (by decide), if_neg (by decide), if_neg (by decide), if_pos (by decide), show 2 * (i / 2 - 1 + 1) + 1 = i by omega]
  case inr.inr.inr.inr.inr.inr.inr.inr.inr.inr.inr.inr.inr.inr.inr.inr.inr.inr.inr.inr.inr.inr.inr.inr.inr.inr.inl =>
    have h : 2 ≤ i ∧ i ≤ 25 := h
    show b ≤ b + 1 + 9 + (10 + 12 * (i / 2 - 1) + 1) + (3 + 3 * (i % 2)) + 1 ∧ b + 1 + 9 + (10 + 12 * (i / 2 - 1) + 1) + (3 + 3 * (i % 2)) + 1 < b + 187 ∧ c_inv (b + 1 + 9 + (10 + 12 * (i / 2 - 1) + 1) + (3 + 3 * (i % 2)) + 1 - b) = (27, i)
    refine ⟨by omega, by omega, ?_⟩
    rcases (show i % 2 = 0 ∨ i % 2 = 1 by omega) with e | e
    · rw [show b + 1 + 9 + (10 + 12 * (i / 2 - 1) + 1) + (3 + 3 * (i % 2)) + 1 - b = 20 + 12 * (i / 2 - 1) + 5 by omega, c_inv_p (by omega) (by decide), if_neg (by decide), if_neg (by decide), if_neg (by decide), if_pos (by decide), show 2 * (i / 2 - 1 + 1) = i by omega]
    · rw [show b + 1 + 9 + (10 + 12 * (i / 2 - 1) + 1) + (3 + 3 * (i % 2)) + 1 - b = 20 + 12 * (i / 2 - 1) + 8 by omega, c_inv_p (by omega) (by decide), if_neg (by decide), if_neg (by decide), if_neg (by decide), if_neg (by decide), if_pos (by decide), show 2 * (i / 2 - 1 + 1) + 1 = i by omega]
  case inr.inr.inr.inr.inr.inr.inr.inr.inr.inr.inr.inr.inr.inr.inr.inr.inr.inr.inr.inr.inr.inr.inr.inr.inr.inr.inr.inl =>
    have h : i < 12 := h
    show b ≤ b + 1 + 9 + (19 + 12 * i) ∧ b + 1 + 9 + (19 + 12 * i) < b + 187 ∧ c_inv (b + 1 + 9 + (19 + 12 * i) - b) = (28, i)
    refine ⟨by omega, by omega, ?_⟩
    rw [show b + 1 + 9 + (19 + 12 * i) - b = 20 + 12 * i + 9 by omega, c_inv_p (by omega) (by decide)]
    rfl
  case inr.inr.inr.inr.inr.inr.inr.inr.inr.inr.inr.inr.inr.inr.inr.inr.inr.inr.inr.inr.inr.inr.inr.inr.inr.inr.inr.inr.inl =>
    have h : i < 12 := h
    show b ≤ b + 1 + 9 + (19 + 12 * i + 1) + 0 ∧ b + 1 + 9 + (19 + 12 * i + 1) + 0 < b + 187 ∧ c_inv (b + 1 + 9 + (19 + 12 * i + 1) + 0 - b) = (29, i)
    refine ⟨by omega, by omega, ?_⟩
    rw [show b + 1 + 9 + (19 + 12 * i + 1) + 0 - b = 20 + 12 * i + 10 by omega, c_inv_p (by omega) (by decide)]
    rfl
  case inr.inr.inr.inr.inr.inr.inr.inr.inr.inr.inr.inr.inr.inr.inr.inr.inr.inr.inr.inr.inr.inr.inr.inr.inr.inr.inr.inr.inr.inl =>
    have h : i < 12 := h
    show b ≤ b + 1 + 9 + (19 + 12 * i + 1) + 1 ∧ b + 1 + 9 + (19 + 12 * i + 1) + 1 < b + 187 ∧ c_inv (b + 1 + 9 + (19 + 12 * i + 1) + 1 - b) = (30, i)
    refine ⟨by omega, by omega, ?_⟩
    rw [show b + 1 + 9 + (19 + 12 * i + 1) + 1 - b = 20 + 12 * i + 11 by omega, c_inv_p (by omega) (by decide)]
    rfl
  case inr.inr.inr.inr.inr.inr.inr.inr.inr.inr.inr.inr.inr.inr.inr.inr.inr.inr.inr.inr.inr.inr.inr.inr.inr.inr.inr.inr.inr.inr.inl =>
    have h : i < 11 := h
    show b ≤ b + 1 + 9 + (154 + 2 * i) ∧ b + 1 + 9 + (154 + 2 * i) < b + 187 ∧ c_inv (b + 1 + 9 + (154 + 2 * i) - b) = (31, i)
    refine ⟨by omega, by omega, ?_⟩
    rw [show b + 1 + 9 + (154 + 2 * i) - b = 164 + 2 * i + 0 by omega, c_inv_r (by omega) (by decide)]
  case inr.inr.inr.inr.inr.inr.inr.inr.inr.inr.inr.inr.inr.inr.inr.inr.inr.inr.inr.inr.inr.inr.inr.inr.inr.inr.inr.inr.inr.inr.inr =>
    have h : i < 11 := h
    show b ≤ b + 1 + 9 + (154 + 2 * i + 1) + 0 ∧ b + 1 + 9 + (154 + 2 * i + 1) + 0 < b + 187 ∧ c_inv (b + 1 + 9 + (154 + 2 * i + 1) + 0 - b) = (32, i)
    refine ⟨by omega, by omega, ?_⟩
    rw [show b + 1 + 9 + (154 + 2 * i + 1) + 0 - b = 164 + 2 * i + 1 by omega, c_inv_r (by omega) (by decide)]
  all_goals
    have h : i = 0 := h
    subst h
    simp only [c_ad]
    refine ⟨by omega, by omega, ?_⟩
    first
      | (rw [Nat.sub_self]; rfl)
      | (try rw [Nat.add_assoc b]
         try rw [Nat.add_assoc b]
         try rw [Nat.add_assoc b]
         try rw [Nat.add_assoc b]
         rw [Nat.add_sub_cancel_left]
         rfl)
theorem c_ad_inj (b : Nat) {κ i κ' i' : Nat} (h : cw_dom κ i) (h' : cw_dom κ' i') (e : c_ad b κ i = c_ad b κ' i') : κ = κ' ∧ i = i' := by
  have h1 := (c_inv_ad (b := b) h).2.2
  rw [e, (c_inv_ad (b := b) h').2.2] at h1
  exact ⟨(congrArg Prod.fst h1).symm, (congrArg Prod.snd h1).symm⟩
theorem arrV_ext {cA : ClassId} {n : Nat} {f g : Nat → Value} (h : ∀ j, j < n → f j = g j) : arrV cA n f = arrV cA n g := by
  have : (fun j : Fin n => f j.val) = fun j : Fin n => g j.val := funext fun j => h j.1 j.2
  show ({ cls := cA, slots := Array.ofFn (n := n) fun j => f j.val, vm := .none } : Cell) = _
  rw [this]
  rfl
theorem va_at_q {D : va_G} {cl : List vw_C} {q n : Nat} {cA : ClassId} {f g : Nat → Option Nat} {H : Heap} (h : ∀ j, j < n → f j = g j) (hz : va_at D cl (q, .inl (cA, n, .inr (.inr (.inr (.inr f))))) H) : va_at D cl (q, .inl (cA, n, .inr (.inr (.inr (.inr g))))) H := by
  have hz : H[q]? = some (vp_cell cA (n, .inr (.inr (.inr (.inr f))))) := hz
  show H[q]? = some (vp_cell cA (n, .inr (.inr (.inr (.inr g)))))
  rw [hz, vp_cell_q, vp_cell_q, arrV_ext (fun j hj => by rw [h j hj])]
theorem c_s0_18 : c_s0 18 0 = upd (fun _ => 0) 0 1024 := by
  funext k
  show (if 18 = 9 ∧ k = 10 then (2147483647 : Int32) else if 18 = 20 ∧ k = 1 then 4 else if 18 = 18 ∧ k = 0 then 1024 else 0) = if k = 0 then 1024 else 0
  rw [if_neg (by omega), if_neg (by omega)]
  by_cases h : k = 0
  · rw [if_pos ⟨rfl, h⟩, if_pos h]
  · rw [if_neg (fun q => h q.2), if_neg h]
theorem c_at0 (D : va_G) (ca : Nat → ClassId) (ae : Nat → Nat) (b : Nat) {κ i : Nat} (h : cw_dom κ i) (hk : κ ≠ 0) : ∃ j, j < 186 ∧ c_ad b κ i = b + 1 + j ∧ ∀ H, va_at D n_cls (c_ad b κ i, aA_C ca (b + 1) j) H → va_at D n_cls (c_ad b κ i, cw_eL ca (c_ad b) ae κ i (c_s0 κ i)) H := by
  have hc := c_dom_c h
  simp only [List.mem_cons, List.not_mem_nil, or_false] at hc
  rcases hc with rfl | rfl | rfl | rfl | rfl | rfl | rfl | rfl | rfl | rfl | rfl | rfl | rfl | rfl | rfl | rfl | rfl | rfl | rfl | rfl | rfl | rfl | rfl | rfl | rfl | rfl | rfl | rfl | rfl | rfl | rfl | rfl
  · exact absurd rfl hk
  · have h : i = 0 := h
    subst h
    exact ⟨0, by decide, rfl, fun H hz => hz⟩
  · have h : i = 0 := h
    subst h
    exact ⟨1, by decide, rfl, fun H hz => hz⟩
  · have h : i = 0 := h
    subst h
    exact ⟨2, by decide, rfl, fun H hz => hz⟩
  · have h : i = 0 := h
    subst h
    exact ⟨3, by decide, rfl, fun H hz => hz⟩
  · have h : i = 0 := h
    subst h
    exact ⟨4, by decide, rfl, fun H hz => hz⟩
  · have h : i = 0 := h
    subst h
    exact ⟨5, by decide, rfl, fun H hz => hz⟩
  · have h : i = 0 := h
    subst h
    exact ⟨6, by decide, rfl, fun H hz => hz⟩
  · have h : i = 0 := h
    subst h
    exact ⟨7, by decide, rfl, fun H hz => hz⟩
  · have h : i = 0 := h
    subst h
    exact ⟨8, by decide, rfl, fun H hz => hz⟩
  · have h : i = 0 := h
    subst h
    exact ⟨9, by decide, rfl, fun H hz => va_at_q (f := aF_p (b + 1 + 9) 12) (fun j hj => by
      show (if 1 ≤ j ∧ j ≤ 12 then some (b + 1 + 9 + (10 + 12 * (j - 1))) else none) = if j = 0 then none else some (b + 1 + 9 + (10 + 12 * (j - 1)))
      by_cases h : j = 0
      · rw [if_neg (by omega), if_pos h]
      · rw [if_pos (by omega), if_neg h]) hz⟩
  · have h : i = 0 := h
    subst h
    exact ⟨10, by decide, rfl, fun H hz => va_at_q (f := aF_g (b + 1 + 9) 12) (fun j hj => if_pos hj) hz⟩
  · have h : i = 0 := h
    subst h
    exact ⟨11, by decide, rfl, fun H hz => va_at_q (f := aF_r (b + 1 + 9) 3) (fun j hj => if_pos hj) hz⟩
  · have h : i = 0 := h
    subst h
    exact ⟨13, by decide, rfl, fun H hz => va_at_q (f := aF_q (b + 1 + 9) 8) (fun j hj => by
      show (if j < 8 then some (b + 1 + 9 + (160 + 2 * j)) else none) = some (b + 1 + 9 + (154 + 2 * (j + 3)))
      rw [if_pos hj, show 160 + 2 * j = 154 + 2 * (j + 3) by omega]) hz⟩
  · have h : i = 0 := h
    subst h
    exact ⟨12, by decide, rfl, fun H hz => hz⟩
  · have h : i = 0 := h
    subst h
    exact ⟨14, by decide, rfl, fun H hz => hz⟩
  · have h : i = 0 := h
    subst h
    exact ⟨15, by decide, rfl, fun H hz => hz⟩
  · have h : i = 0 := h
    subst h
    exact ⟨16, by decide, rfl, fun H hz => hz⟩
  · have h : i = 0 := h
    subst h
    exact ⟨17, by decide, rfl, fun H hz => by rw [c_s0_18]; exact hz⟩
  · have h : i = 0 := h
    subst h
    exact ⟨18, by decide, rfl, fun H hz => hz⟩
  · have h : i = 0 := h
    subst h
    exact ⟨185, by decide, rfl, fun H hz => hz⟩
  · have h : 1 ≤ i ∧ i ≤ 12 := h
    refine ⟨9 + (10 + 12 * (i - 1)), by omega, by simp only [c_ad]; omega, fun H hz => ?_⟩
    rw [show 9 + (10 + 12 * (i - 1)) = 8 + 1 + (10 + 12 * (i - 1)) by omega, aC_d ca (b + 1) _ (by omega), aD_p0 (by omega), show i - 1 + 1 = i by omega] at hz
    rw [show cw_eL ca (c_ad b) ae 21 i (c_s0 21 i) = aO_X9 (nI i) (b + 1 + 9 + (10 + 12 * (i - 1) + 1)) from ?_]
    · exact hz
    · simp only [cw_eL, c_ad, show 2 * i / 2 = i by omega, show 2 * i % 2 = 0 by omega, show (2 * i + 1) / 2 = i by omega, show (2 * i + 1) % 2 = 1 by omega]
      rfl
  · have h : 1 ≤ i ∧ i ≤ 12 := h
    refine ⟨9 + (10 + 12 * (i - 1) + 1 + 0), by omega, by simp only [c_ad]; omega, fun H hz => ?_⟩
    rw [show 9 + (10 + 12 * (i - 1) + 1 + 0) = 8 + 1 + (10 + 12 * (i - 1) + 1 + 0) by omega, aC_d ca (b + 1) _ (by omega), aD_p1 (by omega) 0 (by decide)] at hz
    exact hz
  · have h : 1 ≤ i ∧ i ≤ 12 := h
    refine ⟨9 + (10 + 12 * (i - 1) + 1 + 1), by omega, by simp only [c_ad]; omega, fun H hz => ?_⟩
    rw [show 9 + (10 + 12 * (i - 1) + 1 + 1) = 8 + 1 + (10 + 12 * (i - 1) + 1 + 1) by omega, aC_d ca (b + 1) _ (by omega), aD_p1 (by omega) 1 (by decide)] at hz
    exact hz
  · have h : 2 ≤ i ∧ i ≤ 25 := h
    rcases (show i % 2 = 0 ∨ i % 2 = 1 by omega) with e | e
    · refine ⟨9 + (10 + 12 * (i / 2 - 1) + 1 + 2), by omega, by simp only [c_ad]; omega, fun H hz => ?_⟩
      rw [show 9 + (10 + 12 * (i / 2 - 1) + 1 + 2) = 8 + 1 + (10 + 12 * (i / 2 - 1) + 1 + 2) by omega, aC_d ca (b + 1) _ (by omega), aD_p1 (by omega) 2 (by decide)] at hz
      rw [show cw_eL ca (c_ad b) ae 24 i (c_s0 24 i) = aO_X1 (b + 1 + 9 + (10 + 12 * (i / 2 - 1) + 1) + (3 + 3 * 0)) from by simp only [cw_eL, c_ad, e]; rfl]
      exact hz
    · refine ⟨9 + (10 + 12 * (i / 2 - 1) + 1 + 5), by omega, by simp only [c_ad]; omega, fun H hz => ?_⟩
      rw [show 9 + (10 + 12 * (i / 2 - 1) + 1 + 5) = 8 + 1 + (10 + 12 * (i / 2 - 1) + 1 + 5) by omega, aC_d ca (b + 1) _ (by omega), aD_p1 (by omega) 5 (by decide)] at hz
      rw [show cw_eL ca (c_ad b) ae 24 i (c_s0 24 i) = aO_X1 (b + 1 + 9 + (10 + 12 * (i / 2 - 1) + 1) + (3 + 3 * 1)) from by simp only [cw_eL, c_ad, e]; rfl]
      exact hz
  · have h : 2 ≤ i ∧ i ≤ 25 := h
    rcases (show i % 2 = 0 ∨ i % 2 = 1 by omega) with e | e
    · refine ⟨9 + (10 + 12 * (i / 2 - 1) + 1 + 3), by omega, by simp only [c_ad]; omega, fun H hz => ?_⟩
      rw [show 9 + (10 + 12 * (i / 2 - 1) + 1 + 3) = 8 + 1 + (10 + 12 * (i / 2 - 1) + 1 + 3) by omega, aC_d ca (b + 1) _ (by omega), aD_p1 (by omega) 3 (by decide)] at hz
      exact hz
    · refine ⟨9 + (10 + 12 * (i / 2 - 1) + 1 + 6), by omega, by simp only [c_ad]; omega, fun H hz => ?_⟩
      rw [show 9 + (10 + 12 * (i / 2 - 1) + 1 + 6) = 8 + 1 + (10 + 12 * (i / 2 - 1) + 1 + 6) by omega, aC_d ca (b + 1) _ (by omega), aD_p1 (by omega) 6 (by decide)] at hz
      exact hz
  · have h : 2 ≤ i ∧ i ≤ 25 := h
    rcases (show i % 2 = 0 ∨ i % 2 = 1 by omega) with e | e
    · refine ⟨9 + (10 + 12 * (i / 2 - 1) + 1 + 4), by omega, by simp only [c_ad]; omega, fun H hz => ?_⟩
      rw [show 9 + (10 + 12 * (i / 2 - 1) + 1 + 4) = 8 + 1 + (10 + 12 * (i / 2 - 1) + 1 + 4) by omega, aC_d ca (b + 1) _ (by omega), aD_p1 (by omega) 4 (by decide)] at hz
      exact hz
    · refine ⟨9 + (10 + 12 * (i / 2 - 1) + 1 + 7), by omega, by simp only [c_ad]; omega, fun H hz => ?_⟩
      rw [show 9 + (10 + 12 * (i / 2 - 1) + 1 + 7) = 8 + 1 + (10 + 12 * (i / 2 - 1) + 1 + 7) by omega, aC_d ca (b + 1) _ (by omega), aD_p1 (by omega) 7 (by decide)] at hz
      exact hz
  · have h : i < 12 := h
    refine ⟨9 + (19 + 12 * i), by omega, by simp only [c_ad]; omega, fun H hz => ?_⟩
    rw [show 9 + (19 + 12 * i) = 8 + 1 + (19 + 12 * i) by omega, aC_d ca (b + 1) _ (by omega), aD_g0 (by omega)] at hz
    exact hz
  · have h : i < 12 := h
    refine ⟨9 + (19 + 12 * i + 1 + 0), by omega, by simp only [c_ad]; omega, fun H hz => ?_⟩
    rw [show 9 + (19 + 12 * i + 1 + 0) = 8 + 1 + (19 + 12 * i + 1 + 0) by omega, aC_d ca (b + 1) _ (by omega), aD_g1 (by omega) 0 (by decide)] at hz
    exact hz
  · have h : i < 12 := h
    refine ⟨9 + (19 + 12 * i + 1 + 1), by omega, by simp only [c_ad]; omega, fun H hz => ?_⟩
    rw [show 9 + (19 + 12 * i + 1 + 1) = 8 + 1 + (19 + 12 * i + 1 + 1) by omega, aC_d ca (b + 1) _ (by omega), aD_g1 (by omega) 1 (by decide)] at hz
    exact hz
  · have h : i < 11 := h
    refine ⟨9 + (154 + 2 * i), by omega, by simp only [c_ad]; omega, fun H hz => ?_⟩
    rw [show 9 + (154 + 2 * i) = 8 + 1 + (154 + 2 * i) by omega, aC_d ca (b + 1) _ (by omega), aD_r0] at hz
    exact hz
  · have h : i < 11 := h
    refine ⟨9 + (154 + 2 * i + 1 + 0), by omega, by simp only [c_ad]; omega, fun H hz => ?_⟩
    rw [show 9 + (154 + 2 * i + 1 + 0) = 8 + 1 + (154 + 2 * i + 1 + 0) by omega, aC_d ca (b + 1) _ (by omega), aD_r1 0 (by decide)] at hz
    exact hz
