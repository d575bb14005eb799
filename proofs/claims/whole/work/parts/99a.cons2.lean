/-! the desk's constructor -/
abbrev aRf (f : Nat → Option Nat) : (Nat → Int32) ⊕ (Nat → Int64) ⊕ (Nat → UInt32) ⊕ (Nat → UInt64) ⊕ (Nat → Option Nat) := .inr (.inr (.inr (.inr f)))
def aF_p (z np : Nat) : Nat → Option Nat := fun j => if 1 ≤ j ∧ j ≤ np then some (z + (10 + 12 * (j - 1))) else none
def aF_g (z ng : Nat) : Nat → Option Nat := fun j => if j < ng then some (z + (19 + 12 * j)) else none
def aF_r (z nr : Nat) : Nat → Option Nat := fun j => if j < nr then some (z + (154 + 2 * j)) else none
def aF_q (z nq : Nat) : Nat → Option Nat := fun j => if j < nq then some (z + (160 + 2 * j)) else none
def aA_P (ca : Nat → ClassId) (z t r : Nat) : va_E := if r = 0 then aO_X9 (nI (t + 1)) (z + (10 + 12 * t + 1)) else if r < 9 then aA_X9 ca (z + (10 + 12 * t + 1)) (r - 1) else if r = 9 then aO_X5 (z + (19 + 12 * t + 1)) else aA_X5 ca (z + (19 + 12 * t + 1)) (r - 10)
def aA_E (ca : Nat → ClassId) (z q : Nat) : va_E := if q < 10 then (if q = 3 then .inl (ca 0, 8, .inl fun _ => 0) else if q = 5 then aO_X3 (z + 6) else if q = 9 then .inl (ca 0, 2000, .inl fun _ => 0) else aB_X3 ca (z + 6) (q - 6))
  else if q < 154 then aA_P ca z ((q - 10) / 12) ((q - 10) % 12) else if (q - 154) % 2 = 0 then aO_X7 (z + (154 + 2 * ((q - 154) / 2) + 1)) else aA_X7 ca (z + (154 + 2 * ((q - 154) / 2) + 1)) 0
def aA_D (ca : Nat → ClassId) (z np ng nr nq q : Nat) : va_E := if q = 0 then .inl (ca 4, 13, aRf (aF_p z np)) else if q = 1 then .inl (ca 5, 12, aRf (aF_g z ng)) else if q = 2 then .inl (ca 6, 3, aRf (aF_r z nr)) else if q = 4 then .inl (ca 6, 8, aRf (aF_q z nq)) else aA_E ca z q
abbrev aO_D (z : Nat) : va_E := .inr (1, [.ref (z + 0), .ref (z + 1), .ref (z + 2), .ref (z + 3), .ref (z + 4), .ref (z + 5), .ref (z + 9), .int 0, .int 0, .int 0, .int 2147483647])
section AD
variable {ca : Nat → ClassId} {z np ng nr nq : Nat}
theorem aD_0 : aA_D ca z 0 0 0 0 0 = .inl (ca 4, 13, .inr (.inr (.inr (.inr fun _ => none)))) := by
  have : aF_p z 0 = fun _ => none := by
    funext j
    unfold aF_p
    rw [if_neg (by omega)]
  show (Sum.inl (ca 4, 13, aRf (aF_p z 0)) : va_E) = _
  rw [this]
theorem aD_1 : aA_D ca z 0 0 0 0 1 = .inl (ca 5, 12, .inr (.inr (.inr (.inr fun _ => none)))) := rfl
theorem aD_2 : aA_D ca z 0 0 0 0 2 = .inl (ca 6, 3, .inr (.inr (.inr (.inr fun _ => none)))) := rfl
theorem aD_4 : aA_D ca z 0 0 0 0 4 = .inl (ca 6, 8, .inr (.inr (.inr (.inr fun _ => none)))) := rfl
theorem aD_e {q : Nat} (h : 10 ≤ q) : aA_D ca z np ng nr nq q = aA_E ca z q := by
  unfold aA_D
  rw [if_neg (by omega), if_neg (by omega), if_neg (by omega), if_neg (by omega)]
theorem aD_p {t r : Nat} (ht : t < 12) (hr : r < 12) : aA_D ca z np ng nr nq (10 + 12 * t + r) = aA_P ca z t r := by
  rw [aD_e (by omega)]
  unfold aA_E
  rw [if_neg (by omega), if_pos (by omega), show (10 + 12 * t + r - 10) / 12 = t by omega, show (10 + 12 * t + r - 10) % 12 = r by omega]
theorem aD_p0 {t : Nat} (ht : t < 12) : aA_D ca z np ng nr nq (10 + 12 * t) = aO_X9 (nI (t + 1)) (z + (10 + 12 * t + 1)) := aD_p (r := 0) ht (by decide)
theorem aD_p1 {t : Nat} (ht : t < 12) : ∀ j, j < 8 → aA_D ca z np ng nr nq (10 + 12 * t + 1 + j) = aA_X9 ca (z + (10 + 12 * t + 1)) j := fun j hj => by
  rw [show 10 + 12 * t + 1 + j = 10 + 12 * t + (1 + j) by omega, aD_p ht (by omega)]
  unfold aA_P
  rw [if_neg (by omega), if_pos (by omega), show 1 + j - 1 = j by omega]
theorem aD_g0 {t : Nat} (ht : t < 12) : aA_D ca z np ng nr nq (19 + 12 * t) = aO_X5 (z + (19 + 12 * t + 1)) := by
  rw [show 19 + 12 * t = 10 + 12 * t + 9 by omega, aD_p ht (by decide), show 10 + 12 * t + 9 = 19 + 12 * t by omega]
  rfl
theorem aD_g1 {t : Nat} (ht : t < 12) : ∀ j, j < 2 → aA_D ca z np ng nr nq (19 + 12 * t + 1 + j) = aA_X5 ca (z + (19 + 12 * t + 1)) j := fun j hj => by
  rw [show 19 + 12 * t + 1 + j = 10 + 12 * t + (10 + j) by omega, aD_p ht (by omega)]
  unfold aA_P
  rw [if_neg (by omega), if_neg (by omega), if_neg (by omega), show 10 + j - 10 = j by omega]
theorem aD_r0 {t : Nat} : aA_D ca z np ng nr nq (154 + 2 * t) = aO_X7 (z + (154 + 2 * t + 1)) := by
  rw [aD_e (by omega)]
  unfold aA_E
  rw [if_neg (by omega), if_neg (by omega), if_pos (by omega), show (154 + 2 * t - 154) / 2 = t by omega]
theorem aD_r1 {t : Nat} : ∀ j, j < 1 → aA_D ca z np ng nr nq (154 + 2 * t + 1 + j) = aA_X7 ca (z + (154 + 2 * t + 1)) j := fun j hj => by
  have hj0 : j = 0 := by omega
  subst hj0
  rw [aD_e (by omega)]
  unfold aA_E
  rw [if_neg (by omega), if_neg (by omega), if_neg (by omega), show (154 + 2 * t + 1 + 0 - 154) / 2 = t by omega]
theorem aD_q0 {t : Nat} : aA_D ca z np ng nr nq (160 + 2 * t) = aO_X7 (z + (160 + 2 * t + 1)) := by
  have h := aD_r0 (ca := ca) (z := z) (np := np) (ng := ng) (nr := nr) (nq := nq) (t := t + 3)
  rw [show 154 + 2 * (t + 3) = 160 + 2 * t by omega] at h
  exact h
theorem aD_q1 {t : Nat} : ∀ j, j < 1 → aA_D ca z np ng nr nq (160 + 2 * t + 1 + j) = aA_X7 ca (z + (160 + 2 * t + 1)) j := by
  have h := aD_r1 (ca := ca) (z := z) (np := np) (ng := ng) (nr := nr) (nq := nq) (t := t + 3)
  rw [show 154 + 2 * (t + 3) = 160 + 2 * t by omega] at h
  exact h
theorem aD_cp {i : Nat} (hi : i < 12) : ∀ (J9 q : Nat), q < J9 → (if q = 0 then (.inl (ca 4, 13, aRf (va_up (aF_p z i) (nI (i + 1)).toNatClampNeg (some (z + (10 + 12 * i))))) : va_E) else aA_D ca z i ng nr nq q) = aA_D ca z (i + 1) ng nr nq q := by
  intro J9 q _
  by_cases h : q = 0
  · subst h
    rw [if_pos rfl]
    have e : va_up (aF_p z i) (nI (i + 1)).toNatClampNeg (some (z + (10 + 12 * i))) = aF_p z (i + 1) := by
      rw [nI_clamp (by omega)]
      funext j
      unfold va_up aF_p
      by_cases h : j = i + 1
      · rw [if_pos h, if_pos (by omega), show j - 1 = i by omega]
      · rw [if_neg h]
        by_cases h2 : 1 ≤ j ∧ j ≤ i
        · rw [if_pos h2, if_pos (by omega)]
        · rw [if_neg h2, if_neg (by omega)]
    rw [e]
    rfl
  · rw [if_neg h]
    unfold aA_D
    rw [if_neg h, if_neg h]
theorem aD_cg {i : Nat} (hi : i < 12) : ∀ (J9 q : Nat), q < J9 → (if q = 1 then (.inl (ca 5, 12, aRf (va_up (aF_g z i) (nI i).toNatClampNeg (some (z + (19 + 12 * i))))) : va_E) else aA_D ca z np i nr nq q) = aA_D ca z np (i + 1) nr nq q := by
  intro J9 q _
  by_cases h : q = 1
  · subst h
    rw [if_pos rfl]
    have e : va_up (aF_g z i) (nI i).toNatClampNeg (some (z + (19 + 12 * i))) = aF_g z (i + 1) := by
      rw [nI_clamp (by omega)]
      funext j
      unfold va_up aF_g
      by_cases h : j = i
      · rw [if_pos h, if_pos (by omega), h]
      · rw [if_neg h]
        by_cases h2 : j < i
        · rw [if_pos h2, if_pos (by omega)]
        · rw [if_neg h2, if_neg (by omega)]
    rw [e]
    rfl
  · rw [if_neg h]
    unfold aA_D
    rw [if_neg h, if_neg h]
theorem aD_cr {i : Nat} (hi : i < 12) : ∀ (J9 q : Nat), q < J9 → (if q = 2 then (.inl (ca 6, 3, aRf (va_up (aF_r z i) (nI i).toNatClampNeg (some (z + (154 + 2 * i))))) : va_E) else aA_D ca z np ng i nq q) = aA_D ca z np ng (i + 1) nq q := by
  intro J9 q _
  by_cases h : q = 2
  · subst h
    rw [if_pos rfl]
    have e : va_up (aF_r z i) (nI i).toNatClampNeg (some (z + (154 + 2 * i))) = aF_r z (i + 1) := by
      rw [nI_clamp (by omega)]
      funext j
      unfold va_up aF_r
      by_cases h : j = i
      · rw [if_pos h, if_pos (by omega), h]
      · rw [if_neg h]
        by_cases h2 : j < i
        · rw [if_pos h2, if_pos (by omega)]
        · rw [if_neg h2, if_neg (by omega)]
    rw [e]
    rfl
  · rw [if_neg h]
    unfold aA_D
    rw [if_neg h, if_neg h]
theorem aD_cq {i : Nat} (hi : i < 12) : ∀ (J9 q : Nat), q < J9 → (if q = 4 then (.inl (ca 6, 8, aRf (va_up (aF_q z i) (nI i).toNatClampNeg (some (z + (160 + 2 * i))))) : va_E) else aA_D ca z np ng nr i q) = aA_D ca z np ng nr (i + 1) q := by
  intro J9 q _
  by_cases h : q = 4
  · subst h
    rw [if_pos rfl]
    have e : va_up (aF_q z i) (nI i).toNatClampNeg (some (z + (160 + 2 * i))) = aF_q z (i + 1) := by
      rw [nI_clamp (by omega)]
      funext j
      unfold va_up aF_q
      by_cases h : j = i
      · rw [if_pos h, if_pos (by omega), h]
      · rw [if_neg h]
        by_cases h2 : j < i
        · rw [if_pos h2, if_pos (by omega)]
        · rw [if_neg h2, if_neg (by omega)]
    rw [e]
    rfl
  · rw [if_neg h]
    unfold aA_D
    rw [if_neg h, if_neg h]
end AD
set_option maxRecDepth 100000 in
theorem a_X2_init (l : Launch) (D : va_G) (ca : Nat → ClassId) {z0 h0 z : Nat} {σ : a_S} (hb : σ h0 = some (.inr (1, [.null, .null, .null, .null, .null, .null, .null, .int 0, .int 0, .int 0, .int 0]))) (hh : h0 < z ∧ z0 ≤ h0) : a_Ct l D ca z0 3 176 12833 yX2_init cX2_init 2 [.ref h0] σ z (z + 176) (fun σ' => a_I (aA_D ca z 12 12 3 8) h0 z 176 σ σ' (aO_D z)) := by
  refine a_ofW rfl rfl (Nat.le_of_ble_eq_true rfl) (fun p e s m below meth c hC hin hN => ?_)
  have L3 : ∀ t i, i + t = 8 → ∀ σ1, a_I (aA_D ca z 12 12 3 i) h0 z (160 + 2 * i) σ σ1 (aO_D z) → a_W p l e s m ([.ref h0] : List Value).toArray below meth c D z0 3 176 12833 (fun σ' => a_I (aA_D ca z 12 12 3 8) h0 z 176 σ σ' (aO_D z)) (z + 176) 146 [some (.ref h0), some (.int (nI i))] [] (σ1, z + (160 + 2 * i), 160 + 2 * i, 12721 + 14 * i) := by
    intro t
    induction t with
    | zero =>
      intro i hi σ1 hI
      have hi : i = 8 := by omega
      subst hi
      refine jg_iload_n hC dX2_init_146 rfl rfl ?_
      refine jg_bipush (v := 8) hC dX2_init_147 (by decide) ?_
      refine jg_icmp_ge (tgt := 171) hC dX2_init_149 (by decide) (fun h => ?_) (fun h => absurd (by decide) h)
      exact al_ret hC dX2_init_171 hI
    | succ t ih =>
      intro i hi σ1 hI
      have e1 : nI i + 1 = nI (i + 1) := nI_1 i
      refine jg_iload_n hC dX2_init_146 rfl rfl ?_
      refine jg_bipush (v := 8) hC dX2_init_147 (by decide) ?_
      refine jg_icmp_ge (tgt := 171) hC dX2_init_149 (by decide) (fun h => ?_) (fun h => ?_)
      · exact absurd h (nI_ge (a := i) (b := 8) (by omega) (by decide))
      refine jg_aload_n hC dX2_init_152 rfl rfl ?_
      refine al_get (j := 4) hC hI.1 rfl (by decide) wfX2_33 rfl dX2_init_153 ?_
      refine jg_iload_n hC dX2_init_156 rfl rfl ?_
      refine al_new (ci := 5) (fs := [.null, .int 0]) hC rfl wk_X2_23 wn_X7 wzX7 tyX7 ttX7 (a_defX7) (by show _ ≤ _; first | exact Nat.le_of_ble_eq_true rfl | (simp only [a_rm]; omega)) (by show _ ≤ _; first | exact Nat.le_of_ble_eq_true rfl | (simp only [a_rm]; omega)) dX2_init_157 ?_
      refine jg_dup hC dX2_init_160 rfl ?_
      refine al_SCN (i := 160 + 2 * i) (np := 0) (As := []) (A2 := aA_X7 ca (z + (160 + 2 * i + 1))) (o2 := aO_X7 (z + (160 + 2 * i + 1))) hC hN hh hI (a_X7_init l D ca (a_up_at _ _ _) ⟨by omega, by omega⟩) (aD_q0) (aD_q1) ⟨by show _ ≤ _; first | exact Nat.le_of_ble_eq_true rfl | (simp only [a_rm]; omega), by show _ ≤ _; first | exact Nat.le_of_ble_eq_true rfl | (simp only [a_rm]; omega)⟩ (by decide) (by decide +kernel) ⟨wi_yX7_init, wzX7, wc_yX7_init⟩ rfl (by decide +kernel) rfl (Nat.le_of_ble_eq_true rfl) (by show _ ≤ _; first | exact Nat.le_of_ble_eq_true rfl | (simp only [a_rm]; omega)) (by show _ ≤ _; first | exact Nat.le_of_ble_eq_true rfl | (simp only [a_rm]; omega)) dX2_init_161 (fun σ hI => ?_)
      refine al_AA (J := 4) (v := z + (160 + 2 * i)) (ci := 5) (t0 := 6) (N := 8) (f := aF_q z i) hC hh hI (by omega) rfl ((hI.2.1 (160 + 2 * i) (by omega)).trans (congrArg some aD_q0)) rfl rfl (vp_in_nI (by omega) (by decide)) dX2_init_164 (fun σ hI => ?_)
      have hI := hI.cong (aD_cq (by omega) _)
      refine jg_iinc hC dX2_init_165 rfl (show _ + Int32.ofInt 1 = _ + 1 from rfl) ?_
      rw [e1]
      refine jg_goto (tgt := 146) hC dX2_init_168 (by decide) ?_
      have h3 := ih (i + 1) (by omega) _ (hI.cong (fun _ _ => rfl) |> fun h => (show 160 + 2 * i + 1 + 1 = 160 + 2 * (i + 1) by omega) ▸ h)
      rw [show 160 + 2 * (i + 1) = 160 + 2 * i + 1 + 1 by omega, show 12721 + 14 * (i + 1) = 12721 + 14 * i + 2 + 12 by omega] at h3
      exact h3
  have L2 : ∀ t i, i + t = 3 → ∀ σ1, a_I (aA_D ca z 12 12 i 0) h0 z (154 + 2 * i) σ σ1 (aO_D z) → a_W p l e s m ([.ref h0] : List Value).toArray below meth c D z0 3 176 12833 (fun σ' => a_I (aA_D ca z 12 12 3 8) h0 z 176 σ σ' (aO_D z)) (z + 176) 120 [some (.ref h0), some (.int (nI i))] [] (σ1, z + (154 + 2 * i), 154 + 2 * i, 12679 + 14 * i) := by
    intro t
    induction t with
    | zero =>
      intro i hi σ1 hI
      have hi : i = 3 := by omega
      subst hi
      refine jg_iload_n hC dX2_init_120 rfl rfl ?_
      refine jg_iconst (v := 3) hC dX2_init_121 (by decide) ?_
      refine jg_icmp_ge (tgt := 144) hC dX2_init_122 (by decide) (fun h => ?_) (fun h => absurd (by decide) h)
      refine jg_iconst (v := 0) hC dX2_init_144 (by decide) ?_
      refine jg_istore_n hC dX2_init_145 rfl (Nat.le_of_ble_eq_true rfl) ?_
      exact L3 8 0 (by omega) σ1 hI
    | succ t ih =>
      intro i hi σ1 hI
      have e1 : nI i + 1 = nI (i + 1) := nI_1 i
      refine jg_iload_n hC dX2_init_120 rfl rfl ?_
      refine jg_iconst (v := 3) hC dX2_init_121 (by decide) ?_
      refine jg_icmp_ge (tgt := 144) hC dX2_init_122 (by decide) (fun h => ?_) (fun h => ?_)
      · exact absurd h (nI_ge (a := i) (b := 3) (by omega) (by decide))
      refine jg_aload_n hC dX2_init_125 rfl rfl ?_
      refine al_get (j := 2) hC hI.1 rfl (by decide) wfX2_25 rfl dX2_init_126 ?_
      refine jg_iload_n hC dX2_init_129 rfl rfl ?_
      refine al_new (ci := 5) (fs := [.null, .int 0]) hC rfl wk_X2_23 wn_X7 wzX7 tyX7 ttX7 (a_defX7) (by show _ ≤ _; first | exact Nat.le_of_ble_eq_true rfl | (simp only [a_rm]; omega)) (by show _ ≤ _; first | exact Nat.le_of_ble_eq_true rfl | (simp only [a_rm]; omega)) dX2_init_130 ?_
      refine jg_dup hC dX2_init_133 rfl ?_
      refine al_SCN (i := 154 + 2 * i) (np := 0) (As := []) (A2 := aA_X7 ca (z + (154 + 2 * i + 1))) (o2 := aO_X7 (z + (154 + 2 * i + 1))) hC hN hh hI (a_X7_init l D ca (a_up_at _ _ _) ⟨by omega, by omega⟩) (aD_r0) (aD_r1) ⟨by show _ ≤ _; first | exact Nat.le_of_ble_eq_true rfl | (simp only [a_rm]; omega), by show _ ≤ _; first | exact Nat.le_of_ble_eq_true rfl | (simp only [a_rm]; omega)⟩ (by decide) (by decide +kernel) ⟨wi_yX7_init, wzX7, wc_yX7_init⟩ rfl (by decide +kernel) rfl (Nat.le_of_ble_eq_true rfl) (by show _ ≤ _; first | exact Nat.le_of_ble_eq_true rfl | (simp only [a_rm]; omega)) (by show _ ≤ _; first | exact Nat.le_of_ble_eq_true rfl | (simp only [a_rm]; omega)) dX2_init_134 (fun σ hI => ?_)
      refine al_AA (J := 2) (v := z + (154 + 2 * i)) (ci := 5) (t0 := 6) (N := 3) (f := aF_r z i) hC hh hI (by omega) rfl ((hI.2.1 (154 + 2 * i) (by omega)).trans (congrArg some aD_r0)) rfl rfl (vp_in_nI (by omega) (by decide)) dX2_init_137 (fun σ hI => ?_)
      have hI := hI.cong (aD_cr (by omega) _)
      refine jg_iinc hC dX2_init_138 rfl (show _ + Int32.ofInt 1 = _ + 1 from rfl) ?_
      rw [e1]
      refine jg_goto (tgt := 120) hC dX2_init_141 (by decide) ?_
      have h3 := ih (i + 1) (by omega) _ ((show 154 + 2 * i + 1 + 1 = 154 + 2 * (i + 1) by omega) ▸ hI)
      rw [show 154 + 2 * (i + 1) = 154 + 2 * i + 1 + 1 by omega, show 12679 + 14 * (i + 1) = 12679 + 14 * i + 2 + 12 by omega] at h3
      exact h3
  have L1 : ∀ t i, i + t = 12 → ∀ σ1, a_I (aA_D ca z i i 0 0) h0 z (10 + 12 * i) σ σ1 (aO_D z) → a_W p l e s m ([.ref h0] : List Value).toArray below meth c D z0 3 176 12833 (fun σ' => a_I (aA_D ca z 12 12 3 8) h0 z 176 σ σ' (aO_D z)) (z + 176) 75 [some (.ref h0), some (.int (nI i))] [] (σ1, z + (10 + 12 * i), 10 + 12 * i, 5119 + 630 * i) := by
    intro t
    induction t with
    | zero =>
      intro i hi σ1 hI
      have hi : i = 12 := by omega
      subst hi
      refine jg_iload_n hC dX2_init_75 rfl rfl ?_
      refine jg_bipush (v := 12) hC dX2_init_76 (by decide) ?_
      refine jg_icmp_ge (tgt := 118) hC dX2_init_78 (by decide) (fun h => ?_) (fun h => absurd (by decide) h)
      refine jg_iconst (v := 0) hC dX2_init_118 (by decide) ?_
      refine jg_istore_n hC dX2_init_119 rfl (Nat.le_of_ble_eq_true rfl) ?_
      exact L2 3 0 (by omega) σ1 hI
    | succ t ih =>
      intro i hi σ1 hI
      have e1 : nI i + 1 = nI (i + 1) := nI_1 i
      refine jg_iload_n hC dX2_init_75 rfl rfl ?_
      refine jg_bipush (v := 12) hC dX2_init_76 (by decide) ?_
      refine jg_icmp_ge (tgt := 118) hC dX2_init_78 (by decide) (fun h => ?_) (fun h => ?_)
      · exact absurd h (nI_ge (a := i) (b := 12) (by omega) (by decide))
      refine jg_aload_n hC dX2_init_81 rfl rfl ?_
      refine al_get (j := 0) hC hI.1 rfl (by decide) wfX2_11 rfl dX2_init_82 ?_
      refine jg_iload_n hC dX2_init_85 rfl rfl ?_
      refine jg_iconst (v := 1) hC dX2_init_86 (by decide) ?_
      refine jg_iadd hC dX2_init_87 ?_
      rw [e1]
      refine al_new (ci := 7) (fs := [.int 0, .null, .null, .null, .null, .int 0, .int 0, .int 0, .int 0, .int 0, .int 0, .null, .int 0, .int 0, .int 0, .int 0]) hC rfl wk_X2_9 wn_X9 wzX9 tyX9 ttX9 (a_defX9) (by show _ ≤ _; first | exact Nat.le_of_ble_eq_true rfl | (simp only [a_rm]; omega)) (by show _ ≤ _; first | exact Nat.le_of_ble_eq_true rfl | (simp only [a_rm]; omega)) dX2_init_88 ?_
      refine jg_dup hC dX2_init_91 rfl ?_
      refine jg_iload_n hC dX2_init_92 rfl rfl ?_
      refine jg_iconst (v := 1) hC dX2_init_93 (by decide) ?_
      refine jg_iadd hC dX2_init_94 ?_
      rw [e1]
      refine al_SC (i := 10 + 12 * i) (np := 1) (As := [.int (nI (i + 1))]) (A2 := aA_X9 ca (z + (10 + 12 * i + 1))) (o2 := aO_X9 (nI (i + 1)) (z + (10 + 12 * i + 1))) hC hN hh hI (a_X9_init l D ca (nI (i + 1)) (a_up_at _ _ _) ⟨by omega, by omega⟩) (aD_p0 (by omega)) (aD_p1 (by omega)) ⟨by show _ ≤ _; first | exact Nat.le_of_ble_eq_true rfl | (simp only [a_rm]; omega), by show _ ≤ _; first | exact Nat.le_of_ble_eq_true rfl | (simp only [a_rm]; omega)⟩ (by decide) ⟨wmX2_51, wi_yX9_init, wzX9, wc_yX9_init⟩ rfl (by decide +kernel) rfl (Nat.le_of_ble_eq_true rfl) (by show _ ≤ _; first | exact Nat.le_of_ble_eq_true rfl | (simp only [a_rm]; omega)) (by show _ ≤ _; first | exact Nat.le_of_ble_eq_true rfl | (simp only [a_rm]; omega)) dX2_init_95 (fun σ hI => ?_)
      refine al_AA (J := 0) (v := z + (10 + 12 * i)) (ci := 7) (t0 := 4) (N := 13) (f := aF_p z i) hC hh hI (by omega) rfl ((hI.2.1 (10 + 12 * i) (by omega)).trans (congrArg some (aD_p0 (by omega)))) rfl rfl (vp_in_nI (by omega) (by decide)) dX2_init_98 (fun σ hI => ?_)
      have hI := hI.cong (aD_cp (by omega) _)
      rw [show 10 + 12 * i + 1 + 8 = 19 + 12 * i by omega] at hI ⊢
      refine jg_aload_n hC dX2_init_99 rfl rfl ?_
      refine al_get (j := 1) hC hI.1 rfl (by decide) wfX2_19 rfl dX2_init_100 ?_
      refine jg_iload_n hC dX2_init_103 rfl rfl ?_
      refine al_new (ci := 3) (fs := [.null, .null, .int 0, .int 0]) hC rfl wk_X2_17 wn_X5 wzX5 tyX5 ttX5 (a_defX5) (by show _ ≤ _; first | exact Nat.le_of_ble_eq_true rfl | (simp only [a_rm]; omega)) (by show _ ≤ _; first | exact Nat.le_of_ble_eq_true rfl | (simp only [a_rm]; omega)) dX2_init_104 ?_
      refine jg_dup hC dX2_init_107 rfl ?_
      refine al_SCN (i := 19 + 12 * i) (np := 0) (As := []) (A2 := aA_X5 ca (z + (19 + 12 * i + 1))) (o2 := aO_X5 (z + (19 + 12 * i + 1))) hC hN hh hI (a_X5_init l D ca (a_up_at _ _ _) ⟨by omega, by omega⟩) (aD_g0 (by omega)) (aD_g1 (by omega)) ⟨by show _ ≤ _; first | exact Nat.le_of_ble_eq_true rfl | (simp only [a_rm]; omega), by show _ ≤ _; first | exact Nat.le_of_ble_eq_true rfl | (simp only [a_rm]; omega)⟩ (by decide) (by decide +kernel) ⟨wi_yX5_init, wzX5, wc_yX5_init⟩ rfl (by decide +kernel) rfl (Nat.le_of_ble_eq_true rfl) (by show _ ≤ _; first | exact Nat.le_of_ble_eq_true rfl | (simp only [a_rm]; omega)) (by show _ ≤ _; first | exact Nat.le_of_ble_eq_true rfl | (simp only [a_rm]; omega)) dX2_init_108 (fun σ hI => ?_)
      refine al_AA (J := 1) (v := z + (19 + 12 * i)) (ci := 3) (t0 := 5) (N := 12) (f := aF_g z i) hC hh hI (by omega) rfl ((hI.2.1 (19 + 12 * i) (by omega)).trans (congrArg some (aD_g0 (by omega)))) rfl rfl (vp_in_nI (by omega) (by decide)) dX2_init_111 (fun σ hI => ?_)
      have hI := hI.cong (aD_cg (by omega) _)
      refine jg_iinc hC dX2_init_112 rfl (show _ + Int32.ofInt 1 = _ + 1 from rfl) ?_
      rw [e1]
      refine jg_goto (tgt := 75) hC dX2_init_115 (by decide) ?_
      have h3 := ih (i + 1) (by omega) _ ((show 19 + 12 * i + 1 + 2 = 10 + 12 * (i + 1) by omega) ▸ hI)
      rw [show 10 + 12 * (i + 1) = 19 + 12 * i + 1 + 2 by omega, show 5119 + 630 * (i + 1) = 5119 + 630 * i + 16 + 98 + 4 + 512 by omega] at h3
      exact h3
  have hI : a_I (aA_D ca z 0 0 0 0) h0 z 0 σ σ (.inr (1, [.null, .null, .null, .null, .null, .null, .null, .int 0, .int 0, .int 0, .int 0])) := a_I.nil hb
  have key : ∀ σ1 : a_S, a_I (aA_D ca z 0 0 0 0) h0 z 0 σ σ1 (.inr (1, [.null, .null, .null, .null, .null, .null, .null, .int 0, .int 0, .int 0, .int 0])) → a_W p l e s m ([.ref h0] : List Value).toArray below meth c D z0 3 176 12833 (fun σ' => a_I (aA_D ca z 12 12 3 8) h0 z 176 σ σ' (aO_D z)) (z + 176) 0 (n_l0 2 [.ref h0]) [] (σ1, z + 0, 0, 0) := by
    intro σ1 hI
    refine jg_aload_n hC dX2_init_0 rfl rfl ?_
    refine al_obj hC wob_X2 dX2_init_1 ⟨Nat.le_of_ble_eq_true rfl, Nat.le_of_ble_eq_true rfl, Nat.le_of_ble_eq_true rfl⟩ ?_
    refine jg_aload_n hC dX2_init_4 rfl rfl ?_
    refine jg_bipush (v := 13) hC dX2_init_5 (by decide) ?_
    refine al_NR (t0 := 4) (N := 13) (j := 0) (C := "ShareMonitor$UserProcess") (ty2 := .array (.object "ShareMonitor$UserProcess")) hC hN hin hh hI ⟨by decide, by decide⟩ aD_0 (by decide) wk_X2_9 rfl (by decide) (Nat.le_of_ble_eq_true rfl) (Nat.le_of_ble_eq_true rfl) dX2_init_7 rfl (by decide) wfX2_11 (Nat.le_of_ble_eq_true rfl) rfl rfl (by decide +kernel) rfl rfl dX2_init_10 (fun σ hI => ?_)
    refine jg_aload_n hC dX2_init_13 rfl rfl ?_
    refine jg_bipush (v := 12) hC dX2_init_14 (by decide) ?_
    refine al_NR (t0 := 5) (N := 12) (j := 1) (C := "ShareMonitor$Program") (ty2 := .array (.object "ShareMonitor$Program")) hC hN hin hh hI ⟨by decide, by decide⟩ aD_1 (by decide) wk_X2_17 rfl (by decide) (Nat.le_of_ble_eq_true rfl) (Nat.le_of_ble_eq_true rfl) dX2_init_16 rfl (by decide) wfX2_19 (Nat.le_of_ble_eq_true rfl) rfl rfl (by decide +kernel) rfl rfl dX2_init_19 (fun σ hI => ?_)
    refine jg_aload_n hC dX2_init_22 rfl rfl ?_
    refine jg_iconst (v := 3) hC dX2_init_23 (by decide) ?_
    refine al_NR (t0 := 6) (N := 3) (j := 2) (C := "ShareMonitor$Row") (ty2 := .array (.object "ShareMonitor$Row")) hC hN hin hh hI ⟨by decide, by decide⟩ aD_2 (by decide) wk_X2_23 rfl (by decide) (Nat.le_of_ble_eq_true rfl) (Nat.le_of_ble_eq_true rfl) dX2_init_24 rfl (by decide) wfX2_25 (Nat.le_of_ble_eq_true rfl) rfl rfl (by decide +kernel) rfl rfl dX2_init_27 (fun σ hI => ?_)
    refine jg_aload_n hC dX2_init_30 rfl rfl ?_
    refine jg_bipush (v := 8) hC dX2_init_31 (by decide) ?_
    refine al_NA (atype := .int) (t0 := 0) (N := 8) (j := 3) (ty := .int) (ty2 := .array .int) hC hin hh hI ⟨by decide, by decide⟩ rfl (fun _ => rfl) wa_int rfl (fun _ h => by cases h) rfl (by decide) (Nat.le_of_ble_eq_true rfl) (Nat.le_of_ble_eq_true rfl) dX2_init_33 rfl (by decide) wfX2_29 (Nat.le_of_ble_eq_true rfl) rfl rfl (by decide +kernel) rfl rfl dX2_init_35 (fun σ hI => ?_)
    refine jg_aload_n hC dX2_init_38 rfl rfl ?_
    refine jg_bipush (v := 8) hC dX2_init_39 (by decide) ?_
    refine al_NR (t0 := 6) (N := 8) (j := 4) (C := "ShareMonitor$Row") (ty2 := .array (.object "ShareMonitor$Row")) hC hN hin hh hI ⟨by decide, by decide⟩ aD_4 (by decide) wk_X2_23 rfl (by decide) (Nat.le_of_ble_eq_true rfl) (Nat.le_of_ble_eq_true rfl) dX2_init_41 rfl (by decide) wfX2_33 (Nat.le_of_ble_eq_true rfl) rfl rfl (by decide +kernel) rfl rfl dX2_init_44 (fun σ hI => ?_)
    refine jg_aload_n hC dX2_init_47 rfl rfl ?_
    refine al_new (ci := 2) (fs := [.null, .null, .null]) hC rfl wk_X2_36 wn_X3 wzX3 tyX3 ttX3 (a_defX3) (by show _ ≤ _; first | exact Nat.le_of_ble_eq_true rfl | (simp only [a_rm]; omega)) (by show _ ≤ _; first | exact Nat.le_of_ble_eq_true rfl | (simp only [a_rm]; omega)) dX2_init_48 ?_
    refine jg_dup hC dX2_init_51 rfl ?_
    refine al_SC (i := 5) (np := 0) (As := []) (A2 := aB_X3 ca (z + 6)) (o2 := aO_X3 (z + 6)) hC hN hh hI (a_X3_init l D ca (a_up_at _ _ _) ⟨by omega, by omega⟩) (rfl) (fun j hj => match j, hj with | 0, _ => rfl | 1, _ => rfl | 2, _ => rfl | q + 3, h => absurd h (by omega)) ⟨by show _ ≤ _; first | exact Nat.le_of_ble_eq_true rfl | (simp only [a_rm]; omega), by show _ ≤ _; first | exact Nat.le_of_ble_eq_true rfl | (simp only [a_rm]; omega)⟩ (by decide) ⟨wmX2_38, wi_yX3_init, wzX3, wc_yX3_init⟩ rfl (by decide +kernel) rfl (Nat.le_of_ble_eq_true rfl) (by show _ ≤ _; first | exact Nat.le_of_ble_eq_true rfl | (simp only [a_rm]; omega)) (by show _ ≤ _; first | exact Nat.le_of_ble_eq_true rfl | (simp only [a_rm]; omega)) dX2_init_52 (fun σ hI => ?_)
    refine al_PF (j := 5) (ty := .object "ShareMonitor$Memory") hC hin hh hI rfl (by decide) wfX2_39 (Nat.le_of_ble_eq_true rfl) rfl rfl (by decide +kernel) rfl rfl dX2_init_55 (fun σ hI => ?_)
    refine jg_aload_n hC dX2_init_58 rfl rfl ?_
    refine jg_sipush (v := 2000) hC dX2_init_59 (by decide) ?_
    refine al_NA (atype := .int) (t0 := 0) (N := 2000) (j := 6) (ty := .int) (ty2 := .array .int) hC hin hh hI ⟨by decide, by decide⟩ rfl (fun _ => rfl) wa_int rfl (fun _ h => by cases h) rfl (by decide) (Nat.le_of_ble_eq_true rfl) (Nat.le_of_ble_eq_true rfl) dX2_init_62 rfl (by decide) wfX2_43 (Nat.le_of_ble_eq_true rfl) rfl rfl (by decide +kernel) rfl rfl dX2_init_64 (fun σ hI => ?_)
    refine jg_aload_n hC dX2_init_67 rfl rfl ?_
    refine jg_ldc (v := 2147483647) hC wkX2_46 dX2_init_68 ?_
    refine al_PN (j := 10) (ty := .int) hC hh hI rfl (by decide) wfX2_47 (Nat.le_of_ble_eq_true rfl) rfl (by decide +kernel) rfl rfl dX2_init_70 (fun σ hI => ?_)
    refine jg_iconst (v := 0) hC dX2_init_73 (by decide) ?_
    refine jg_istore_n hC dX2_init_74 rfl (Nat.le_of_ble_eq_true rfl) ?_
    exact L1 12 0 (by omega) _ hI
  exact key σ hI
def aA_C (ca : Nat → ClassId) (z q : Nat) : va_E := if q = 0 then aO_X8 (z + 1) else if q = 1 then aA_X8 ca (z + 1) 0 else if q = 2 then aO_X6 (z + 0) (z + 3) else if q < 8 then aA_X6 ca (z + 3) (q - 3) else if q = 8 then aO_D (z + 9) else if q < 185 then aA_D ca (z + 9) 12 12 3 8 (q - 9) else aO_X10 (z + 8) (z + 186)
abbrev aO_C (z : Nat) : va_E := .inr (9, [.ref (z + 0), .ref (z + 2), .ref (z + 8), .ref (z + 185)])
theorem aC_d (ca : Nat → ClassId) (z : Nat) : ∀ j, j < 176 → aA_C ca z (8 + 1 + j) = aA_D ca (z + 9) 12 12 3 8 j := by
  intro j hj
  unfold aA_C
  rw [if_neg (by omega), if_neg (by omega), if_neg (by omega), if_neg (by omega), if_neg (by omega), if_pos (by omega), show 8 + 1 + j - 9 = j by omega]
set_option maxRecDepth 100000 in
theorem a_X11_init (l : Launch) (D : va_G) (ca : Nat → ClassId) {z0 h0 z : Nat} {σ : a_S} (hb : σ h0 = some (.inr (9, [.null, .null, .null, .null]))) (hh : h0 < z ∧ z0 ≤ h0) : a_Ct l D ca z0 4 186 21659 yX11_init cX11_init 1 [.ref h0] σ z (z + 186) (fun σ' => a_I (aA_C ca z) h0 z 186 σ σ' (aO_C z)) := by
  refine a_ofW rfl rfl (Nat.le_of_ble_eq_true rfl) (fun p e s m below meth c hC hin hN => ?_)
  have hI : a_I (aA_C ca z) h0 z 0 σ σ (.inr (9, [.null, .null, .null, .null])) := a_I.nil hb
  have key : ∀ σ1 : a_S, a_I (aA_C ca z) h0 z 0 σ σ1 (.inr (9, [.null, .null, .null, .null])) → a_W p l e s m ([.ref h0] : List Value).toArray below meth c D z0 4 186 21659 (fun σ' => a_I (aA_C ca z) h0 z 186 σ σ' (aO_C z)) (z + 186) 0 (n_l0 1 [.ref h0]) [] (σ1, z + 0, 0, 0) := by
    intro σ1 hI
    refine jg_aload_n hC dX11_init_0 rfl rfl ?_
    refine al_obj hC wob_X11 dX11_init_1 ⟨Nat.le_of_ble_eq_true rfl, Nat.le_of_ble_eq_true rfl, Nat.le_of_ble_eq_true rfl⟩ ?_
    refine jg_aload_n hC dX11_init_4 rfl rfl ?_
    refine al_new (ci := 6) (fs := [.null, .int 0]) hC rfl wk_X11_7 wn_X8 wzX8 tyX8 ttX8 (a_defX8) (by show _ ≤ _; first | exact Nat.le_of_ble_eq_true rfl | (simp only [a_rm]; omega)) (by show _ ≤ _; first | exact Nat.le_of_ble_eq_true rfl | (simp only [a_rm]; omega)) dX11_init_5 ?_
    refine jg_dup hC dX11_init_8 rfl ?_
    refine al_SCN (i := 0) (np := 0) (As := []) (A2 := aA_X8 ca (z + 1)) (o2 := aO_X8 (z + 1)) hC hN hh hI (a_X8_init l D ca (a_up_at _ _ _) ⟨by omega, by omega⟩) (rfl) (fun j hj => match j, hj with | 0, _ => rfl | q + 1, h => absurd h (by omega)) ⟨by show _ ≤ _; first | exact Nat.le_of_ble_eq_true rfl | (simp only [a_rm]; omega), by show _ ≤ _; first | exact Nat.le_of_ble_eq_true rfl | (simp only [a_rm]; omega)⟩ (by decide) (by decide +kernel) ⟨wi_yX8_init, wzX8, wc_yX8_init⟩ rfl (by decide +kernel) rfl (Nat.le_of_ble_eq_true rfl) (by show _ ≤ _; first | exact Nat.le_of_ble_eq_true rfl | (simp only [a_rm]; omega)) (by show _ ≤ _; first | exact Nat.le_of_ble_eq_true rfl | (simp only [a_rm]; omega)) dX11_init_9 (fun σ hI => ?_)
    refine al_PF (j := 0) (ty := .object "ShareMonitor$Tape") hC hin hh hI rfl (by decide) wfX11_10 (Nat.le_of_ble_eq_true rfl) rfl rfl (by decide +kernel) rfl rfl dX11_init_12 (fun σ hI => ?_)
    refine jg_aload_n hC dX11_init_15 rfl rfl ?_
    refine al_new (ci := 4) (fs := [.null, .null, .null, .null, .int 0, .null, .null, .int 0, .int 0, .int 0, .int 0]) hC rfl wk_X11_16 wn_X6 wzX6 tyX6 ttX6 (a_defX6) (by show _ ≤ _; first | exact Nat.le_of_ble_eq_true rfl | (simp only [a_rm]; omega)) (by show _ ≤ _; first | exact Nat.le_of_ble_eq_true rfl | (simp only [a_rm]; omega)) dX11_init_16 ?_
    refine jg_dup hC dX11_init_19 rfl ?_
    refine jg_aload_n hC dX11_init_20 rfl rfl ?_
    refine al_get (j := 0) hC (a_I.new (A := fun q => if q = 2 then .inr (4, [.null, .null, .null, .null, .int 0, .null, .null, .int 0, .int 0, .int 0, .int 0]) else aA_C ca z q) hh.1 (hI.cong (fun q hq => (if_neg (by omega)).symm)) (if_pos rfl)).1 rfl (by decide) wfX11_10 rfl dX11_init_21 ?_
    refine al_SC (i := 2) (np := 1) (As := [.ref (z + 0)]) (A2 := aA_X6 ca (z + 3)) (o2 := aO_X6 (z + 0) (z + 3)) hC hN hh hI (a_X6_init l D ca (z + 0) (a_up_at _ _ _) ⟨by omega, by omega⟩) (rfl) (fun j hj => match j, hj with | 0, _ => rfl | 1, _ => rfl | 2, _ => rfl | 3, _ => rfl | 4, _ => rfl | q + 5, h => absurd h (by omega)) ⟨by show _ ≤ _; first | exact Nat.le_of_ble_eq_true rfl | (simp only [a_rm]; omega), by show _ ≤ _; first | exact Nat.le_of_ble_eq_true rfl | (simp only [a_rm]; omega)⟩ (by decide) ⟨wmX11_18, wi_yX6_init, wzX6, wc_yX6_init⟩ rfl (by decide +kernel) rfl (Nat.le_of_ble_eq_true rfl) (by show _ ≤ _; first | exact Nat.le_of_ble_eq_true rfl | (simp only [a_rm]; omega)) (by show _ ≤ _; first | exact Nat.le_of_ble_eq_true rfl | (simp only [a_rm]; omega)) dX11_init_24 (fun σ hI => ?_)
    refine al_PF (j := 1) (ty := .object "ShareMonitor$Reader") hC hin hh hI rfl (by decide) wfX11_21 (Nat.le_of_ble_eq_true rfl) rfl rfl (by decide +kernel) rfl rfl dX11_init_27 (fun σ hI => ?_)
    refine jg_aload_n hC dX11_init_30 rfl rfl ?_
    refine al_new (ci := 1) (fs := [.null, .null, .null, .null, .null, .null, .null, .int 0, .int 0, .int 0, .int 0]) hC rfl wk_X11_25 wn_X2 wzX2 tyX2 ttX2 (a_defX2) (by show _ ≤ _; first | exact Nat.le_of_ble_eq_true rfl | (simp only [a_rm]; omega)) (by show _ ≤ _; first | exact Nat.le_of_ble_eq_true rfl | (simp only [a_rm]; omega)) dX11_init_31 ?_
    refine jg_dup hC dX11_init_34 rfl ?_
    refine al_SC (i := 8) (np := 0) (As := []) (A2 := aA_D ca (z + 9) 12 12 3 8) (o2 := aO_D (z + 9)) hC hN hh hI (a_X2_init l D ca (a_up_at _ _ _) ⟨by omega, by omega⟩) (rfl) (aC_d ca z) ⟨by show _ ≤ _; first | exact Nat.le_of_ble_eq_true rfl | (simp only [a_rm]; omega), by show _ ≤ _; first | exact Nat.le_of_ble_eq_true rfl | (simp only [a_rm]; omega)⟩ (by decide) ⟨wmX11_27, wi_yX2_init, wzX2, wc_yX2_init⟩ rfl (by decide +kernel) rfl (Nat.le_of_ble_eq_true rfl) (by show _ ≤ _; first | exact Nat.le_of_ble_eq_true rfl | (simp only [a_rm]; omega)) (by show _ ≤ _; first | exact Nat.le_of_ble_eq_true rfl | (simp only [a_rm]; omega)) dX11_init_35 (fun σ hI => ?_)
    refine al_PF (j := 2) (ty := .object "ShareMonitor$Desk") hC hin hh hI rfl (by decide) wfX11_28 (Nat.le_of_ble_eq_true rfl) rfl rfl (by decide +kernel) rfl rfl dX11_init_38 (fun σ hI => ?_)
    refine jg_aload_n hC dX11_init_41 rfl rfl ?_
    refine al_new (ci := 8) (fs := [.null, .int 0]) hC rfl wk_X11_32 wn_X10 wzX10 tyX10 ttX10 (a_defX10) (by show _ ≤ _; first | exact Nat.le_of_ble_eq_true rfl | (simp only [a_rm]; omega)) (by show _ ≤ _; first | exact Nat.le_of_ble_eq_true rfl | (simp only [a_rm]; omega)) dX11_init_42 ?_
    refine jg_dup hC dX11_init_45 rfl ?_
    refine jg_aload_n hC dX11_init_46 rfl rfl ?_
    refine al_get (j := 2) hC (a_I.new (A := fun q => if q = 185 then .inr (8, [.null, .int 0]) else aA_C ca z q) hh.1 (hI.cong (fun q hq => (if_neg (by omega)).symm)) (if_pos rfl)).1 rfl (by decide) wfX11_28 rfl dX11_init_47 ?_
    refine al_SC (i := 185) (np := 1) (As := [.ref (z + 8)]) (A2 := aA_X10 ca (z + 186)) (o2 := aO_X10 (z + 8) (z + 186)) hC hN hh hI (a_X10_init l D ca (z + 8) (a_up_at _ _ _) ⟨by omega, by omega⟩) (rfl) (fun j hj => absurd hj (by omega)) ⟨by show _ ≤ _; first | exact Nat.le_of_ble_eq_true rfl | (simp only [a_rm]; omega), by show _ ≤ _; first | exact Nat.le_of_ble_eq_true rfl | (simp only [a_rm]; omega)⟩ (by decide) ⟨wmX11_34, wi_yX10_init, wzX10, wc_yX10_init⟩ rfl (by decide +kernel) rfl (Nat.le_of_ble_eq_true rfl) (by show _ ≤ _; first | exact Nat.le_of_ble_eq_true rfl | (simp only [a_rm]; omega)) (by show _ ≤ _; first | exact Nat.le_of_ble_eq_true rfl | (simp only [a_rm]; omega)) dX11_init_50 (fun σ hI => ?_)
    refine al_PF (j := 3) (ty := .object "ShareMonitor$Worker") hC hin hh hI rfl (by decide) wfX11_37 (Nat.le_of_ble_eq_true rfl) rfl rfl (by decide +kernel) rfl rfl dX11_init_53 (fun σ hI => ?_)
    exact al_ret hC dX11_init_56 hI
  exact key σ hI
