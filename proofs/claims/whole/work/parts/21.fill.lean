def m_fl (M : n_M) (c a b : Nat) (v : Int32) : n_M := (fun c' i' => if c' = c ∧ a ≤ i' ∧ i' < b then v else M.1 c' i', M.2)
section FL0
variable {p : Program} {l : Launch} {e : Env} {s : State} {m : MethodId} {args : Array Value} {below : List Frame} {meth : Method} {c : Code} {D : va_G} {ca : Nat → ClassId} {ad : Nat → Nat → Nat} {ae : Nat → Nat} {Ex : State → Heap → Prop} {d : Nat} {Po : Option Value → n_S → Prop} {cc : ByteArray} {nL : Nat} {own : String} {ret : Option FieldType}
variable {pc : Nat} {ls : List (Option Value)} {rest : List Value} {σ : n_S} {κ i n : Nat}
theorem c_alen (hC : n_C p s m args meth c (cw D ca ad ae Ex) cc nL own ret) (hi : cw_dom κ i) (he : ∀ f, cw_eL ca ad ae κ i f = .inl (ca 0, n, .inl f)) (hdg : decode cc pc = .ok (.arraylength, 1)) (kk : n_W p l e s m args below meth c (cw D ca ad ae Ex) d Po (pc + 1) ls (.int (nI n) :: rest) σ) : n_W p l e s m args below meth c (cw D ca ad ae Ex) d Po pc ls (.ref (ad κ i) :: rest) σ := by
  intro H locs la z1 z2 z3
  have h1 := n_one z2 (κ := κ) (i := i) hi
  rw [show n_en (cw D ca ad ae Ex) κ i σ = .inl (ca 0, n, .inl (σ κ i)) from he _] at h1
  exact va_alen hC.1 hC.2.1 hC.2.2.2.2.2.2.2.1 h1 0 0 rfl (ty := .int) rfl rfl hdg (kk H locs la z1 z2 z3)
end FL0
section FL1
variable {l : Launch} {D : va_G} {ca : Nat → ClassId} {ad : Nat → Nat → Nat} {ae : Nat → Nat} {Ex : State → Heap → Prop}
theorem c_range (d a b n : Nat) (σ : n_S) (h1 : a ≤ b) (h2 : b ≤ n) (h3 : n < 2 ^ 31) : n_Ct l (cw D ca ad ae Ex) d yJ7_rangeCheck_23922 cJ7_rangeCheck_23922 3 none [.int (nI n), .int (nI a), .int (nI b)] σ (fun rv σ' => rv = none ∧ σ' = σ) := by
  refine n_ofW (by decide) (Nat.le_of_ble_eq_true rfl) ?_
  intro p e s m below meth c hC
  refine n_iload_n hC dJ7_rangeCheck_23922_0 rfl rfl ?_
  refine n_iload_n hC dJ7_rangeCheck_23922_1 rfl rfl ?_
  refine n_icmp_le (tgt := 46) hC dJ7_rangeCheck_23922_2 (by decide) (fun h => ?_) (fun h => ?_)
  · clear h
    refine n_iload_n hC dJ7_rangeCheck_23922_46 rfl rfl ?_
    refine n_if_ge (tgt := 59) hC dJ7_rangeCheck_23922_47 (by decide) (fun h => ?_) (fun h => ?_)
    · clear h
      refine n_iload_n hC dJ7_rangeCheck_23922_59 rfl rfl ?_
      refine n_iload_n hC dJ7_rangeCheck_23922_60 rfl rfl ?_
      refine n_icmp_le (tgt := 73) hC dJ7_rangeCheck_23922_61 (by decide) (fun h => ?_) (fun h => ?_)
      · refine n_vret hC dJ7_rangeCheck_23922_73 ?_
        exact ⟨rfl, rfl⟩
      · exact absurd (nI_le h2 h3) h
    · exact absurd (nI_pos' (by omega)) h
  · exact absurd (nI_le h1 (by omega)) h
theorem c_fill (d κ a b n : Nat) (v : Int32) (σ : n_S) (hd : cw_dom κ 0) (he : ∀ f, cw_eL ca ad ae κ 0 f = .inl (ca 0, n, .inl f)) (h1 : a ≤ b) (h2 : b ≤ n) (h3 : n < 2 ^ 31) : n_Ct l (cw D ca ad ae Ex) (d + 1) yJ7_fill_fda19 cJ7_fill_fda19 5 none [.ref (ad κ 0), .int (nI a), .int (nI b), .int v] σ (fun rv σ' => rv = none ∧ ∀ κ' i' k', σ' κ' i' k' = if κ' = κ ∧ i' = 0 ∧ a ≤ k' ∧ k' < b then v else σ κ' i' k') := by
  refine n_ofW (by decide) (Nat.le_of_ble_eq_true rfl) ?_
  intro p e s m below meth c hC
  have loop : ∀ (j t : Nat) (σ1 : n_S), j + t = b → a ≤ t → (∀ κ' i' k', σ1 κ' i' k' = if κ' = κ ∧ i' = 0 ∧ a ≤ k' ∧ k' < t then v else σ κ' i' k') →
      n_W p l e s m [Value.ref (ad κ 0), Value.int (nI a), Value.int (nI b), Value.int v].toArray below meth c (cw D ca ad ae Ex) (d + 1) (fun rv σ' => rv = none ∧ ∀ κ' i' k', σ' κ' i' k' = if κ' = κ ∧ i' = 0 ∧ a ≤ k' ∧ k' < b then v else σ κ' i' k') 10 [some (.ref (ad κ 0)), some (.int (nI a)), some (.int (nI b)), some (.int v), some (.int (nI t))] [] σ1 := by
    intro j
    induction j with
    | zero =>
      intro t σ1 ht hat hs
      have : t = b := by omega
      subst this
      refine n_iload hC dJ7_fill_fda19_10 rfl ?_
      refine n_iload_n hC dJ7_fill_fda19_12 rfl rfl ?_
      refine n_icmp_ge (tgt := 27) hC dJ7_fill_fda19_13 (by decide) (fun h => ?_) (fun h => ?_)
      · refine n_vret hC dJ7_fill_fda19_27 ?_
        exact ⟨rfl, hs⟩
      · exact absurd (Int32.le_refl _) h
    | succ j ih =>
      intro t σ1 ht hat hs
      refine n_iload hC dJ7_fill_fda19_10 rfl ?_
      refine n_iload_n hC dJ7_fill_fda19_12 rfl rfl ?_
      refine n_icmp_ge (tgt := 27) hC dJ7_fill_fda19_13 (by decide) (fun h => ?_) (fun h => ?_)
      · exact absurd h (nI_ge (by omega) (by omega))
      · clear h
        refine n_aload_n hC dJ7_fill_fda19_16 rfl rfl ?_
        refine n_iload hC dJ7_fill_fda19_17 rfl ?_
        refine n_iload_n hC dJ7_fill_fda19_19 rfl rfl ?_
        refine c_iast hC hd he (vp_in_nI (by omega) h3) dJ7_fill_fda19_20 ?_
        refine n_iinc hC dJ7_fill_fda19_21 rfl (show _ + Int32.ofInt 1 = _ + 1 from rfl) ?_
        refine n_goto (tgt := 10) hC dJ7_fill_fda19_24 (by decide) ?_
        rw [nI_1, nI_clamp (by omega)]
        refine ih (t + 1) _ (by omega) (by omega) (fun κ' i' k' => ?_)
        rw [n_up_k, hs]
        by_cases q1 : κ' = κ ∧ i' = 0
        · by_cases q2 : k' = t
          · rw [if_pos ⟨q1.1, q1.2, q2⟩, if_pos ⟨q1.1, q1.2, by omega, by omega⟩]
          · rw [if_neg (fun z => q2 z.2.2)]
            by_cases q3 : a ≤ k' ∧ k' < t
            · rw [if_pos ⟨q1.1, q1.2, q3⟩, if_pos ⟨q1.1, q1.2, by omega, by omega⟩]
            · rw [if_neg (fun z => q3 z.2.2), if_neg (fun z => q3 ⟨z.2.2.1, by omega⟩)]
        · rw [if_neg (fun z => q1 ⟨z.1, z.2.1⟩), if_neg (fun z => q1 ⟨z.1, z.2.1⟩), if_neg (fun z => q1 ⟨z.1, z.2.1⟩)]
  refine n_aload_n hC dJ7_fill_fda19_0 rfl rfl ?_
  refine c_alen hC hd he dJ7_fill_fda19_1 ?_
  refine n_iload_n hC dJ7_fill_fda19_2 rfl rfl ?_
  refine n_iload_n hC dJ7_fill_fda19_3 rfl rfl ?_
  refine n_callS hC (c_range d a b n σ h1 h2 h3) (Nat.le_refl _) (by decide) ⟨wmJ7_13, ws_yJ7_rangeCheck_23922, wzJ7, wc_yJ7_rangeCheck_23922⟩ hy_yJ7_rangeCheck_23922 rfl (Nat.le_of_ble_eq_true rfl) dJ7_fill_fda19_4 (fun rv σ' hpo => ?_)
  obtain ⟨rfl, rfl⟩ := hpo
  refine n_iload_n hC dJ7_fill_fda19_7 rfl rfl ?_
  refine n_istore hC dJ7_fill_fda19_8 (Nat.le_of_ble_eq_true rfl) ?_
  refine loop (b - a) a σ' (by omega) (by omega) (fun κ' i' k' => ?_)
  rw [if_neg (by omega)]
end FL1
set_option maxHeartbeats 4000000 in
theorem cf_10 {M : n_M} {σ σ' : n_S} {a b : Nat} {v : Int32} (h : RepC M σ) (hs : ∀ κ' i' k', σ' κ' i' k' = if κ' = 16 ∧ i' = 0 ∧ a ≤ k' ∧ k' < b then v else σ κ' i' k') : RepC (m_fl M 10 a b v) σ' := by
  refine ⟨fun c' i' hv => ?_, fun c' i' hv => ?_⟩
  · have h1 := h.1 c' i' hv
    have hc := m_vS_c hv
    simp only [List.mem_cons, List.not_mem_nil, or_false] at hc
    rcases hc with rfl | rfl | rfl | rfl | rfl | rfl | rfl | rfl | rfl | rfl | rfl | rfl | rfl | rfl | rfl | rfl | rfl | rfl | rfl <;> simp only [cS, m_vS] at * <;> simp_all [m_fl]
  · have h1 := h.2 c' i' hv
    have hc := m_vL_c hv
    simp only [List.mem_cons, List.not_mem_nil, or_false] at hc
    rcases hc with rfl | rfl | rfl | rfl | rfl | rfl | rfl | rfl | rfl <;> simp only [cN, cA, m_vL] at * <;> simp_all [m_fl, n_h]
