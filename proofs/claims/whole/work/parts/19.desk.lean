section DK0
variable {p : Program} {l : Launch} {e : Env} {s : State} {m : MethodId} {args : Array Value} {below : List Frame} {meth : Method} {c : Code} {D : va_G} {ca : Nat → ClassId} {ad : Nat → Nat → Nat} {ae : Nat → Nat} {Ex : State → Heap → Prop} {d : Nat} {Po : Option Value → n_S → Prop} {cc : ByteArray} {nL : Nat} {own : String} {ret : Option FieldType}
variable {pc : Nat} {ls : List (Option Value)} {rest : List Value} {σ : n_S} {ix i : Nat}
theorem a_rows (hC : n_C p s m args meth c (cw D ca ad ae Ex) cc nL own ret) (hi : i < 3) (hdg : decode cc pc = .ok (.aaload, 1)) (kk : n_W p l e s m args below meth c (cw D ca ad ae Ex) d Po (pc + 1) ls (.ref (ad 31 i) :: rest) σ) : n_W p l e s m args below meth c (cw D ca ad ae Ex) d Po pc ls (.int (nI i) :: .ref (ad 12 0) :: rest) σ := by
  refine c_aald hC (κ := 12) (i := 0) (t0 := 6) rfl rfl rfl (vp_in_nI hi (by decide)) hdg ?_
  rw [nI_clamp (by omega)]
  exact kk
theorem a_queues (hC : n_C p s m args meth c (cw D ca ad ae Ex) cc nL own ret) (hi : i < 8) (hdg : decode cc pc = .ok (.aaload, 1)) (kk : n_W p l e s m args below meth c (cw D ca ad ae Ex) d Po (pc + 1) ls (.ref (ad 31 (i + 3)) :: rest) σ) : n_W p l e s m args below meth c (cw D ca ad ae Ex) d Po pc ls (.int (nI i) :: .ref (ad 13 0) :: rest) σ := by
  refine c_aald hC (κ := 13) (i := 0) (t0 := 6) rfl rfl rfl (vp_in_nI hi (by decide)) hdg ?_
  rw [nI_clamp (by omega)]
  exact kk
theorem a_progs (hC : n_C p s m args meth c (cw D ca ad ae Ex) cc nL own ret) (hi : i < 12) (hdg : decode cc pc = .ok (.aaload, 1)) (kk : n_W p l e s m args below meth c (cw D ca ad ae Ex) d Po (pc + 1) ls (.ref (ad 28 i) :: rest) σ) : n_W p l e s m args below meth c (cw D ca ad ae Ex) d Po pc ls (.int (nI i) :: .ref (ad 11 0) :: rest) σ := by
  refine c_aald hC (κ := 11) (i := 0) (t0 := 5) rfl rfl rfl (vp_in_nI hi (by decide)) hdg ?_
  rw [nI_clamp (by omega)]
  exact kk
theorem a_procs (hC : n_C p s m args meth c (cw D ca ad ae Ex) cc nL own ret) (hi : 1 ≤ i ∧ i ≤ 12) (hdg : decode cc pc = .ok (.aaload, 1)) (kk : n_W p l e s m args below meth c (cw D ca ad ae Ex) d Po (pc + 1) ls (.ref (ad 21 i) :: rest) σ) : n_W p l e s m args below meth c (cw D ca ad ae Ex) d Po pc ls (.int (nI i) :: .ref (ad 10 0) :: rest) σ := by
  refine c_aald hC (κ := 10) (i := 0) (t0 := 4) rfl rfl rfl (vp_in_nI (by omega) (by decide)) hdg ?_
  rw [nI_clamp (by omega), if_neg (by omega)]
  exact kk
theorem n_mmin (hC : n_C p s m args meth c (cw D ca ad ae Ex) cc nL own ret) {x y : Int32} (hw : Cond.methodLink own ix yJ9_min_7cf53 ∈ n_tb) (hr : (rest.map fun v => v.category).sum ≤ 8) (hdg : decode cc pc = .ok (.invokestatic ix, 3)) (kk : n_W p l e s m args below meth c (cw D ca ad ae Ex) (d + 1) Po (pc + 3) ls (.int (if y < x then y else x) :: rest) σ) : n_W p l e s m args below meth c (cw D ca ad ae Ex) (d + 1) Po pc ls (.int y :: .int x :: rest) σ := by
  intro H locs la z1 z2 z3
  exact va_mmin hC.1 hC.2.1 z1.2.1.symm hC.2.2.2.1 (hC.2.2.2.2.1 _ hw) (hC.2.2.2.2.1 _ ws_yJ9_min_7cf53) (hC.2.2.2.2.1 _ wzJ9) (hC.2.2.2.2.1 _ wc_yJ9_min_7cf53) (by show 1 ≤ d + 1; omega) (by show _ ≤ 60 * (d + 1); omega) (Nat.zero_le _) (Nat.zero_le _) hdg (kk H locs la z1 z2 z3)
theorem n_mmax (hC : n_C p s m args meth c (cw D ca ad ae Ex) cc nL own ret) {x y : Int32} (hw : Cond.methodLink own ix yJ9_max_7cf53 ∈ n_tb) (hr : (rest.map fun v => v.category).sum ≤ 8) (hdg : decode cc pc = .ok (.invokestatic ix, 3)) (kk : n_W p l e s m args below meth c (cw D ca ad ae Ex) (d + 1) Po (pc + 3) ls (.int (if x < y then y else x) :: rest) σ) : n_W p l e s m args below meth c (cw D ca ad ae Ex) (d + 1) Po pc ls (.int y :: .int x :: rest) σ := by
  intro H locs la z1 z2 z3
  exact va_mmax hC.1 hC.2.1 z1.2.1.symm hC.2.2.2.1 (hC.2.2.2.2.1 _ hw) (hC.2.2.2.2.1 _ ws_yJ9_max_7cf53) (hC.2.2.2.2.1 _ wzJ9) (hC.2.2.2.2.1 _ wc_yJ9_max_7cf53) (by show 1 ≤ d + 1; omega) (by show _ ≤ 60 * (d + 1); omega) (Nat.zero_le _) (Nat.zero_le _) hdg (kk H locs la z1 z2 z3)
theorem n_lmin (hC : n_C p s m args meth c (cw D ca ad ae Ex) cc nL own ret) {x y : Int64} (hw : Cond.methodLink own ix yJ9_min_f86c9 ∈ n_tb) (hr : (rest.map fun v => v.category).sum ≤ 8) (hdg : decode cc pc = .ok (.invokestatic ix, 3)) (kk : n_W p l e s m args below meth c (cw D ca ad ae Ex) (d + 1) Po (pc + 3) ls (.long (if y < x then y else x) :: rest) σ) : n_W p l e s m args below meth c (cw D ca ad ae Ex) (d + 1) Po pc ls (.long y :: .long x :: rest) σ := by
  intro H locs la z1 z2 z3
  exact va_mmin_long hC.1 hC.2.1 z1.2.1.symm hC.2.2.2.1 (hC.2.2.2.2.1 _ hw) (hC.2.2.2.2.1 _ ws_yJ9_min_f86c9) (hC.2.2.2.2.1 _ wzJ9) (hC.2.2.2.2.1 _ wc_yJ9_min_f86c9) (by show 1 ≤ d + 1; omega) (by show _ ≤ 60 * (d + 1); omega) (Nat.zero_le _) (Nat.zero_le _) hdg (kk H locs la z1 z2 z3)
end DK0
def m_lv (M : n_M) (q : Nat) : Nat := (M.1 2 q).toNatClampNeg
theorem m_lv_i {M : n_M} {q r : Nat} (hr : r < 3) (h : M.1 2 q = nI r) : m_lv M q = r := by
  unfold m_lv
  rw [h, nI_clamp (by omega)]
def m_lvok (M : n_M) (q : Nat) : Prop := ∃ r, r < 3 ∧ M.1 2 q = nI r
def m_rdy (M : n_M) (q : Nat) : n_M := m_l (m_s (m_s (m_s M 0 q 1) 7 q 0) 8 q 0) 5 (m_lv M q) (M.2 5 (m_lv M q) ++ [nI q])
def m_out (M : n_M) (r q : Nat) : n_M := m_l M 5 r ((M.2 5 r).filter (fun y => decide (y ≠ nI q)))
def m_plast (M : n_M) (q : Nat) (a : Int32) : n_M := m_rdy (m_s (m_out M (m_lv M q) q) 2 q a) q
def m_susp (M : n_M) (q : Nat) (st aw : Int32) : n_M := m_s (m_s (m_s (m_out M (m_lv M q) q) 0 q st) 7 q aw) 8 q 0
def m_adm (M : n_M) (q i : Nat) (a : Int32) : n_M := m_rdy (m_s (m_s (m_s M 4 q (nI (i + 1))) 12 i (M.1 12 i + 1)) 2 q a) q
section DK1
variable {l : Launch} {D : va_G} {ca : Nat → ClassId} {ad : Nat → Nat → Nat} {ae : Nat → Nat} {Ex : State → Heap → Prop}
theorem c_find (d : Nat) (x : Int32) (σ : n_S) : n_Ct l (cw D ca ad ae Ex) d yX2_find cX2_find 2 (some (.object "ShareMonitor$UserProcess")) [.ref (ad 9 0), .int x] σ (fun rv σ' => ((∃ q, (1 ≤ q ∧ q ≤ 12) ∧ x = nI q ∧ rv = some (.ref (ad 21 q))) ∨ (¬ (1 ≤ x ∧ x ≤ 12) ∧ rv = some .null)) ∧ σ' = σ) := by
  refine n_ofW (by decide) (Nat.le_of_ble_eq_true rfl) ?_
  intro p e s m below meth c hC
  refine n_iload_n hC dX2_find_0 rfl rfl ?_
  refine n_iconst (v := 1) hC dX2_find_1 (by decide) ?_
  refine n_icmp_lt (tgt := 20) hC dX2_find_2 (by decide) (fun h => ?_) (fun h => ?_)
  · refine n_null hC dX2_find_20 ?_
    refine n_aret hC (by first | exact Or.inl rfl | exact Or.inr ⟨_, rfl⟩) dX2_find_21 ?_
    exact ⟨Or.inr ⟨fun z => absurd z.1 (Int32.not_le.mpr h), rfl⟩, rfl⟩
  · have h0 : ¬ x < 1 := h
    clear h
    refine n_iload_n hC dX2_find_5 rfl rfl ?_
    refine n_bipush (v := 12) hC dX2_find_6 (by decide) ?_
    refine n_icmp_gt (tgt := 20) hC dX2_find_8 (by decide) (fun h => ?_) (fun h => ?_)
    · refine n_null hC dX2_find_20 ?_
      refine n_aret hC (by first | exact Or.inl rfl | exact Or.inr ⟨_, rfl⟩) dX2_find_21 ?_
      exact ⟨Or.inr ⟨fun z => absurd z.2 (Int32.not_le.mpr h), rfl⟩, rfl⟩
    · have hx0 : ¬ x < 0 := fun z => h0 (Int32.lt_trans z (by decide))
      obtain ⟨q, hq, rfl⟩ := nI_of2 (M := 12) (n := 12) (by decide) hx0 (Int32.not_lt.mp h)
      have hq1 : 1 ≤ q := Nat.le_of_not_lt fun z => h0 (nI_lt (b := 1) z (by decide))
      refine n_aload_n hC dX2_find_11 rfl rfl ?_
      refine g9_processes hC (by first | assumption | exact rfl) wfX2_11 dX2_find_12 ?_
      refine n_iload_n hC dX2_find_15 rfl rfl ?_
      first | refine a_rows hC (by omega) dX2_find_16 ?_ | refine a_queues hC (by omega) dX2_find_16 ?_ | refine a_procs hC (by omega) dX2_find_16 ?_ | refine a_progs hC (by omega) dX2_find_16 ?_
      refine n_goto (tgt := 21) hC dX2_find_17 (by decide) ?_
      refine n_aret hC (by first | exact Or.inl rfl | exact Or.inr ⟨_, rfl⟩) dX2_find_21 ?_
      exact ⟨Or.inl ⟨q, ⟨hq1, hq⟩, rfl, rfl⟩, rfl⟩
theorem c_findChild (d q : Nat) (x : Int32) (M : n_M) (σ : n_S) (hM : RepC M σ) (hq : 1 ≤ q ∧ q ≤ 12) : n_Ct l (cw D ca ad ae Ex) (d + 1) yX2_findChild cX2_findChild 4 (some (.object "ShareMonitor$UserProcess")) [.ref (ad 9 0), .ref (ad 21 q), .int x] σ (fun rv σ' => ((∃ r, (1 ≤ r ∧ r ≤ 12) ∧ x = nI r ∧ M.1 3 r = nI q ∧ rv = some (.ref (ad 21 r))) ∨ ((¬ ∃ r, (1 ≤ r ∧ r ≤ 12) ∧ x = nI r ∧ M.1 3 r = nI q) ∧ rv = some .null)) ∧ σ' = σ) := by
  refine n_ofW (by decide) (Nat.le_of_ble_eq_true rfl) ?_
  intro p e s m below meth c hC
  have hd : cw_dom 21 q := hq
  refine n_aload_n hC dX2_findChild_0 rfl rfl ?_
  refine n_iload_n hC dX2_findChild_1 rfl rfl ?_
  refine n_callV hC (c_find d x σ) (Nat.le_refl _) (by decide) (by first | assumption | exact rfl) rfl rfl rfl ⟨wmX2_56, wi_yX2_find, wv_yX2_find, wzX2, wc_yX2_find⟩ hy_yX2_find rfl (Nat.le_of_ble_eq_true rfl) dX2_findChild_2 (fun rv σ' hpo => ?_)
  obtain ⟨hpo, rfl⟩ := hpo
  rcases hpo with ⟨r, hr, rfl, rfl⟩ | ⟨hx, rfl⟩
  · have hd2 : cw_dom 21 r := hr
    have e1 : σ' 21 r 10 = M.1 3 r := hM.1 3 r hr
    first | refine n_astore_n hC dX2_findChild_5 rfl (Nat.le_of_ble_eq_true rfl) ?_ | refine n_astore_nN hC dX2_findChild_5 rfl (Nat.le_of_ble_eq_true rfl) ?_
    refine n_aload_n hC dX2_findChild_6 rfl rfl ?_
    first | refine n_ifnull hC dX2_findChild_7 ?_ | refine n_ifnullN (tgt := 25) hC dX2_findChild_7 (by decide) ?_
    refine n_aload_n hC dX2_findChild_10 rfl rfl ?_
    refine g21_parent hC (by first | assumption | exact rfl) wfX2_60 dX2_findChild_11 ?_
    refine n_aload_n hC dX2_findChild_14 rfl rfl ?_
    refine g21_number hC (by first | assumption | exact rfl) wfX2_63 dX2_findChild_15 ?_
    refine n_icmp_ne (tgt := 25) hC dX2_findChild_18 (by decide) (fun h => ?_) (fun h => ?_)
    · refine n_null hC dX2_findChild_25 ?_
      refine n_aret hC (by first | exact Or.inl rfl | exact Or.inr ⟨_, rfl⟩) dX2_findChild_26 ?_
      rw [e1] at h
      refine ⟨Or.inr ⟨fun z => ?_, rfl⟩, rfl⟩
      obtain ⟨r2, h2, h3, h4⟩ := z
      have : r2 = r := ((nI_eq (by omega) (by omega)).mp h3).symm
      subst this
      exact h h4
    · refine n_aload_n hC dX2_findChild_21 rfl rfl ?_
      refine n_goto (tgt := 26) hC dX2_findChild_22 (by decide) ?_
      refine n_aret hC (by first | exact Or.inl rfl | exact Or.inr ⟨_, rfl⟩) dX2_findChild_26 ?_
      rw [e1] at h
      exact ⟨Or.inl ⟨r, hr, rfl, h, rfl⟩, rfl⟩
  · first | refine n_astore_n hC dX2_findChild_5 rfl (Nat.le_of_ble_eq_true rfl) ?_ | refine n_astore_nN hC dX2_findChild_5 rfl (Nat.le_of_ble_eq_true rfl) ?_
    refine n_aload_nN hC dX2_findChild_6 rfl rfl ?_
    first | refine n_ifnull hC dX2_findChild_7 ?_ | refine n_ifnullN (tgt := 25) hC dX2_findChild_7 (by decide) ?_
    refine n_null hC dX2_findChild_25 ?_
    refine n_aret hC (by first | exact Or.inl rfl | exact Or.inr ⟨_, rfl⟩) dX2_findChild_26 ?_
    refine ⟨Or.inr ⟨fun z => ?_, rfl⟩, rfl⟩
    obtain ⟨r2, h2, h3, h4⟩ := z
    refine hx ⟨?_, ?_⟩
    · rw [h3]; exact nI_le (a := 1) (by omega) (by omega)
    · rw [h3]; exact nI_le (b := 12) (by omega) (by omega)
theorem c_leastFree (d : Nat) (M : n_M) (σ : n_S) (hM : RepC M σ) : n_Ct l (cw D ca ad ae Ex) d yX2_leastFree cX2_leastFree 2 (some (.object "ShareMonitor$UserProcess")) [.ref (ad 9 0)] σ (fun rv σ' => ((∃ q, (1 ≤ q ∧ q ≤ 12) ∧ M.1 0 q = 0 ∧ (∀ r, 1 ≤ r → r < q → M.1 0 r ≠ 0) ∧ rv = some (.ref (ad 21 q))) ∨ ((∀ r, 1 ≤ r → r ≤ 12 → M.1 0 r ≠ 0) ∧ rv = some .null)) ∧ σ' = σ) := by
  refine n_ofW (by decide) (Nat.le_of_ble_eq_true rfl) ?_
  intro p e s m below meth c hC
  have loop : ∀ (n k : Nat), n + k = 13 → 1 ≤ k → (∀ r, 1 ≤ r → r < k → M.1 0 r ≠ 0) →
      n_W p l e s m [Value.ref (ad 9 0)].toArray below meth c (cw D ca ad ae Ex) d (fun rv σ' => ((∃ q, (1 ≤ q ∧ q ≤ 12) ∧ M.1 0 q = 0 ∧ (∀ r, 1 ≤ r → r < q → M.1 0 r ≠ 0) ∧ rv = some (.ref (ad 21 q))) ∨ ((∀ r, 1 ≤ r → r ≤ 12 → M.1 0 r ≠ 0) ∧ rv = some .null)) ∧ σ' = σ) 2 [some (.ref (ad 9 0)), some (.int (nI k))] [] σ := by
    intro n
    induction n with
    | zero =>
      intro k hk hk1 hf
      have : k = 13 := by omega
      subst this
      refine n_iload_n hC dX2_leastFree_2 rfl rfl ?_
      refine n_bipush (v := 12) hC dX2_leastFree_3 (by decide) ?_
      refine n_icmp_gt (tgt := 33) hC dX2_leastFree_5 (by decide) (fun h => ?_) (fun h => ?_)
      · refine n_null hC dX2_leastFree_33 ?_
        refine n_aret hC (by first | exact Or.inl rfl | exact Or.inr ⟨_, rfl⟩) dX2_leastFree_34 ?_
        exact ⟨Or.inr ⟨fun r a b => hf r a (by omega), rfl⟩, rfl⟩
      · exact absurd (by decide) h
    | succ n ih =>
      intro k hk hk1 hf
      have hq : 1 ≤ k ∧ k ≤ 12 := ⟨hk1, by omega⟩
      have hd : cw_dom 21 k := hq
      have e1 : σ 21 k 7 = M.1 0 k := hM.1 0 k hq
      refine n_iload_n hC dX2_leastFree_2 rfl rfl ?_
      refine n_bipush (v := 12) hC dX2_leastFree_3 (by decide) ?_
      refine n_icmp_gt (tgt := 33) hC dX2_leastFree_5 (by decide) (fun h => ?_) (fun h => ?_)
      · exact absurd h (nI_nlt (a := 12) (by omega) (by decide))
      · clear h
        refine n_aload_n hC dX2_leastFree_8 rfl rfl ?_
        refine g9_processes hC (by first | assumption | exact rfl) wfX2_11 dX2_leastFree_9 ?_
        refine n_iload_n hC dX2_leastFree_12 rfl rfl ?_
        first | refine a_rows hC (by omega) dX2_leastFree_13 ?_ | refine a_queues hC (by omega) dX2_leastFree_13 ?_ | refine a_procs hC (by omega) dX2_leastFree_13 ?_ | refine a_progs hC (by omega) dX2_leastFree_13 ?_
        refine g21_status hC (by first | assumption | exact rfl) wfX2_66 dX2_leastFree_14 ?_
        refine n_if_ne (tgt := 27) hC dX2_leastFree_17 (by decide) (fun h => ?_) (fun h => ?_)
        · refine n_iinc hC dX2_leastFree_27 rfl (show _ + Int32.ofInt 1 = _ + 1 from rfl) ?_
          refine n_goto (tgt := 2) hC dX2_leastFree_30 (by decide) ?_
          rw [e1] at h
          rw [nI_1]
          refine ih (k + 1) (by omega) (by omega) (fun r a b => ?_)
          by_cases z : r = k
          · subst z; exact h
          · exact hf r a (by omega)
        · refine n_aload_n hC dX2_leastFree_20 rfl rfl ?_
          refine g9_processes hC (by first | assumption | exact rfl) wfX2_11 dX2_leastFree_21 ?_
          refine n_iload_n hC dX2_leastFree_24 rfl rfl ?_
          first | refine a_rows hC (by omega) dX2_leastFree_25 ?_ | refine a_queues hC (by omega) dX2_leastFree_25 ?_ | refine a_procs hC (by omega) dX2_leastFree_25 ?_ | refine a_progs hC (by omega) dX2_leastFree_25 ?_
          refine n_aret hC (by first | exact Or.inl rfl | exact Or.inr ⟨_, rfl⟩) dX2_leastFree_26 ?_
          rw [e1] at h
          exact ⟨Or.inl ⟨k, hq, h, hf, rfl⟩, rfl⟩
  refine n_iconst (v := 1) hC dX2_leastFree_0 (by decide) ?_
  refine n_istore_n hC dX2_leastFree_1 rfl (Nat.le_of_ble_eq_true rfl) ?_
  exact loop 12 1 rfl (by omega) (fun r a b => by omega)
theorem c_spare (d : Nat) (M : n_M) (σ : n_S) (hM : RepC M σ) : n_Ct l (cw D ca ad ae Ex) d yX2_spareProgram cX2_spareProgram 2 (some (.object "ShareMonitor$Program")) [.ref (ad 9 0)] σ (fun rv σ' => ((∃ q, q < 12 ∧ M.1 12 q = 0 ∧ (∀ r, r < q → M.1 12 r ≠ 0) ∧ rv = some (.ref (ad 28 q))) ∨ ((∀ r, r < 12 → M.1 12 r ≠ 0) ∧ rv = some .null)) ∧ σ' = σ) := by
  refine n_ofW (by decide) (Nat.le_of_ble_eq_true rfl) ?_
  intro p e s m below meth c hC
  have loop : ∀ (n k : Nat), n + k = 12 → (∀ r, r < k → M.1 12 r ≠ 0) →
      n_W p l e s m [Value.ref (ad 9 0)].toArray below meth c (cw D ca ad ae Ex) d (fun rv σ' => ((∃ q, q < 12 ∧ M.1 12 q = 0 ∧ (∀ r, r < q → M.1 12 r ≠ 0) ∧ rv = some (.ref (ad 28 q))) ∨ ((∀ r, r < 12 → M.1 12 r ≠ 0) ∧ rv = some .null)) ∧ σ' = σ) 2 [some (.ref (ad 9 0)), some (.int (nI k))] [] σ := by
    intro n
    induction n with
    | zero =>
      intro k hk hf
      have : k = 12 := by omega
      subst this
      refine n_iload_n hC dX2_spareProgram_2 rfl rfl ?_
      refine n_bipush (v := 12) hC dX2_spareProgram_3 (by decide) ?_
      refine n_icmp_ge (tgt := 33) hC dX2_spareProgram_5 (by decide) (fun h => ?_) (fun h => ?_)
      · refine n_null hC dX2_spareProgram_33 ?_
        refine n_aret hC (by first | exact Or.inl rfl | exact Or.inr ⟨_, rfl⟩) dX2_spareProgram_34 ?_
        exact ⟨Or.inr ⟨fun r a => hf r (by omega), rfl⟩, rfl⟩
      · exact absurd (by decide) h
    | succ n ih =>
      intro k hk hf
      have hq : k < 12 := by omega
      have hd : cw_dom 28 k := hq
      have e1 : σ 28 k 3 = M.1 12 k := hM.1 12 k hq
      refine n_iload_n hC dX2_spareProgram_2 rfl rfl ?_
      refine n_bipush (v := 12) hC dX2_spareProgram_3 (by decide) ?_
      refine n_icmp_ge (tgt := 33) hC dX2_spareProgram_5 (by decide) (fun h => ?_) (fun h => ?_)
      · exact absurd h (nI_ge (b := 12) (by omega) (by decide))
      · clear h
        refine n_aload_n hC dX2_spareProgram_8 rfl rfl ?_
        refine g9_programs hC (by first | assumption | exact rfl) wfX2_19 dX2_spareProgram_9 ?_
        refine n_iload_n hC dX2_spareProgram_12 rfl rfl ?_
        first | refine a_rows hC (by omega) dX2_spareProgram_13 ?_ | refine a_queues hC (by omega) dX2_spareProgram_13 ?_ | refine a_procs hC (by omega) dX2_spareProgram_13 ?_ | refine a_progs hC (by omega) dX2_spareProgram_13 ?_
        refine g28_users hC (by first | assumption | exact rfl) wfX2_69 dX2_spareProgram_14 ?_
        refine n_if_ne (tgt := 27) hC dX2_spareProgram_17 (by decide) (fun h => ?_) (fun h => ?_)
        · refine n_iinc hC dX2_spareProgram_27 rfl (show _ + Int32.ofInt 1 = _ + 1 from rfl) ?_
          refine n_goto (tgt := 2) hC dX2_spareProgram_30 (by decide) ?_
          rw [e1] at h
          rw [nI_1]
          refine ih (k + 1) (by omega) (fun r a => ?_)
          by_cases z : r = k
          · subst z; exact h
          · exact hf r (by omega)
        · refine n_aload_n hC dX2_spareProgram_20 rfl rfl ?_
          refine g9_programs hC (by first | assumption | exact rfl) wfX2_19 dX2_spareProgram_21 ?_
          refine n_iload_n hC dX2_spareProgram_24 rfl rfl ?_
          first | refine a_rows hC (by omega) dX2_spareProgram_25 ?_ | refine a_queues hC (by omega) dX2_spareProgram_25 ?_ | refine a_procs hC (by omega) dX2_spareProgram_25 ?_ | refine a_progs hC (by omega) dX2_spareProgram_25 ?_
          refine n_aret hC (by first | exact Or.inl rfl | exact Or.inr ⟨_, rfl⟩) dX2_spareProgram_26 ?_
          rw [e1] at h
          exact ⟨Or.inl ⟨k, hq, h, hf, rfl⟩, rfl⟩
  refine n_iconst (v := 0) hC dX2_spareProgram_0 (by decide) ?_
  refine n_istore_n hC dX2_spareProgram_1 rfl (Nat.le_of_ble_eq_true rfl) ?_
  exact loop 12 0 rfl (fun r a => by omega)
theorem c_makeReady (d q : Nat) (M : n_M) (σ : n_S) (hM : RepC M σ) (hq : 1 ≤ q ∧ q ≤ 12) (hlv : m_lvok M q) (hl : (M.2 5 (m_lv M q)).length < 12) : n_Ct l (cw D ca ad ae Ex) (d + 1) yX2_makeReady cX2_makeReady 2 none [.ref (ad 9 0), .ref (ad 21 q)] σ (fun rv σ' => rv = none ∧ RepC (m_rdy M q) σ') := by
  obtain ⟨r, hr, hlv⟩ := hlv
  have hlr := m_lv_i hr hlv
  rw [hlr] at hl
  refine n_ofW (by decide) (Nat.le_of_ble_eq_true rfl) ?_
  intro p e s m below meth c hC
  have hd : cw_dom 21 q := hq
  have hM1 := cu_8 (v := 0) (cu_7 (v := 0) (cu_0 (v := 1) hM hq) hq) hq
  refine n_aload_n hC dX2_makeReady_0 rfl rfl ?_
  refine n_iconst (v := 1) hC dX2_makeReady_1 (by decide) ?_
  refine p21_status hC (by first | assumption | exact rfl) wfX2_66 dX2_makeReady_2 ?_
  refine n_aload_n hC dX2_makeReady_5 rfl rfl ?_
  refine n_iconst (v := 0) hC dX2_makeReady_6 (by decide) ?_
  refine p21_awaited hC (by first | assumption | exact rfl) wfX2_83 dX2_makeReady_7 ?_
  refine n_aload_n hC dX2_makeReady_10 rfl rfl ?_
  refine n_iconst (v := 0) hC dX2_makeReady_11 (by decide) ?_
  refine p21_streak hC (by first | assumption | exact rfl) wfX2_86 dX2_makeReady_12 ?_
  refine n_aload_n hC dX2_makeReady_15 rfl rfl ?_
  refine g9_rows hC (by first | assumption | exact rfl) wfX2_25 dX2_makeReady_16 ?_
  refine n_aload_n hC dX2_makeReady_19 rfl rfl ?_
  refine g21_level hC (by first | assumption | exact rfl) wfX2_76 dX2_makeReady_20 ?_
  rw [n_up_k, if_neg (by omega), n_up_k, if_neg (by omega), n_up_k, if_neg (by omega), show σ 21 q 9 = M.1 2 q from hM.1 2 q hq, hlv]
  first | refine a_rows hC (by omega) dX2_makeReady_23 ?_ | refine a_queues hC (by omega) dX2_makeReady_23 ?_ | refine a_procs hC (by omega) dX2_makeReady_23 ?_ | refine a_progs hC (by omega) dX2_makeReady_23 ?_
  refine n_aload_n hC dX2_makeReady_24 rfl rfl ?_
  refine g21_number hC (by first | assumption | exact rfl) wfX2_63 dX2_makeReady_25 ?_
  refine n_callV hC (c_join d r (nI q) _ _ hM1 (by omega) hl) (Nat.le_refl _) (by decide) (show r < 11 by omega) rfl rfl rfl ⟨wmX2_89, wi_yX7_join, wv_yX7_join, wzX7, wc_yX7_join⟩ hy_yX7_join rfl (Nat.le_of_ble_eq_true rfl) dX2_makeReady_28 (fun rv σ' hpo => ?_)
  obtain ⟨rfl, hM2⟩ := hpo
  refine n_vret hC dX2_makeReady_31 ?_
  refine ⟨rfl, ?_⟩
  unfold m_rdy
  rw [hlr]
  exact hM2
theorem c_putLast (d q : Nat) (a : Int32) (M : n_M) (σ : n_S) (hM : RepC M σ) (hq : 1 ≤ q ∧ q ≤ 12) (hlv : m_lvok M q) (ha : ∃ r, r < 3 ∧ a = nI r) (hl : ((m_s (m_out M (m_lv M q) q) 2 q a).2 5 a.toNatClampNeg).length < 12) : n_Ct l (cw D ca ad ae Ex) (d + 2) yX2_putLast cX2_putLast 3 none [.ref (ad 9 0), .ref (ad 21 q), .int a] σ (fun rv σ' => rv = none ∧ RepC (m_plast M q a) σ') := by
  obtain ⟨r, hr, hlv⟩ := hlv
  have hlr := m_lv_i hr hlv
  refine n_ofW (by decide) (Nat.le_of_ble_eq_true rfl) ?_
  intro p e s m below meth c hC
  have hd : cw_dom 21 q := hq
  refine n_aload_n hC dX2_putLast_0 rfl rfl ?_
  refine g9_rows hC (by first | assumption | exact rfl) wfX2_25 dX2_putLast_1 ?_
  refine n_aload_n hC dX2_putLast_4 rfl rfl ?_
  refine g21_level hC (by first | assumption | exact rfl) wfX2_76 dX2_putLast_5 ?_
  rw [show σ 21 q 9 = M.1 2 q from hM.1 2 q hq, hlv]
  first | refine a_rows hC (by omega) dX2_putLast_8 ?_ | refine a_queues hC (by omega) dX2_putLast_8 ?_ | refine a_procs hC (by omega) dX2_putLast_8 ?_ | refine a_progs hC (by omega) dX2_putLast_8 ?_
  refine n_aload_n hC dX2_putLast_9 rfl rfl ?_
  refine g21_number hC (by first | assumption | exact rfl) wfX2_63 dX2_putLast_10 ?_
  refine n_callV hC (c_leave (d + 1) r (nI q) _ _ hM (by omega)) (Nat.le_refl _) (by decide) (show r < 11 by omega) rfl rfl rfl ⟨wmX2_92, wi_yX7_leave, wv_yX7_leave, wzX7, wc_yX7_leave⟩ hy_yX7_leave rfl (Nat.le_of_ble_eq_true rfl) dX2_putLast_13 (fun rv σ' hpo => ?_)
  obtain ⟨rfl, hM2⟩ := hpo
  refine n_aload_n hC dX2_putLast_16 rfl rfl ?_
  refine n_iload_n hC dX2_putLast_17 rfl rfl ?_
  refine p21_level hC (by first | assumption | exact rfl) wfX2_76 dX2_putLast_18 ?_
  refine n_aload_n hC dX2_putLast_21 rfl rfl ?_
  refine n_aload_n hC dX2_putLast_22 rfl rfl ?_
  have hM3 := cu_2 (v := a) hM2 hq
  have e1 : (m_s (m_out M (m_lv M q) q) 2 q a).1 2 q = a := by simp [m_s]
  have e2 : m_lv (m_s (m_out M (m_lv M q) q) 2 q a) q = a.toNatClampNeg := by
    show ((m_s (m_out M (m_lv M q) q) 2 q a).1 2 q).toNatClampNeg = _
    rw [e1]
  refine n_callV hC (c_makeReady d q (m_s (m_out M (m_lv M q) q) 2 q a) _ (by unfold m_out; rw [hlr]; exact hM3) hq (by unfold m_lvok; rw [e1]; exact ha) (by rw [e2]; exact hl)) (by omega) (by decide) (by first | assumption | exact rfl) rfl rfl rfl ⟨wmX2_79, wi_yX2_makeReady, wv_yX2_makeReady, wzX2, wc_yX2_makeReady⟩ hy_yX2_makeReady rfl (Nat.le_of_ble_eq_true rfl) dX2_putLast_23 (fun rv σ' hpo => ?_)
  obtain ⟨rfl, hM4⟩ := hpo
  refine n_vret hC dX2_putLast_26 ?_
  exact ⟨rfl, hM4⟩
theorem c_suspend (d q : Nat) (st aw : Int32) (M : n_M) (σ : n_S) (hM : RepC M σ) (hq : 1 ≤ q ∧ q ≤ 12) (hlv : m_lvok M q) : n_Ct l (cw D ca ad ae Ex) (d + 1) yX2_suspend cX2_suspend 4 none [.ref (ad 9 0), .ref (ad 21 q), .int st, .int aw] σ (fun rv σ' => rv = none ∧ RepC (m_susp M q st aw) σ') := by
  obtain ⟨r, hr, hlv⟩ := hlv
  have hlr := m_lv_i hr hlv
  refine n_ofW (by decide) (Nat.le_of_ble_eq_true rfl) ?_
  intro p e s m below meth c hC
  have hd : cw_dom 21 q := hq
  refine n_aload_n hC dX2_suspend_0 rfl rfl ?_
  refine g9_rows hC (by first | assumption | exact rfl) wfX2_25 dX2_suspend_1 ?_
  refine n_aload_n hC dX2_suspend_4 rfl rfl ?_
  refine g21_level hC (by first | assumption | exact rfl) wfX2_76 dX2_suspend_5 ?_
  rw [show σ 21 q 9 = M.1 2 q from hM.1 2 q hq, hlv]
  first | refine a_rows hC (by omega) dX2_suspend_8 ?_ | refine a_queues hC (by omega) dX2_suspend_8 ?_ | refine a_procs hC (by omega) dX2_suspend_8 ?_ | refine a_progs hC (by omega) dX2_suspend_8 ?_
  refine n_aload_n hC dX2_suspend_9 rfl rfl ?_
  refine g21_number hC (by first | assumption | exact rfl) wfX2_63 dX2_suspend_10 ?_
  refine n_callV hC (c_leave d r (nI q) _ _ hM (by omega)) (Nat.le_refl _) (by decide) (show r < 11 by omega) rfl rfl rfl ⟨wmX2_92, wi_yX7_leave, wv_yX7_leave, wzX7, wc_yX7_leave⟩ hy_yX7_leave rfl (Nat.le_of_ble_eq_true rfl) dX2_suspend_13 (fun rv σ' hpo => ?_)
  obtain ⟨rfl, hM2⟩ := hpo
  refine n_aload_n hC dX2_suspend_16 rfl rfl ?_
  refine n_iload_n hC dX2_suspend_17 rfl rfl ?_
  refine p21_status hC (by first | assumption | exact rfl) wfX2_66 dX2_suspend_18 ?_
  refine n_aload_n hC dX2_suspend_21 rfl rfl ?_
  refine n_iload_n hC dX2_suspend_22 rfl rfl ?_
  refine p21_awaited hC (by first | assumption | exact rfl) wfX2_83 dX2_suspend_23 ?_
  refine n_aload_n hC dX2_suspend_26 rfl rfl ?_
  refine n_iconst (v := 0) hC dX2_suspend_27 (by decide) ?_
  refine p21_streak hC (by first | assumption | exact rfl) wfX2_86 dX2_suspend_28 ?_
  refine n_vret hC dX2_suspend_31 ?_
  refine ⟨rfl, ?_⟩
  unfold m_susp m_out
  rw [hlr]
  exact cu_8 (cu_7 (cu_0 hM2 hq) hq) hq
theorem c_taken (d q i : Nat) (a : Int32) (M : n_M) (σ : n_S) (hM : RepC M σ) (hq : 1 ≤ q ∧ q ≤ 12) (hi : i < 12) (ha : ∃ r, r < 3 ∧ a = nI r) (hl : (M.2 5 a.toNatClampNeg).length < 12) : n_Ct l (cw D ca ad ae Ex) (d + 2) yX2_taken cX2_taken 4 none [.ref (ad 9 0), .ref (ad 21 q), .ref (ad 28 i), .int a] σ (fun rv σ' => rv = none ∧ RepC (m_adm M q i a) σ') := by
  refine n_ofW (by decide) (Nat.le_of_ble_eq_true rfl) ?_
  intro p e s m below meth c hC
  have hd : cw_dom 21 q := hq
  have hd2 : cw_dom 28 i := hi
  refine n_aload_n hC dX2_taken_0 rfl rfl ?_
  refine n_aload_n hC dX2_taken_1 rfl rfl ?_
  refine p21_program hC (x := nI (i + 1)) (cw_pg_i ad hi).symm hd wfX2_72 dX2_taken_2 ?_
  have hM1 := cu_4 (v := nI (i + 1)) hM hq
  have e1 : n_up σ 21 q 11 (nI (i + 1)) 28 i 3 = M.1 12 i := hM1.1 12 i hi
  refine n_aload_n hC dX2_taken_5 rfl rfl ?_
  refine n_dup hC dX2_taken_6 rfl ?_
  refine g28_users hC (by first | assumption | exact rfl) wfX2_69 dX2_taken_7 ?_
  refine n_iconst (v := 1) hC dX2_taken_10 (by decide) ?_
  rw [e1]
  refine n_iadd hC dX2_taken_11 ?_
  refine p28_users hC (by first | assumption | exact rfl) wfX2_69 dX2_taken_12 ?_
  refine n_aload_n hC dX2_taken_15 rfl rfl ?_
  refine n_iload_n hC dX2_taken_16 rfl rfl ?_
  refine p21_level hC (by first | assumption | exact rfl) wfX2_76 dX2_taken_17 ?_
  refine n_aload_n hC dX2_taken_20 rfl rfl ?_
  refine n_aload_n hC dX2_taken_21 rfl rfl ?_
  have hM2 := cu_2 (v := a) (cu_12 (v := M.1 12 i + 1) hM1 hi) hq
  have e2 : (m_s (m_s (m_s M 4 q (nI (i + 1))) 12 i (M.1 12 i + 1)) 2 q a).1 2 q = a := by simp [m_s]
  refine n_callV hC (c_makeReady d q _ _ hM2 hq (by unfold m_lvok; rw [e2]; exact ha) (by unfold m_lv; rw [e2]; exact hl)) (by omega) (by decide) (by first | assumption | exact rfl) rfl rfl rfl ⟨wmX2_79, wi_yX2_makeReady, wv_yX2_makeReady, wzX2, wc_yX2_makeReady⟩ hy_yX2_makeReady rfl (Nat.le_of_ble_eq_true rfl) dX2_taken_22 (fun rv σ' hpo => ?_)
  obtain ⟨rfl, hM4⟩ := hpo
  refine n_vret hC dX2_taken_25 ?_
  exact ⟨rfl, hM4⟩
end DK1
