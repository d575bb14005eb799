theorem hs_app : ∀ (pn xs : List Nat) (po xo : List Int32) (k : Nat), pn.length = po.length → m_hs (pn ++ xs) (po ++ xo) k = if k < pn.sum then m_hs pn po k else m_hs xs xo (k - pn.sum)
  | [], xs, po, xo, k, h => by
    have : po = [] := List.eq_nil_of_length_eq_zero (by simpa using h.symm)
    subst this
    simp
  | n :: pn, xs, [], xo, k, h => by simp at h
  | n :: pn, xs, o :: po, xo, k, h => by
    have ih := hs_app pn xs po xo (k - n) (by simpa using h)
    rw [List.cons_append, List.cons_append, List.sum_cons]
    simp only [m_hs]
    by_cases h1 : k < n
    · rw [if_pos h1, if_pos (by omega), if_pos h1]
    · rw [if_neg h1, ih, if_neg h1]
      by_cases h2 : k - n < pn.sum
      · rw [if_pos h2, if_pos (by omega)]
      · rw [if_neg h2, if_neg (by omega), Nat.sub_sub]
theorem sz_app : ∀ (pn xs : List Nat) (k : Nat), (∀ n ∈ pn, 1 ≤ n) → m_sz (pn ++ xs) k = if k < pn.sum then m_sz pn k else m_sz xs (k - pn.sum)
  | [], xs, k, _ => by simp
  | n :: pn, xs, k, h => by
    have hn := h n List.mem_cons_self
    have ih := sz_app pn xs (k - n) (fun x hx => h x (List.mem_cons_of_mem _ hx))
    rw [List.cons_append, List.sum_cons]
    simp only [m_sz]
    by_cases h0 : k = 0
    · rw [if_pos h0, if_pos (by omega), if_pos h0]
    · rw [if_neg h0, if_neg h0]
      by_cases h1 : k < n
      · rw [if_pos h1, if_pos (by omega), if_pos h1]
      · rw [if_neg h1, ih, if_neg h1]
        by_cases h2 : k - n < pn.sum
        · rw [if_pos h2, if_pos (by omega)]
        · rw [if_neg h2, if_neg (by omega), Nat.sub_sub]
theorem m_dec {α : Type} (l : List α) (d : α) {j : Nat} (hj : j < l.length) : l = l.take j ++ l.getD j d :: l.drop (j + 1) := by
  have h1 : l.drop j = l.getD j d :: l.drop (j + 1) := by
    rw [List.drop_eq_getElem_cons hj, List.getD_eq_getElem?_getD, List.getElem?_eq_getElem hj]
    rfl
  rw [← h1, List.take_append_drop]
def m_xn (ns : List Nat) (j n : Nat) : List Nat := if ns.getD j 0 = n then ns else ns.take j ++ n :: (ns.getD j 0 - n) :: ns.drop (j + 1)
def m_xo (ns : List Nat) (os : List Int32) (j n : Nat) (h : Int32) : List Int32 := if ns.getD j 0 = n then os.take j ++ h :: os.drop (j + 1) else os.take j ++ h :: os.getD j 0 :: os.drop (j + 1)
theorem m_xbw {ns : List Nat} {os : List Int32} (hb : m_bw ns os) {j n : Nat} (hj : j < ns.length) (h1 : 1 ≤ n) (h2 : n ≤ ns.getD j 0) (h : Int32) : m_bw (m_xn ns j n) (m_xo ns os j n h) := by
  obtain ⟨b1, b2, b3⟩ := hb
  have hd := m_dec ns 0 hj
  unfold m_xn m_xo
  by_cases q : ns.getD j 0 = n
  · rw [if_pos q, if_pos q]
    refine ⟨?_, b2, b3⟩
    simp
    omega
  · rw [if_neg q, if_neg q]
    refine ⟨by simp; omega, fun x hx => ?_, ?_⟩
    · rcases List.mem_append.mp hx with z | z
      · exact b2 x (List.mem_of_mem_take z)
      · rcases List.mem_cons.mp z with rfl | z
        · exact h1
        · rcases List.mem_cons.mp z with rfl | z
          · omega
          · exact b2 x (List.mem_of_mem_drop z)
    · have : ns.sum = (ns.take j).sum + (ns.getD j 0 + (ns.drop (j + 1)).sum) := by
        conv => lhs; rw [hd]
        simp
      simp
      rw [← List.getD_eq_getElem?_getD]
      omega
theorem m_xhs {ns : List Nat} {os : List Int32} (hb : m_bw ns os) {j n : Nat} (hj : j < ns.length) (h1 : 1 ≤ n) (h2 : n ≤ ns.getD j 0) (h : Int32) (k : Nat) : m_hs (m_xn ns j n) (m_xo ns os j n h) k = if (ns.take j).sum ≤ k ∧ k < (ns.take j).sum + n then h else m_hs ns os k := by
  obtain ⟨b1, b2, b3⟩ := hb
  have hl : (ns.take j).length = (os.take j).length := by simp; omega
  have e0 : m_hs ns os k = if k < (ns.take j).sum then m_hs (ns.take j) (os.take j) k else m_hs (ns.getD j 0 :: ns.drop (j + 1)) (os.getD j 0 :: os.drop (j + 1)) (k - (ns.take j).sum) := by
    conv => lhs; rw [m_dec ns 0 hj, m_dec os 0 (show j < os.length by omega)]
    exact hs_app _ _ _ _ k hl
  rw [e0]
  unfold m_xn m_xo
  by_cases q : ns.getD j 0 = n
  · rw [if_pos q, if_pos q]
    conv => lhs; rw [m_dec ns 0 hj]
    rw [hs_app _ _ _ _ k hl]
    by_cases z : k < (ns.take j).sum
    · rw [if_pos z, if_neg (by omega), if_pos z]
    · rw [if_neg z, if_neg z]
      simp only [m_hs]
      by_cases y : k - (ns.take j).sum < ns.getD j 0
      · rw [if_pos y, if_pos (by omega)]
      · rw [if_neg y, if_neg (by omega), if_neg y]
  · rw [if_neg q, if_neg q, hs_app _ _ _ _ k hl]
    by_cases z : k < (ns.take j).sum
    · rw [if_pos z, if_neg (by omega), if_pos z]
    · rw [if_neg z, if_neg z]
      simp only [m_hs]
      repeat' split
      all_goals first | rfl | (exfalso; omega) | (congr 1; omega)
theorem m_xsz {ns : List Nat} {os : List Int32} (hb : m_bw ns os) {j n : Nat} (hj : j < ns.length) (h1 : 1 ≤ n) (h2 : n ≤ ns.getD j 0) (k : Nat) : m_sz (m_xn ns j n) k = if k = (ns.take j).sum then n else if k = (ns.take j).sum + n ∧ n < ns.getD j 0 then ns.getD j 0 - n else m_sz ns k := by
  obtain ⟨b1, b2, b3⟩ := hb
  have hp : ∀ x ∈ ns.take j, 1 ≤ x := fun x hx => b2 x (List.mem_of_mem_take hx)
  have e0 : m_sz ns k = if k < (ns.take j).sum then m_sz (ns.take j) k else m_sz (ns.getD j 0 :: ns.drop (j + 1)) (k - (ns.take j).sum) := by
    conv => lhs; rw [m_dec ns 0 hj]
    exact sz_app _ _ k hp
  rw [e0]
  unfold m_xn
  by_cases q : ns.getD j 0 = n
  · rw [if_pos q, e0]
    by_cases z : k < (ns.take j).sum
    · rw [if_pos z, if_neg (by omega), if_neg (by omega)]
    · rw [if_neg z]
      by_cases y : k = (ns.take j).sum
      · rw [if_pos y]
        simp only [m_sz]
        rw [if_pos (by omega), q]
      · rw [if_neg y, if_neg (by omega)]
  · rw [if_neg q, sz_app _ _ k hp]
    by_cases z : k < (ns.take j).sum
    · rw [if_pos z, if_neg (by omega), if_neg (by omega), if_pos z]
    · rw [if_neg z, if_neg z]
      simp only [m_sz]
      repeat' split
      all_goals first | rfl | (exfalso; omega) | (congr 1; omega) | omega
set_option maxHeartbeats 4000000 in
theorem cm_0 {M : n_M} {σ σ' : n_S} {ns : List Nat} {os : List Int32} (h : RepC M σ) (hs : ∀ κ i k, ¬ (κ = 17 ∧ i = 0) → ¬ (κ = 18 ∧ i = 0) → σ' κ i k = σ κ i k) (h1 : ∀ k, k < 1024 → σ' 17 0 k = m_hs ns os k) (h2 : ∀ k, k < 1024 → σ' 18 0 k = nI (m_sz ns k)) : RepC (m_mem M ns os) σ' := by
  refine ⟨fun c' i' hv => ?_, fun c' i' hv => ?_⟩
  · have h3 := h.1 c' i' hv
    have hc := m_vS_c hv
    simp only [List.mem_cons, List.not_mem_nil, or_false] at hc
    rcases hc with rfl | rfl | rfl | rfl | rfl | rfl | rfl | rfl | rfl | rfl | rfl | rfl | rfl | rfl | rfl | rfl | rfl | rfl | rfl <;> simp only [cS, m_vS] at * <;> simp_all [m_mem]
  · have h3 := h.2 c' i' hv
    have hc := m_vL_c hv
    simp only [List.mem_cons, List.not_mem_nil, or_false] at hc
    rcases hc with rfl | rfl | rfl | rfl | rfl | rfl | rfl | rfl | rfl <;> simp only [cN, cA, m_vL] at * <;> simp_all [m_mem, n_h]
def m_cut (M : n_M) (ns : List Nat) (os : List Int32) (j n : Nat) (h : Int32) : n_M := m_fl (m_mem M (m_xn ns j n) (m_xo ns os j n h)) 10 (ns.take j).sum ((ns.take j).sum + n) 0
section ME2
variable {l : Launch} {D : va_G} {ca : Nat → ClassId} {ad : Nat → Nat → Nat} {ae : Nat → Nat} {Ex : State → Heap → Prop}
theorem c_cut (d j n : Nat) (o : Int32) (ns : List Nat) (os : List Int32) (M : n_M) (σ : n_S) (hM : RepC M σ) (hB : m_isB M ns os) (hj : j < ns.length) (h1 : 1 ≤ n) (h2 : n ≤ ns.getD j 0) : n_Ct l (cw D ca ad ae Ex) (d + 2) yX3_cut cX3_cut 6 none [.ref (ad 15 0), .int (nI (ns.take j).sum), .int (nI n), .int o] σ (fun rv σ' => rv = none ∧ RepC (m_cut M ns os j n o) σ') := by
  refine n_ofW (by decide) (Nat.le_of_ble_eq_true rfl) ?_
  intro p e s m below meth c hC
  obtain ⟨k1, k2, k3, k4⟩ := m_blk hM hB hj
  have hbw := hB.1
  have e1 : (nI (ns.take j).sum).toNatClampNeg = (ns.take j).sum := nI_clamp (by omega)
  have fin : ∀ σ1 : n_S, (∀ κ i k, ¬ (κ = 18 ∧ i = 0) → σ1 κ i k = σ κ i k) → (∀ k, k < 1024 → upd (σ1 18 0) (ns.take j).sum (nI n) k = nI (m_sz (m_xn ns j n) k)) → n_W p l e s m [Value.ref (ad 15 0), Value.int (nI (ns.take j).sum), Value.int (nI n), Value.int o].toArray below meth c (cw D ca ad ae Ex) (d + 2) (fun rv σ' => rv = none ∧ RepC (m_cut M ns os j n o) σ') 37 [some (.ref (ad 15 0)), some (.int (nI (ns.take j).sum)), some (.int (nI n)), some (.int o), some (.int (nI ((ns.take j).sum + n))), some (.int (nI (ns.getD j 0 - n)))] [] σ1 := by
    intro σ1 f1 f2
    refine n_aload_n hC dX3_cut_37 rfl rfl ?_
    refine g15_sizes hC (by first | assumption | exact rfl) wfX3_18 dX3_cut_38 ?_
    refine n_iload_n hC dX3_cut_41 rfl rfl ?_
    refine n_iload_n hC dX3_cut_42 rfl rfl ?_
    refine c_iast hC (by first | assumption | exact rfl) (fun _ => rfl) (by first | assumption | exact vp_in_nI (by omega) (by decide)) dX3_cut_43 ?_
    refine n_iload hC dX3_cut_44 rfl ?_
    refine n_sipush (v := 1024) hC dX3_cut_46 (by decide) ?_
    refine n_icmp_gt (tgt := 74) hC dX3_cut_49 (by decide) (fun h => ?_) (fun h => ?_)
    · exact absurd h (nI_nlt (b := (ns.take j).sum + n) (a := 1024) (by omega) (by decide))
    · clear h
      rw [e1]
      refine n_aload_n hC dX3_cut_52 rfl rfl ?_
      refine g15_cells hC (by first | assumption | exact rfl) wfX3_9 dX3_cut_53 ?_
      refine n_iload_n hC dX3_cut_56 rfl rfl ?_
      refine n_iload hC dX3_cut_57 rfl ?_
      refine n_iconst (v := 0) hC dX3_cut_59 (by decide) ?_
      refine n_callS hC (c_fill d 16 (ns.take j).sum ((ns.take j).sum + n) 1024 0 _ rfl (fun _ => rfl) (by omega) (by omega) (by decide)) (Nat.le_refl _) (by decide) ⟨wmX3_31, ws_yJ7_fill_fda19, wzJ7, wc_yJ7_fill_fda19⟩ hy_yJ7_fill_fda19 rfl (Nat.le_of_ble_eq_true rfl) dX3_cut_60 (fun rv σ' hpo => ?_)
      obtain ⟨rfl, f3⟩ := hpo
      refine n_aload_n hC dX3_cut_63 rfl rfl ?_
      refine g15_holders hC (by first | assumption | exact rfl) wfX3_15 dX3_cut_64 ?_
      refine n_iload_n hC dX3_cut_67 rfl rfl ?_
      refine n_iload hC dX3_cut_68 rfl ?_
      refine n_iload_n hC dX3_cut_70 rfl rfl ?_
      refine n_callS hC (c_fill d 17 (ns.take j).sum ((ns.take j).sum + n) 1024 o _ rfl (fun _ => rfl) (by omega) (by omega) (by decide)) (Nat.le_refl _) (by decide) ⟨wmX3_31, ws_yJ7_fill_fda19, wzJ7, wc_yJ7_fill_fda19⟩ hy_yJ7_fill_fda19 rfl (Nat.le_of_ble_eq_true rfl) dX3_cut_71 (fun rv σ' hpo => ?_)
      obtain ⟨rfl, f4⟩ := hpo
      rename_i σ2
      refine n_vret hC dX3_cut_74 ?_
      refine ⟨rfl, ?_⟩
      have hM0 : RepC M σ := hM
      unfold m_cut
      refine cf_10 (σ := fun κ i k => if κ = 16 ∧ i = 0 then σ 16 0 k else σ' κ i k) (cm_0 hM (fun κ i k a b => ?_) (fun k hk => ?_) (fun k hk => ?_)) (fun κ i k => ?_)
      · by_cases z : κ = 16 ∧ i = 0
        · rw [if_pos z, z.1, z.2]
        · rw [if_neg z, f4, if_neg (by omega), f3, if_neg (by omega), n_up_k, if_neg (by omega)]
          exact f1 κ i k b
      · show (if (17 : Nat) = 16 ∧ (0 : Nat) = 0 then _ else σ' 17 0 k) = _
        rw [if_neg (by omega), f4, m_xhs hbw hj h1 h2]
        by_cases z : (ns.take j).sum ≤ k ∧ k < (ns.take j).sum + n
        · rw [if_pos ⟨rfl, rfl, z⟩, if_pos z]
        · rw [if_neg (fun y => z y.2.2), if_neg z, f3, if_neg (by omega), n_up_k, if_neg (by omega), f1 17 0 k (by omega)]
          rw [show σ 17 0 k = M.1 11 k from hM.1 11 k hk]
          exact hB.2.2.2.1 k hk
      · show (if (18 : Nat) = 16 ∧ (0 : Nat) = 0 then _ else σ' 18 0 k) = _
        rw [if_neg (by omega), f4, if_neg (by omega), f3, if_neg (by omega), ← f2 k hk]
        rw [n_up_at]
      · show σ' κ i k = _
        by_cases z : κ = 16 ∧ i = 0
        · obtain ⟨rfl, rfl⟩ := z
          rw [f4, if_neg (by omega), f3]
          by_cases w : (ns.take j).sum ≤ k ∧ k < (ns.take j).sum + n
          · rw [if_pos ⟨rfl, rfl, w⟩, if_pos ⟨rfl, rfl, w⟩]
          · rw [if_neg (fun y => w y.2.2), if_neg (fun y => w y.2.2), n_up_k, if_neg (by omega), f1 16 0 k (by omega)]
            simp
        · rw [if_neg (fun y => z ⟨y.1, y.2.1⟩)]
          simp only [if_neg z]
  have hsz : ∀ k, k < 1024 → σ 18 0 k = nI (m_sz ns k) := fun k hk => by
    rw [show σ 18 0 k = M.1 13 k from hM.1 13 k hk]
    exact hB.2.2.2.2 k hk
  refine n_iload_n hC dX3_cut_0 rfl rfl ?_
  refine n_iload_n hC dX3_cut_1 rfl rfl ?_
  refine n_iadd hC dX3_cut_2 ?_
  refine n_istore hC dX3_cut_3 (Nat.le_of_ble_eq_true rfl) ?_
  refine n_aload_n hC dX3_cut_5 rfl rfl ?_
  refine g15_sizes hC (by first | assumption | exact rfl) wfX3_18 dX3_cut_6 ?_
  refine n_iload_n hC dX3_cut_9 rfl rfl ?_
  refine c_iald hC (by first | assumption | exact rfl) (fun _ => rfl) (by first | assumption | exact vp_in_nI (by omega) (by decide)) dX3_cut_10 ?_
  rw [e1, k3, nI_add]
  refine n_iload_n hC dX3_cut_11 rfl rfl ?_
  refine n_isub hC dX3_cut_12 ?_
  rw [pk_sub h2]
  refine n_istore hC dX3_cut_13 (Nat.le_of_ble_eq_true rfl) ?_
  refine n_iload hC dX3_cut_15 rfl ?_
  refine n_sipush (v := 1024) hC dX3_cut_17 (by decide) ?_
  refine n_icmp_ge (tgt := 37) hC dX3_cut_20 (by decide) (fun h => ?_) (fun h => ?_)
  · have hn : ns.getD j 0 = n := by
      have := (nI_leI (a := 1024) (by decide) (by omega)).mp h
      omega
    refine fin σ (fun _ _ _ _ => rfl) (fun k hk => ?_)
    rw [m_xsz hbw hj h1 h2]
    simp only [upd]
    by_cases z : k = (ns.take j).sum
    · rw [if_pos z, if_pos z]
    · rw [if_neg z, if_neg z, if_neg (by omega)]
      exact hsz k hk
  · clear h
    refine n_iload hC dX3_cut_23 rfl ?_
    refine n_if_le (tgt := 37) hC dX3_cut_25 (by decide) (fun h => ?_) (fun h => ?_)
    · have hn : ns.getD j 0 = n := by
        have := (nI_leI (b := 0) (by omega) (by decide)).mp h
        omega
      refine fin σ (fun _ _ _ _ => rfl) (fun k hk => ?_)
      rw [m_xsz hbw hj h1 h2]
      simp only [upd]
      by_cases z : k = (ns.take j).sum
      · rw [if_pos z, if_pos z]
      · rw [if_neg z, if_neg z, if_neg (by omega)]
        exact hsz k hk
    · have hn : n < ns.getD j 0 := by
        refine Nat.lt_of_not_le fun q => h ?_
        rw [show ns.getD j 0 - n = 0 by omega]
        exact Int32.le_refl _
      clear h
      have e2 : (nI ((ns.take j).sum + n)).toNatClampNeg = (ns.take j).sum + n := nI_clamp (by omega)
      refine n_aload_n hC dX3_cut_28 rfl rfl ?_
      refine g15_sizes hC (by first | assumption | exact rfl) wfX3_18 dX3_cut_29 ?_
      refine n_iload hC dX3_cut_32 rfl ?_
      refine n_iload hC dX3_cut_34 rfl ?_
      refine c_iast hC (by first | assumption | exact rfl) (fun _ => rfl) (by first | assumption | exact vp_in_nI (by omega) (by decide)) dX3_cut_36 ?_
      rw [e2]
      refine fin _ (fun κ i k a => by rw [n_up_k, if_neg (by omega)]) (fun k hk => ?_)
      rw [m_xsz hbw hj h1 h2, n_up_at]
      simp only [upd]
      by_cases z : k = (ns.take j).sum
      · rw [if_pos z, if_pos z]
      · rw [if_neg z, if_neg z]
        by_cases y : k = (ns.take j).sum + n
        · rw [if_pos y, if_pos ⟨y, hn⟩]
        · rw [if_neg y, if_neg (fun w => y w.1)]
          exact hsz k hk
def m_fst (ns : List Nat) (os : List Int32) (n j : Nat) : Prop := j < ns.length ∧ os.getD j 0 = 0 ∧ n ≤ ns.getD j 0 ∧ ∀ i, i < j → ¬ (os.getD i 0 = 0 ∧ n ≤ ns.getD i 0)
def m_non (ns : List Nat) (os : List Int32) (n : Nat) : Prop := ∀ i, i < ns.length → ¬ (os.getD i 0 = 0 ∧ n ≤ ns.getD i 0)
theorem c_take (d : Nat) (x o : Int32) (ns : List Nat) (os : List Int32) (M : n_M) (σ : n_S) (hM : RepC M σ) (hB : m_isB M ns os) : n_Ct l (cw D ca ad ae Ex) (d + 3) yX3_take cX3_take 4 (some .int) [.ref (ad 15 0), .int x, .int o] σ (fun rv σ' => (∃ n j, (1 ≤ n ∧ n ≤ 1024) ∧ x = nI n ∧ m_fst ns os n j ∧ rv = some (.int (nI (ns.take j).sum)) ∧ RepC (m_cut M ns os j n o) σ') ∨ ((∀ n, (1 ≤ n ∧ n ≤ 1024) → x = nI n → m_non ns os n) ∧ rv = some (.int (-1)) ∧ RepC M σ')) := by
  refine n_ofW (by decide) (Nat.le_of_ble_eq_true rfl) ?_
  intro p e s m below meth c hC
  have hbw := hB.1
  have bad : ¬ (1 ≤ x ∧ x ≤ 1024) → ∀ n, (1 ≤ n ∧ n ≤ 1024) → x = nI n → m_non ns os n := by
    intro hx n hn e
    refine absurd ?_ hx
    rw [e]
    exact ⟨nI_le (a := 1) hn.1 (by omega), nI_le (b := 1024) hn.2 (by decide)⟩
  refine n_iload_n hC dX3_take_0 rfl rfl ?_
  refine n_iconst (v := 1) hC dX3_take_1 (by decide) ?_
  refine n_icmp_lt (tgt := 12) hC dX3_take_2 (by decide) (fun h => ?_) (fun h => ?_)
  · refine n_iconst (v := -1) hC dX3_take_12 (by decide) ?_
    refine n_iret hC dX3_take_13 ?_
    exact Or.inr ⟨bad (fun z => absurd z.1 (Int32.not_le.mpr h)), rfl, hM⟩
  · have h0 := h
    clear h
    refine n_iload_n hC dX3_take_5 rfl rfl ?_
    refine n_sipush (v := 1024) hC dX3_take_6 (by decide) ?_
    refine n_icmp_le (tgt := 14) hC dX3_take_9 (by decide) (fun h => ?_) (fun h => ?_)
    · have hx0 : ¬ x < 0 := fun z => h0 (Int32.lt_trans z (by decide))
      obtain ⟨n, hn, rfl⟩ := nI_of2 (M := 1024) (n := 1024) (by decide) hx0 h
      have hn1 : 1 ≤ n := Nat.le_of_not_lt fun z => h0 (nI_lt (b := 1) z (by decide))
      clear h h0 hx0 bad
      have loop : ∀ (t j : Nat), t + j = ns.length → (∀ i, i < j → ¬ (os.getD i 0 = 0 ∧ n ≤ ns.getD i 0)) →
          n_W p l e s m [Value.ref (ad 15 0), Value.int (nI n), Value.int o].toArray below meth c (cw D ca ad ae Ex) (d + 3) (fun rv σ' => (∃ n' j, (1 ≤ n' ∧ n' ≤ 1024) ∧ nI n = nI n' ∧ m_fst ns os n' j ∧ rv = some (.int (nI (ns.take j).sum)) ∧ RepC (m_cut M ns os j n' o) σ') ∨ ((∀ n', (1 ≤ n' ∧ n' ≤ 1024) → nI n = nI n' → m_non ns os n') ∧ rv = some (.int (-1)) ∧ RepC M σ')) 16 [some (.ref (ad 15 0)), some (.int (nI n)), some (.int o), some (.int (nI (ns.take j).sum))] [] σ := by
        intro t
        induction t with
        | zero =>
          intro j hj hf
          have : j = ns.length := by omega
          subst this
          rw [m_at_end hbw]
          refine n_iload_n hC dX3_take_16 rfl rfl ?_
          refine n_sipush (v := 1024) hC dX3_take_17 (by decide) ?_
          refine n_icmp_ge (tgt := 67) hC dX3_take_20 (by decide) (fun h => ?_) (fun h => ?_)
          · refine n_iconst (v := -1) hC dX3_take_67 (by decide) ?_
            refine n_iret hC dX3_take_68 ?_
            refine Or.inr ⟨fun n' hn' e i hi => ?_, rfl, hM⟩
            have : n = n' := (nI_eq (by omega) (by omega)).mp e
            subst this
            exact hf i hi
          · exact absurd (by decide) h
        | succ t ih =>
          intro j hj hf
          have hjl : j < ns.length := by omega
          obtain ⟨k1, k2, k3, k4⟩ := m_blk hM hB hjl
          have e1 : (nI (ns.take j).sum).toNatClampNeg = (ns.take j).sum := nI_clamp (by omega)
          have next : ¬ (os.getD j 0 = 0 ∧ n ≤ ns.getD j 0) → n_W p l e s m [Value.ref (ad 15 0), Value.int (nI n), Value.int o].toArray below meth c (cw D ca ad ae Ex) (d + 3) (fun rv σ' => (∃ n' j, (1 ≤ n' ∧ n' ≤ 1024) ∧ nI n = nI n' ∧ m_fst ns os n' j ∧ rv = some (.int (nI (ns.take j).sum)) ∧ RepC (m_cut M ns os j n' o) σ') ∨ ((∀ n', (1 ≤ n' ∧ n' ≤ 1024) → nI n = nI n' → m_non ns os n') ∧ rv = some (.int (-1)) ∧ RepC M σ')) 51 [some (.ref (ad 15 0)), some (.int (nI n)), some (.int o), some (.int (nI (ns.take j).sum))] [] σ := by
            intro hno
            refine n_iload_n hC dX3_take_51 rfl rfl ?_
            refine n_aload_n hC dX3_take_52 rfl rfl ?_
            refine g15_sizes hC (by first | assumption | exact rfl) wfX3_18 dX3_take_53 ?_
            refine n_iload_n hC dX3_take_56 rfl rfl ?_
            refine c_iald hC (by first | assumption | exact rfl) (fun _ => rfl) (by first | assumption | exact vp_in_nI (by omega) (by decide)) dX3_take_57 ?_
            refine n_iconst (v := 1) hC dX3_take_58 (by decide) ?_
            rw [e1, k3]
            refine n_mmax hC wmX3_25 (Nat.le_of_ble_eq_true rfl) dX3_take_59 ?_
            rw [m_mx1 k2 (by omega)]
            refine n_iadd hC dX3_take_62 ?_
            refine n_istore_n hC dX3_take_63 rfl (Nat.le_of_ble_eq_true rfl) ?_
            refine n_goto (tgt := 16) hC dX3_take_64 (by decide) ?_
            rw [nI_add, ← m_tk1 hjl]
            refine ih (j + 1) (by omega) (fun i hi => ?_)
            by_cases z : i = j
            · subst z; exact hno
            · exact hf i (by omega)
          refine n_iload_n hC dX3_take_16 rfl rfl ?_
          refine n_sipush (v := 1024) hC dX3_take_17 (by decide) ?_
          refine n_icmp_ge (tgt := 67) hC dX3_take_20 (by decide) (fun h => ?_) (fun h => ?_)
          · exact absurd h (nI_ge (b := 1024) (by omega) (by decide))
          · clear h
            refine n_aload_n hC dX3_take_23 rfl rfl ?_
            refine g15_holders hC (by first | assumption | exact rfl) wfX3_15 dX3_take_24 ?_
            refine n_iload_n hC dX3_take_27 rfl rfl ?_
            refine c_iald hC (by first | assumption | exact rfl) (fun _ => rfl) (by first | assumption | exact vp_in_nI (by omega) (by decide)) dX3_take_28 ?_
            rw [e1, k4]
            refine n_if_ne (tgt := 51) hC dX3_take_29 (by decide) (fun h => ?_) (fun h => ?_)
            · exact next (fun z => h z.1)
            · have ho : os.getD j 0 = 0 := h
              clear h
              refine n_aload_n hC dX3_take_32 rfl rfl ?_
              refine g15_sizes hC (by first | assumption | exact rfl) wfX3_18 dX3_take_33 ?_
              refine n_iload_n hC dX3_take_36 rfl rfl ?_
              refine c_iald hC (by first | assumption | exact rfl) (fun _ => rfl) (by first | assumption | exact vp_in_nI (by omega) (by decide)) dX3_take_37 ?_
              rw [e1, k3]
              refine n_iload_n hC dX3_take_38 rfl rfl ?_
              refine n_icmp_lt (tgt := 51) hC dX3_take_39 (by decide) (fun h => ?_) (fun h => ?_)
              · exact next (fun z => absurd h (nI_nlt z.2 (by omega)))
              · have hnl : n ≤ ns.getD j 0 := Nat.le_of_not_lt fun q => h (nI_lt q (by omega))
                refine n_aload_n hC dX3_take_42 rfl rfl ?_
                refine n_iload_n hC dX3_take_43 rfl rfl ?_
                refine n_iload_n hC dX3_take_44 rfl rfl ?_
                refine n_iload_n hC dX3_take_45 rfl rfl ?_
                refine n_callV hC (c_cut d j n o ns os M σ hM hB hjl hn1 hnl) (by omega) (by decide) (by first | assumption | exact rfl) rfl rfl rfl ⟨wmX3_21, wi_yX3_cut, wv_yX3_cut, wzX3, wc_yX3_cut⟩ hy_yX3_cut rfl (Nat.le_of_ble_eq_true rfl) dX3_take_46 (fun rv σ' hpo => ?_)
                obtain ⟨rfl, hM2⟩ := hpo
                refine n_iload_n hC dX3_take_49 rfl rfl ?_
                refine n_iret hC dX3_take_50 ?_
                exact Or.inl ⟨n, j, ⟨hn1, hn⟩, rfl, ⟨hjl, ho, hnl, hf⟩, rfl, hM2⟩
      refine n_iconst (v := 0) hC dX3_take_14 (by decide) ?_
      refine n_istore_n hC dX3_take_15 rfl (Nat.le_of_ble_eq_true rfl) ?_
      exact loop ns.length 0 (by omega) (fun i hi => by omega)
    · refine n_iconst (v := -1) hC dX3_take_12 (by decide) ?_
      refine n_iret hC dX3_take_13 ?_
      exact Or.inr ⟨bad (fun z => absurd z.2 h), rfl, hM⟩
theorem c_hand (d j : Nat) (o : Int32) (ns : List Nat) (os : List Int32) (M : n_M) (σ : n_S) (hM : RepC M σ) (hB : m_isB M ns os) (hj : j < ns.length) : n_Ct l (cw D ca ad ae Ex) (d + 2) yX3_hand cX3_hand 4 none [.ref (ad 15 0), .int (nI (ns.take j).sum), .int o] σ (fun rv σ' => rv = none ∧ RepC (m_mem M ns (os.take j ++ o :: os.drop (j + 1))) σ') := by
  refine n_ofW (by decide) (Nat.le_of_ble_eq_true rfl) ?_
  intro p e s m below meth c hC
  obtain ⟨k1, k2, k3, k4⟩ := m_blk hM hB hj
  have hbw := hB.1
  have e1 : (nI (ns.take j).sum).toNatClampNeg = (ns.take j).sum := nI_clamp (by omega)
  refine n_iload_n hC dX3_hand_0 rfl rfl ?_
  refine n_if_lt (tgt := 40) hC dX3_hand_1 (by decide) (fun h => ?_) (fun h => ?_)
  · exact absurd h (nI_pos (by omega))
  · clear h
    refine n_iload_n hC dX3_hand_4 rfl rfl ?_
    refine n_sipush (v := 1024) hC dX3_hand_5 (by decide) ?_
    refine n_icmp_ge (tgt := 40) hC dX3_hand_8 (by decide) (fun h => ?_) (fun h => ?_)
    · exact absurd h (nI_ge (b := 1024) (by omega) (by decide))
    · clear h
      refine n_iload_n hC dX3_hand_11 rfl rfl ?_
      refine n_aload_n hC dX3_hand_12 rfl rfl ?_
      refine g15_sizes hC (by first | assumption | exact rfl) wfX3_18 dX3_hand_13 ?_
      refine n_iload_n hC dX3_hand_16 rfl rfl ?_
      refine c_iald hC (by first | assumption | exact rfl) (fun _ => rfl) (by first | assumption | exact vp_in_nI (by omega) (by decide)) dX3_hand_17 ?_
      refine n_iconst (v := 1) hC dX3_hand_18 (by decide) ?_
      rw [e1, k3]
      refine n_mmax hC wmX3_25 (Nat.le_of_ble_eq_true rfl) dX3_hand_19 ?_
      rw [m_mx1 k2 (by omega)]
      refine n_iadd hC dX3_hand_22 ?_
      refine n_sipush (v := 1024) hC dX3_hand_23 (by decide) ?_
      refine n_mmin hC wmX3_41 (Nat.le_of_ble_eq_true rfl) dX3_hand_26 ?_
      rw [nI_add, show (if (1024 : Int32) < nI ((ns.take j).sum + ns.getD j 0) then 1024 else nI ((ns.take j).sum + ns.getD j 0)) = nI ((ns.take j).sum + ns.getD j 0) from if_neg (nI_nlt (a := 1024) (by omega) (by decide))]
      refine n_istore_n hC dX3_hand_29 rfl (Nat.le_of_ble_eq_true rfl) ?_
      refine n_aload_n hC dX3_hand_30 rfl rfl ?_
      refine g15_holders hC (by first | assumption | exact rfl) wfX3_15 dX3_hand_31 ?_
      refine n_iload_n hC dX3_hand_34 rfl rfl ?_
      refine n_iload_n hC dX3_hand_35 rfl rfl ?_
      refine n_iload_n hC dX3_hand_36 rfl rfl ?_
      refine n_callS hC (c_fill d 17 (ns.take j).sum ((ns.take j).sum + ns.getD j 0) 1024 o _ rfl (fun _ => rfl) (by omega) (by omega) (by decide)) (by omega) (by decide) ⟨wmX3_31, ws_yJ7_fill_fda19, wzJ7, wc_yJ7_fill_fda19⟩ hy_yJ7_fill_fda19 rfl (Nat.le_of_ble_eq_true rfl) dX3_hand_37 (fun rv σ' hpo => ?_)
      obtain ⟨rfl, f3⟩ := hpo
      refine n_vret hC dX3_hand_40 ?_
      refine ⟨rfl, ?_⟩
      have x1 : m_xn ns j (ns.getD j 0) = ns := by unfold m_xn; rw [if_pos rfl]
      have x2 : m_xo ns os j (ns.getD j 0) o = os.take j ++ o :: os.drop (j + 1) := by unfold m_xo; rw [if_pos rfl]
      refine cm_0 hM (fun κ i k a b => ?_) (fun k hk => ?_) (fun k hk => ?_)
      · rw [f3, if_neg (by omega)]
      · have x3 := m_xhs hbw hj k2 (Nat.le_refl _) o k
        rw [x1, x2] at x3
        rw [f3, x3]
        by_cases z : (ns.take j).sum ≤ k ∧ k < (ns.take j).sum + ns.getD j 0
        · rw [if_pos ⟨rfl, rfl, z⟩, if_pos z]
        · rw [if_neg (fun y => z y.2.2), if_neg z, show σ 17 0 k = M.1 11 k from hM.1 11 k hk]
          exact hB.2.2.2.1 k hk
      · rw [f3, if_neg (by omega), show σ 18 0 k = M.1 13 k from hM.1 13 k hk]
        exact hB.2.2.2.2 k hk
end ME2
