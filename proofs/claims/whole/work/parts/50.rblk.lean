def RB (ns : List Nat) (os : List Int32) (τ : n_S) : Prop := τ 0 0 48 = nI ns.length ∧ ∀ j, j < ns.length → τ 46 0 j = nI (ns.take j).sum ∧ τ 47 0 j = nI (ns.getD j 0) ∧ τ 48 0 j = os.getD j 0
/-- only the rows of blocks differ -/
def r_bk (τ τ' : n_S) : Prop := ∀ κ x, κ ≠ 46 → κ ≠ 47 → κ ≠ 48 → ¬ (κ = 0 ∧ x = 48) → τ' κ 0 x = τ κ 0 x
theorem r_bk.refl (τ : n_S) : r_bk τ τ := fun _ _ _ _ _ _ => rfl
theorem r_bk.trans {τ τ' τ'' : n_S} (h : r_bk τ τ') (h2 : r_bk τ' τ'') : r_bk τ τ'' := fun κ x a b c d => (h2 κ x a b c d).trans (h κ x a b c d)
theorem r_bk.up {τ τ' : n_S} (h : r_bk τ τ') {κ x : Nat} {v : Int32} (hk : κ = 46 ∨ κ = 47 ∨ κ = 48 ∨ (κ = 0 ∧ x = 48)) : r_bk τ (n_up τ' κ 0 x v) := fun κ' x' a b c d => by
  rw [n_up_o (by omega)]
  exact h κ' x' a b c d
theorem getD_map_nI (ns : List Nat) (j : Nat) : (ns.map nI).getD j 0 = nI (ns.getD j 0) := by
  rw [List.getD_eq_getElem?_getD, List.getD_eq_getElem?_getD, List.getElem?_map]
  cases ns[j]? <;> rfl
theorem nsl_map {ns : List Nat} (h : ∀ x ∈ ns, x < 2 ^ 31) : (ns.map nI).map Int32.toNatClampNeg = ns := by
  rw [List.map_map]
  conv => rhs; rw [← List.map_id ns]
  refine List.map_congr_left (fun x hx => ?_)
  exact nI_clamp (h x hx)
theorem le_sum_mem {x : Nat} : ∀ {l : List Nat}, x ∈ l → x ≤ l.sum
  | a :: l, h => by
    rw [List.sum_cons]
    rcases List.mem_cons.mp h with h | h
    · omega
    · have := le_sum_mem h
      omega
theorem m_bw_lt {ns : List Nat} {os : List Int32} (h : m_bw ns os) : ∀ x ∈ ns, x < 2 ^ 31 := by
  intro x hx
  have := le_sum_mem hx
  rw [h.2.2] at this
  omega
theorem RY.rb {M : n_M} {τ : n_S} (h : RY M τ) (hB : IB M) : RB (m_nsl M) (M.2 11 0) τ := by
  obtain ⟨-, e10, -⟩ := hB
  obtain ⟨-, -, g3, g4⟩ := h
  have el : (M.2 10 0).length = (m_nsl M).length := by unfold m_nsl; rw [List.length_map]
  rw [el] at g3 g4
  refine ⟨g3, fun j hj => ?_⟩
  obtain ⟨a, b, c⟩ := g4 j hj
  refine ⟨a, ?_, c⟩
  rw [b, e10, getD_map_nI]
theorem RepC_g {M M' : n_M} {τ : n_S} (h : RepC M (r_v M τ)) (hS : ∀ c i, c ≠ 4 → c ≠ 11 → c ≠ 12 → c ≠ 13 → c ≠ 19 → M'.1 c i = M.1 c i) (hL : ∀ c i, c ≠ 10 → c ≠ 11 → M'.2 c i = M.2 c i) : RepC M' (r_v M' τ) := by
  refine ⟨fun c i hv => ?_, fun c i hv => ?_⟩
  · have h2 := h.1 c i hv
    have hc := m_vS_c hv
    simp only [List.mem_cons, List.not_mem_nil, or_false] at hc
    by_cases e : c = 4 ∨ c = 11 ∨ c = 12 ∨ c = 13 ∨ c = 19
    · rcases e with rfl | rfl | rfl | rfl | rfl
      · rfl
      · rfl
      · rfl
      · rfl
      · obtain rfl : i = 0 := hv
        rfl
    · rw [hS c i (by omega) (by omega) (by omega) (by omega) (by omega), ← h2]
      rcases hc with rfl | rfl | rfl | rfl | rfl | rfl | rfl | rfl | rfl | rfl | rfl | rfl | rfl | rfl | rfl | rfl | rfl | rfl | rfl <;> first | rfl | omega
  · obtain ⟨h1, h2, h3⟩ := h.2 c i hv
    have hc := m_vL_c hv
    simp only [List.mem_cons, List.not_mem_nil, or_false] at hc
    rw [hL c i (by omega) (by omega)]
    have e12 := hL 12 i (by omega) (by omega)
    have e13 := hL 13 i (by omega) (by omega)
    have e3 := hL 3 i (by omega) (by omega)
    refine ⟨h1, ?_, ?_⟩
    · rw [← h2]
      rcases hc with rfl | rfl | rfl | rfl | rfl | rfl | rfl | rfl | rfl <;> first | rfl | (simp only [cN, r_v]; rw [e12]; rfl)
    · intro j hj
      rw [← h3 j hj]
      rcases hc with rfl | rfl | rfl | rfl | rfl | rfl | rfl | rfl | rfl <;> first | rfl | (simp only [cA, r_v]; first | rw [e12] | rw [e13] | rw [e3])
theorem RepC_t {M : n_M} {τ τ' : n_S} (h : RepC M (r_v M τ)) (ht : r_bk τ τ') : RepC M (r_v M τ') := by
  have e : r_v M τ' = r_v M τ := by
    have g : ∀ κ x, κ ≠ 46 ∧ κ ≠ 47 ∧ κ ≠ 48 ∧ ¬ (κ = 0 ∧ x = 48) → τ' κ 0 x = τ κ 0 x := fun κ x hk => ht κ x hk.1 hk.2.1 hk.2.2.1 hk.2.2.2
    funext κ i k
    unfold r_v
    split
    all_goals first
      | rfl
      | exact g _ _ (by omega)
      | (unfold r_v1; split <;> first | rfl | exact g _ _ (by omega))
      | (split <;> first | rfl | exact g _ _ (by omega) | (unfold r_v9; split <;> first | rfl | exact g _ _ (by omega)) | (split <;> first | rfl | exact g _ _ (by omega)))
  rw [e]
  exact h
/-- the blocks' rows are written anew -/
theorem RQ.mem {τ0 τ τ' : n_S} {M : n_M} {ns : List Nat} {os : List Int32} (h : RQ τ0 M τ) (hb : m_bw ns os) (ht : r_bk τ τ') (hB : RB ns os τ') : RQ τ0 (m_mem M ns os) τ' := by
  obtain ⟨⟨h1, g1, g2, -, -⟩, f1, f2, f3⟩ := h
  refine ⟨⟨RepC_g (RepC_t h1 ht) (fun c i _ a _ b _ => m_mem_s ⟨a, b⟩) (fun c i a b => m_mem_l ⟨a, b⟩), ?_, ?_, ?_, ?_⟩, ?_, ?_, ?_⟩
  · intro p i hp hi e
    rw [ht 24 p (by omega) (by omega) (by omega) (by omega)]
    rw [m_mem_s (by omega)] at e
    exact g1 p i hp hi e
  · intro i hi hu
    rw [m_mem_s (by omega)] at hu
    rw [m_mem_l (by omega), m_mem_l (by omega), ht 10 i (by omega) (by omega) (by omega) (by omega)]
    refine ⟨(g2 i hi hu).1, fun j hj => ?_⟩
    rw [ht 8 _ (by omega) (by omega) (by omega) (by omega), ht 9 _ (by omega) (by omega) (by omega) (by omega)]
    exact (g2 i hi hu).2 j hj
  · have e : (m_mem M ns os).2 10 0 = ns.map nI := (m_isB_mem M hb).2.1
    rw [e, List.length_map]
    exact hB.1
  · have e : (m_mem M ns os).2 10 0 = ns.map nI := (m_isB_mem M hb).2.1
    have e2 : (m_mem M ns os).2 11 0 = os := (m_isB_mem M hb).2.2.1
    intro j hj
    rw [e, List.length_map] at hj
    obtain ⟨a, b, c⟩ := hB.2 j hj
    refine ⟨?_, ?_, ?_⟩
    · unfold m_nsl
      rw [e, nsl_map (m_bw_lt hb)]
      exact a
    · rw [e, getD_map_nI]
      exact b
    · rw [e2]
      exact c
  · intro x
    rw [ht 11 x (by omega) (by omega) (by omega) (by omega)]
    exact f1 x
  · rw [ht 0 52 (by omega) (by omega) (by omega) (by omega)]
    exact f2
  · rw [ht 0 2 (by omega) (by omega) (by omega) (by omega)]
    exact f3
theorem getD_snoc_l {α : Type} (l : List α) (x d : α) {j : Nat} (h : j < l.length) : (l ++ [x]).getD j d = l.getD j d := by
  rw [List.getD_eq_getElem?_getD, List.getD_eq_getElem?_getD, List.getElem?_append_left h]
theorem getD_snoc_e {α : Type} (l : List α) (x d : α) : (l ++ [x]).getD l.length d = x := by
  simp
/-- one more block taken -/
theorem m_mgs_snoc : ∀ (ns : List Nat) (os : List Int32) (n : Nat) (o : Int32) (P : List Nat × List Int32), ns.length = os.length → m_mgs (ns ++ [n]) (os ++ [o]) P = m_mg (m_mgs ns os P) n o
  | [], [], _, _, _, _ => rfl
  | [], _ :: _, _, _, _, e => by simp at e
  | _ :: _, [], _, _, _, e => by simp at e
  | a :: ns, b :: os, n, o, P, e => by
    show m_mgs (ns ++ [n]) (os ++ [o]) (m_mg P a b) = m_mg (m_mgs ns os (m_mg P a b)) n o
    exact m_mgs_snoc ns os n o (m_mg P a b) (by simpa using e)
theorem take1_nat {ns : List Nat} {k : Nat} (hk : k < ns.length) : ns.take (k + 1) = ns.take k ++ [ns.getD k 0] := by
  rw [List.take_succ, List.getElem?_eq_getElem hk, List.getD_eq_getElem?_getD, List.getElem?_eq_getElem hk]; rfl
/-- joinBlocks at its head: the first to + 1 places hold what is joined, those from k on what was there -/
def r_jb (ns : List Nat) (os : List Int32) (k t : Nat) (τ : n_S) : Prop :=
  ∃ (A : List Nat) (B : List Int32) (b : Nat) (o : Int32), m_mgs (ns.take k) (os.take k) ([], []) = (A ++ [b], B ++ [o]) ∧ A.length = t ∧ B.length = t ∧ t < k ∧ A.sum + b = (ns.take k).sum ∧
    (∀ j, j < t → τ 46 0 j = nI (A.take j).sum ∧ τ 47 0 j = nI (A.getD j 0) ∧ τ 48 0 j = B.getD j 0) ∧ (τ 46 0 t = nI A.sum ∧ τ 47 0 t = nI b ∧ τ 48 0 t = o) ∧
    ∀ j, k ≤ j → j < ns.length → τ 46 0 j = nI (ns.take j).sum ∧ τ 47 0 j = nI (ns.getD j 0) ∧ τ 48 0 j = os.getD j 0
section RB1
variable {l : Launch} {D : va_G} {ca : Nat → ClassId} {ad : Nat → Nat → Nat} {Ex : State → Heap → Prop}
set_option maxHeartbeats 1000000 in
theorem x_joinBlocks (d : Nat) (ns : List Nat) (os : List Int32) (τ : n_S) (hb : m_bw ns os) (hB : RB ns os τ) : n_Ct l (rw D ca ad Ex) d yX12_joinBlocks cX12_joinBlocks 3 none [.ref (ad 0 0)] τ (fun rv τ' => rv = none ∧ r_bk τ τ' ∧ RB (m_mgs ns os ([], [])).1 (m_mgs ns os ([], [])).2 τ') := by
  obtain ⟨b1, b2, b3⟩ := hb
  have hlen : ns.length ≤ 1024 := by
    have : ∀ l : List Nat, (∀ x ∈ l, 1 ≤ x) → l.length ≤ l.sum := by
      intro l
      induction l with
      | nil => intro _; simp
      | cons a l ih =>
        intro h
        have h1 := h a (by simp)
        have h2 := ih (fun x hx => h x (by simp [hx]))
        simp
        omega
    have := this ns b2
    omega
  have hpos : 1 ≤ ns.length := by
    rcases Nat.eq_zero_or_pos ns.length with z | z
    · rw [List.length_eq_zero_iff.mp z] at b3
      simp at b3
    · exact z
  refine n_ofW (by decide) (Nat.le_of_ble_eq_true rfl) ?_
  intro p e s m below meth c hC
  have loop : ∀ (n k t : Nat) (τ1 : n_S), n + k = ns.length → r_bk τ τ1 → τ1 0 0 48 = nI ns.length → r_jb ns os k t τ1 →
      n_W p l e s m [Value.ref (ad 0 0)].toArray below meth c (rw D ca ad Ex) d (fun rv τ' => rv = none ∧ r_bk τ τ' ∧ RB (m_mgs ns os ([], [])).1 (m_mgs ns os ([], [])).2 τ') 4 [some (.ref (ad 0 0)), some (.int (nI t)), some (.int (nI k))] [] τ1 := by
    intro n
    induction n with
    | zero =>
      intro k t τ1 hn hk h48 hj
      obtain ⟨A, B, b, o, hm, hA, hB2, htk, hsum, f1, ⟨f2, f3, f4⟩, -⟩ := hj
      have ek : k = ns.length := by omega
      rw [ek, List.take_length, show os.take ns.length = os from by rw [b1, List.take_length]] at hm
      refine n_iload_n hC dX12_joinBlocks_4 rfl rfl ?_
      refine n_aload_n hC dX12_joinBlocks_5 rfl rfl ?_
      refine gm_blocks hC wfX12_221 dX12_joinBlocks_6 ?_
      rw [h48]
      refine n_icmp_ge (tgt := 93) hC dX12_joinBlocks_9 (by decide) (fun h => ?_) (fun h => ?_)
      · refine n_aload_n hC dX12_joinBlocks_93 rfl rfl ?_
        refine n_iload_n hC dX12_joinBlocks_94 rfl rfl ?_
        refine n_iconst (v := 1) hC dX12_joinBlocks_95 (by decide) ?_
        refine n_iadd hC dX12_joinBlocks_96 ?_
        rw [nI_1]
        refine pm_blocks hC wfX12_221 dX12_joinBlocks_97 ?_
        refine n_vret hC dX12_joinBlocks_100 ?_
        refine ⟨rfl, hk.up (by omega), ?_⟩
        rw [hm]
        refine ⟨by rw [n_up_e, List.length_append]; simp [hA], fun j hj => ?_⟩
        rw [n_up_o (by omega), n_up_o (by omega), n_up_o (by omega)]
        have hj : j < (A ++ [b]).length := hj
        rw [List.length_append] at hj
        have hj : j < A.length + 1 := hj
        show τ1 46 0 j = nI ((A ++ [b]).take j).sum ∧ τ1 47 0 j = nI ((A ++ [b]).getD j 0) ∧ τ1 48 0 j = (B ++ [o]).getD j 0
        by_cases e : j < A.length
        · rw [List.take_append_of_le_length (by omega), getD_snoc_l _ _ _ e, getD_snoc_l _ _ _ (by omega)]
          exact f1 j (by omega)
        · have e : j = t := by omega
          subst e
          rw [List.take_append_of_le_length (by omega), show A.take j = A from by rw [← hA, List.take_length]]
          refine ⟨f2, ?_, ?_⟩
          · rw [f3, ← hA, getD_snoc_e]
          · rw [f4, ← hB2, getD_snoc_e]
      · rw [ek] at h
        exact absurd (Int32.le_refl _) h
    | succ n ih =>
      intro k t τ1 hn hk h48 hj
      obtain ⟨A, B, b, o, hm, hA, hB2, htk, hsum, f1, ⟨f2, f3, f4⟩, f5⟩ := hj
      have hkl : k < ns.length := by omega
      obtain ⟨w1, w2, w3⟩ := f5 k (Nat.le_refl _) hkl
      have hm2 : m_mgs (ns.take (k + 1)) (os.take (k + 1)) ([], []) = m_mg (A ++ [b], B ++ [o]) (ns.getD k 0) (os.getD k 0) := by
        rw [take1_nat hkl, n_take1 (by omega : k < os.length), m_mgs_snoc _ _ _ _ _ (by rw [List.length_take, List.length_take]; omega), hm]
      have hsum2 : (ns.take (k + 1)).sum = A.sum + b + ns.getD k 0 := by
        rw [take1_nat hkl, List.sum_append, ← hsum]; simp
      refine n_iload_n hC dX12_joinBlocks_4 rfl rfl ?_
      refine n_aload_n hC dX12_joinBlocks_5 rfl rfl ?_
      refine gm_blocks hC wfX12_221 dX12_joinBlocks_6 ?_
      rw [h48]
      refine n_icmp_ge (tgt := 93) hC dX12_joinBlocks_9 (by decide) (fun h => ?_) (fun h => ?_)
      · exact absurd h (nI_ge hkl (by omega))
      · clear h
        have step : (¬ (o = 0 ∧ os.getD k 0 = 0)) → n_W p l e s m [Value.ref (ad 0 0)].toArray below meth c (rw D ca ad Ex) d (fun rv τ' => rv = none ∧ r_bk τ τ' ∧ RB (m_mgs ns os ([], [])).1 (m_mgs ns os ([], [])).2 τ') 48 [some (.ref (ad 0 0)), some (.int (nI t)), some (.int (nI k))] [] τ1 := by
          intro hno
          have hm3 : m_mg (A ++ [b], B ++ [o]) (ns.getD k 0) (os.getD k 0) = (A ++ [b] ++ [ns.getD k 0], B ++ [o] ++ [os.getD k 0]) := by
            unfold m_mg
            rw [if_neg]
            intro z
            have z2 : o = 0 := by simpa using z.2
            exact hno ⟨z2, z.1⟩
          refine n_iinc hC dX12_joinBlocks_48 rfl (show _ + Int32.ofInt 1 = _ + 1 from rfl) ?_
          rw [nI_1]
          refine n_aload_n hC dX12_joinBlocks_51 rfl rfl ?_
          refine gm_blockAt hC wfX12_212 dX12_joinBlocks_52 ?_
          refine n_iload_n hC dX12_joinBlocks_55 rfl rfl ?_
          refine n_aload_n hC dX12_joinBlocks_56 rfl rfl ?_
          refine gm_blockAt hC wfX12_212 dX12_joinBlocks_57 ?_
          refine n_iload_n hC dX12_joinBlocks_60 rfl rfl ?_
          first | refine r_ld hC rfl (fun _ => rfl) (by decide) (by first | omega | with_reducible assumption) dX12_joinBlocks_61 ?_ | refine r_needs hC (by first | exact vp_in_nI (by omega) (by decide) | with_reducible assumption) dX12_joinBlocks_61 ?_
          rw [w1]
          refine r_st hC rfl (fun _ h => h) (fun _ => rfl) (by decide) (by first | omega | with_reducible assumption) dX12_joinBlocks_62 ?_
          refine n_aload_n hC dX12_joinBlocks_63 rfl rfl ?_
          refine gm_blockSize hC wfX12_215 dX12_joinBlocks_64 ?_
          refine n_iload_n hC dX12_joinBlocks_67 rfl rfl ?_
          refine n_aload_n hC dX12_joinBlocks_68 rfl rfl ?_
          refine gm_blockSize hC wfX12_215 dX12_joinBlocks_69 ?_
          refine n_iload_n hC dX12_joinBlocks_72 rfl rfl ?_
          first | refine r_ld hC rfl (fun _ => rfl) (by decide) (by first | omega | with_reducible assumption) dX12_joinBlocks_73 ?_ | refine r_needs hC (by first | exact vp_in_nI (by omega) (by decide) | with_reducible assumption) dX12_joinBlocks_73 ?_
          rw [n_up_o (by omega), w2]
          refine r_st hC rfl (fun _ h => h) (fun _ => rfl) (by decide) (by first | omega | with_reducible assumption) dX12_joinBlocks_74 ?_
          refine n_aload_n hC dX12_joinBlocks_75 rfl rfl ?_
          refine gm_blockOf hC wfX12_218 dX12_joinBlocks_76 ?_
          refine n_iload_n hC dX12_joinBlocks_79 rfl rfl ?_
          refine n_aload_n hC dX12_joinBlocks_80 rfl rfl ?_
          refine gm_blockOf hC wfX12_218 dX12_joinBlocks_81 ?_
          refine n_iload_n hC dX12_joinBlocks_84 rfl rfl ?_
          first | refine r_ld hC rfl (fun _ => rfl) (by decide) (by first | omega | with_reducible assumption) dX12_joinBlocks_85 ?_ | refine r_needs hC (by first | exact vp_in_nI (by omega) (by decide) | with_reducible assumption) dX12_joinBlocks_85 ?_
          rw [n_up_o (by omega), n_up_o (by omega), w3]
          refine r_st hC rfl (fun _ h => h) (fun _ => rfl) (by decide) (by first | omega | with_reducible assumption) dX12_joinBlocks_86 ?_
          refine n_iinc hC dX12_joinBlocks_87 rfl (show _ + Int32.ofInt 1 = _ + 1 from rfl) ?_
          refine n_goto (tgt := 4) hC dX12_joinBlocks_90 (by decide) ?_
          rw [nI_1]
          refine ih (k + 1) (t + 1) _ (by omega) (((hk.up (by omega)).up (by omega)).up (by omega)) ?_ ⟨A ++ [b], B ++ [o], ns.getD k 0, os.getD k 0, hm2.trans hm3, by simp [hA], by simp [hB2], by omega, by rw [hsum2, List.sum_append]; simp, fun j hj => ?_, ⟨?_, ?_, ?_⟩, fun j h1 h2 => ?_⟩
          · rw [n_up_o (by omega), n_up_o (by omega), n_up_o (by omega)]
            exact h48
          · rw [n_up_o (by omega), n_up_o (by omega), n_up_o (by omega), n_up_o (by omega), n_up_o (by omega), n_up_o (by omega), n_up_o (by omega), n_up_o (by omega), n_up_o (by omega)]
            by_cases e : j < t
            · rw [List.take_append_of_le_length (by omega), getD_snoc_l _ _ _ (by omega), getD_snoc_l _ _ _ (by omega)]
              exact f1 j e
            · have e : j = t := by omega
              subst e
              rw [List.take_append_of_le_length (by omega), show A.take j = A from by rw [← hA, List.take_length]]
              refine ⟨f2, ?_, ?_⟩
              · rw [f3, ← hA, getD_snoc_e]
              · rw [f4, ← hB2, getD_snoc_e]
          · rw [n_up_o (by omega), n_up_o (by omega), n_up_e, List.sum_append, ← hsum]; simp
          · rw [n_up_o (by omega), n_up_e]
          · rw [n_up_e]
          · rw [n_up_o (by omega), n_up_o (by omega), n_up_o (by omega), n_up_o (by omega), n_up_o (by omega), n_up_o (by omega), n_up_o (by omega), n_up_o (by omega), n_up_o (by omega)]
            exact f5 j (by omega) h2
        refine n_aload_n hC dX12_joinBlocks_12 rfl rfl ?_
        refine gm_blockOf hC wfX12_218 dX12_joinBlocks_13 ?_
        refine n_iload_n hC dX12_joinBlocks_16 rfl rfl ?_
        first | refine r_ld hC rfl (fun _ => rfl) (by decide) (by first | omega | with_reducible assumption) dX12_joinBlocks_17 ?_ | refine r_needs hC (by first | exact vp_in_nI (by omega) (by decide) | with_reducible assumption) dX12_joinBlocks_17 ?_
        rw [f4]
        refine n_if_ne (tgt := 48) hC dX12_joinBlocks_18 (by decide) (fun h => ?_) (fun h => ?_)
        · exact step (fun z => h z.1)
        · have ho := h
          clear h
          refine n_aload_n hC dX12_joinBlocks_21 rfl rfl ?_
          refine gm_blockOf hC wfX12_218 dX12_joinBlocks_22 ?_
          refine n_iload_n hC dX12_joinBlocks_25 rfl rfl ?_
          first | refine r_ld hC rfl (fun _ => rfl) (by decide) (by first | omega | with_reducible assumption) dX12_joinBlocks_26 ?_ | refine r_needs hC (by first | exact vp_in_nI (by omega) (by decide) | with_reducible assumption) dX12_joinBlocks_26 ?_
          rw [w3]
          refine n_if_ne (tgt := 48) hC dX12_joinBlocks_27 (by decide) (fun h => ?_) (fun h => ?_)
          · exact step (fun z => h z.2)
          · refine n_aload_n hC dX12_joinBlocks_30 rfl rfl ?_
            refine gm_blockSize hC wfX12_215 dX12_joinBlocks_31 ?_
            refine n_iload_n hC dX12_joinBlocks_34 rfl rfl ?_
            refine n_dup2_11 hC dX12_joinBlocks_35 rfl rfl ?_
            first | refine r_ld hC rfl (fun _ => rfl) (by decide) (by first | omega | with_reducible assumption) dX12_joinBlocks_36 ?_ | refine r_needs hC (by first | exact vp_in_nI (by omega) (by decide) | with_reducible assumption) dX12_joinBlocks_36 ?_
            refine n_aload_n hC dX12_joinBlocks_37 rfl rfl ?_
            refine gm_blockSize hC wfX12_215 dX12_joinBlocks_38 ?_
            refine n_iload_n hC dX12_joinBlocks_41 rfl rfl ?_
            first | refine r_ld hC rfl (fun _ => rfl) (by decide) (by first | omega | with_reducible assumption) dX12_joinBlocks_42 ?_ | refine r_needs hC (by first | exact vp_in_nI (by omega) (by decide) | with_reducible assumption) dX12_joinBlocks_42 ?_
            rw [f3, w2]
            refine n_iadd hC dX12_joinBlocks_43 ?_
            rw [nI_add]
            refine r_st hC rfl (fun _ h => h) (fun _ => rfl) (by decide) (by first | omega | with_reducible assumption) dX12_joinBlocks_44 ?_
            refine n_goto (tgt := 87) hC dX12_joinBlocks_45 (by decide) ?_
            refine n_iinc hC dX12_joinBlocks_87 rfl (show _ + Int32.ofInt 1 = _ + 1 from rfl) ?_
            refine n_goto (tgt := 4) hC dX12_joinBlocks_90 (by decide) ?_
            rw [nI_1]
            have hm3 : m_mg (A ++ [b], B ++ [o]) (ns.getD k 0) (os.getD k 0) = (A ++ [b + ns.getD k 0], B ++ [o]) := by
              unfold m_mg
              rw [if_pos ⟨h, by simp [ho]⟩]
              simp
            refine ih (k + 1) t _ (by omega) (hk.up (by omega)) ?_ ⟨A, B, b + ns.getD k 0, o, hm2.trans hm3, hA, hB2, by omega, by rw [hsum2]; omega, fun j hj => ?_, ⟨?_, ?_, ?_⟩, fun j h1 h2 => ?_⟩
            · rw [n_up_o (by omega)]
              exact h48
            · rw [n_up_o (by omega), n_up_o (by omega), n_up_o (by omega)]
              exact f1 j hj
            · rw [n_up_o (by omega)]; exact f2
            · rw [n_up_e]
            · rw [n_up_o (by omega)]; exact f4
            · rw [n_up_o (by omega), n_up_o (by omega), n_up_o (by omega)]
              exact f5 j (by omega) h2
  refine n_iconst (v := 0) hC dX12_joinBlocks_0 (by decide) ?_
  refine n_istore_n hC dX12_joinBlocks_1 rfl (Nat.le_of_ble_eq_true rfl) ?_
  refine n_iconst (v := 1) hC dX12_joinBlocks_2 (by decide) ?_
  refine n_istore_n hC dX12_joinBlocks_3 rfl (Nat.le_of_ble_eq_true rfl) ?_
  obtain ⟨w1, w2, w3⟩ := hB.2 0 (by omega)
  refine loop (ns.length - 1) 1 0 τ (by omega) (r_bk.refl τ) hB.1 ⟨[], [], ns.getD 0 0, os.getD 0 0, ?_, rfl, rfl, by omega, ?_, fun j hj => by omega, ⟨w1, w2, w3⟩, fun j h1 h2 => hB.2 j h2⟩
  · cases ns with
    | nil => simp at hpos
    | cons a ns =>
      cases os with
      | nil => simp at b1
      | cons b os => simp [m_mgs, m_mg]
  · cases ns with
    | nil => simp at hpos
    | cons a ns => simp
end RB1
