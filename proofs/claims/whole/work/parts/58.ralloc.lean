theorem nI_dec {n : Nat} (h : 1 ≤ n) : nI n + -1 = nI (n - 1) := by
  rw [← nI_m1 h]
  grind
theorem xl_getD {α : Type} (l : List α) (j : Nat) (a b d : α) (hj : j < l.length) (x : Nat) : (l.take j ++ a :: b :: l.drop (j + 1)).getD x d = if x < j then l.getD x d else if x = j then a else if x = j + 1 then b else l.getD (x - 1) d := by
  have hl : (l.take j).length = j := by rw [List.length_take]; omega
  rw [List.getD_eq_getElem?_getD]
  rcases Nat.lt_trichotomy x j with h | h | h
  · rw [if_pos h, List.getElem?_append_left (by omega), List.getElem?_take_of_lt h, List.getD_eq_getElem?_getD]
  · rw [if_neg (by omega), if_pos h, List.getElem?_append_right (by omega), hl, h, Nat.sub_self]
    rfl
  · rw [if_neg (by omega), if_neg (by omega), List.getElem?_append_right (by omega), hl]
    by_cases e : x = j + 1
    · rw [if_pos e, show x - j = 1 by omega]
      rfl
    · rw [if_neg e, show x - j = (x - j - 2) + 2 by omega]
      show ((l.drop (j + 1))[x - j - 2]?).getD d = _
      rw [List.getElem?_drop, List.getD_eq_getElem?_getD, show j + 1 + (x - j - 2) = x - 1 by omega]
theorem xs_getD {α : Type} (l : List α) (j : Nat) (a d : α) (hj : j < l.length) (x : Nat) : (l.take j ++ a :: l.drop (j + 1)).getD x d = if x = j then a else l.getD x d := by
  have hl : (l.take j).length = j := by rw [List.length_take]; omega
  rw [List.getD_eq_getElem?_getD]
  rcases Nat.lt_trichotomy x j with h | h | h
  · rw [if_neg (by omega), List.getElem?_append_left (by omega), List.getElem?_take_of_lt h, List.getD_eq_getElem?_getD]
  · rw [if_pos h, List.getElem?_append_right (by omega), hl, h, Nat.sub_self]
    rfl
  · rw [if_neg (by omega), List.getElem?_append_right (by omega), hl, show x - j = (x - j - 1) + 1 by omega]
    show ((l.drop (j + 1))[x - j - 1]?).getD d = _
    rw [List.getElem?_drop, List.getD_eq_getElem?_getD, show j + 1 + (x - j - 1) = x by omega]
theorem xl_len {α : Type} (l : List α) (j : Nat) (a b : α) (hj : j < l.length) : (l.take j ++ a :: b :: l.drop (j + 1)).length = l.length + 1 := by
  simp only [List.length_append, List.length_take, List.length_cons, List.length_drop]
  omega
theorem xl_sum (ns : List Nat) (j n : Nat) (hj : j < ns.length) (hn : n ≤ ns.getD j 0) : ∀ x, x ≤ ns.length + 1 → ((ns.take j ++ n :: (ns.getD j 0 - n) :: ns.drop (j + 1)).take x).sum = if x ≤ j then (ns.take x).sum else if x = j + 1 then (ns.take j).sum + n else (ns.take (x - 1)).sum := by
  intro x
  induction x with
  | zero => intro _; rw [if_pos (by omega)]; simp
  | succ x ih =>
    intro hx
    rw [m_tk1 (by rw [xl_len _ _ _ _ hj]; omega), ih (by omega), xl_getD _ _ _ _ _ hj]
    rcases Nat.lt_trichotomy x j with h | h | h
    · rw [if_pos (by omega), if_pos h, if_pos (by omega), m_tk1 (by omega)]
    · rw [if_pos (by omega), if_neg (by omega), if_pos h, if_neg (by omega), if_pos (by omega), h]
    · rw [if_neg (show ¬ x ≤ j by omega), if_neg (show ¬ x < j by omega), if_neg (show ¬ x = j by omega), if_neg (show ¬ x + 1 ≤ j by omega), if_neg (show ¬ x + 1 = j + 1 by omega)]
      by_cases e : x = j + 1
      · rw [if_pos e, if_pos e, show x + 1 - 1 = j + 1 by omega, m_tk1 hj]
        omega
      · rw [if_neg e, if_neg e, show x + 1 - 1 = x - 1 + 1 by omega, m_tk1 (by omega)]
theorem fr_none (o : Int32) : ∀ (ns : List Nat) (os : List Int32) (a b : Nat), ns.length = os.length → b < a → a + ns.sum < 2 ^ 31 → m_fr o (nI b) ns os a = os
  | [], [], _, _, _, _, _ => rfl
  | [], _ :: _, _, _, e, _, _ => by simp at e
  | _ :: _, [], _, _, e, _, _ => by simp at e
  | n :: ns, y :: os, a, b, e, h, hs => by
    rw [List.sum_cons] at hs
    simp only [m_fr]
    rw [fr_none o ns os (a + n) b (by simpa using e) (by omega) (by omega), if_neg]
    rintro ⟨-, z | z⟩
    · have := (nI_eq (by omega) (by omega)).mp z
      omega
    · have h0 := nI_pos' (show b < 2 ^ 31 by omega)
      rw [z] at h0
      exact absurd h0 (by decide)
theorem fr_at (o : Int32) : ∀ (ns : List Nat) (os : List Int32) (a j : Nat), ns.length = os.length → (∀ n ∈ ns, 1 ≤ n) → j < ns.length → a + ns.sum < 2 ^ 31 → os.getD j 0 = o → m_fr o (nI (a + (ns.take j).sum)) ns os a = os.take j ++ 0 :: os.drop (j + 1)
  | [], _, _, _, _, _, h, _, _ => by simp at h
  | _ :: _, [], _, _, e, _, _, _, _ => by simp at e
  | n :: ns, y :: os, a, 0, e, hp, hj, hs, ho => by
    rw [List.sum_cons] at hs
    have := hp n (by simp)
    simp only [m_fr]
    rw [show a + ((n :: ns).take 0).sum = a by simp, fr_none o ns os (a + n) a (by simpa using e) (by omega) (by omega), if_pos ⟨by simpa using ho, Or.inl rfl⟩]
    simp
  | n :: ns, y :: os, a, j + 1, e, hp, hj, hs, ho => by
    rw [List.sum_cons] at hs
    have hn1 := hp n (by simp)
    have hle := m_tkle ns j
    simp only [m_fr]
    rw [show a + ((n :: ns).take (j + 1)).sum = (a + n) + (ns.take j).sum by rw [List.take_succ_cons, List.sum_cons]; omega]
    rw [fr_at o ns os (a + n) j (by simpa using e) (fun x hx => hp x (by simp [hx])) (by simpa using hj) (by omega) (by simpa using ho), if_neg]
    · simp
    · rintro ⟨-, z | z⟩
      · have := (nI_eq (by omega) (by omega)).mp z
        omega
      · have h0 := nI_pos' (show a + n + (ns.take j).sum < 2 ^ 31 by omega)
        rw [z] at h0
        exact absurd h0 (by decide)
theorem RB.own {ns : List Nat} {os : List Int32} {τ : n_S} {j : Nat} {o : Int32} (h : RB ns os τ) (hl : ns.length = os.length) (hj : j < ns.length) : RB ns (os.take j ++ o :: os.drop (j + 1)) (n_up τ 48 0 j o) := by
  refine ⟨(n_up_o (by omega)).trans h.1, fun x hx => ?_⟩
  obtain ⟨w1, w2, w3⟩ := h.2 x hx
  refine ⟨(n_up_o (by omega)).trans w1, (n_up_o (by omega)).trans w2, ?_⟩
  rw [xs_getD _ _ _ _ (by omega)]
  by_cases e : x = j
  · rw [if_pos e, e, n_up_e]
  · rw [if_neg e, n_up_o (by omega), w3]
theorem m_fl_0 (M : n_M) (c a : Nat) (v : Int32) : m_fl M c a (a + 0) v = M := by
  refine m_ext (fun x y => ?_) (fun x y => rfl)
  exact if_neg (by omega)
theorem m_fl_1 (M : n_M) (c a i : Nat) (v : Int32) : m_s (m_fl M c a (a + i) v) c (a + i) v = m_fl M c a (a + (i + 1)) v := by
  refine m_ext (fun x y => ?_) (fun x y => rfl)
  show (if x = c ∧ y = a + i then v else if x = c ∧ a ≤ y ∧ y < a + i then v else M.1 x y) = (if x = c ∧ a ≤ y ∧ y < a + (i + 1) then v else M.1 x y)
  by_cases z : x = c ∧ y = a + i
  · rw [if_pos z, if_pos (by omega)]
  · by_cases z2 : x = c ∧ a ≤ y ∧ y < a + i
    · rw [if_neg z, if_pos z2, if_pos (by omega)]
    · rw [if_neg z, if_neg z2, if_neg (by omega)]
section RAL
variable {l : Launch} {D : va_G} {ca : Nat → ClassId} {ad : Nat → Nat → Nat} {Ex : State → Heap → Prop}
theorem x_alloc1 (d q n : Nat) (τ0 : n_S) (M : n_M) (τ : n_S) (hM : RQ τ0 M τ) (hB : IB M) (hn : 1 ≤ n ∧ n ≤ 1024) : n_Ct l (rw D ca ad Ex) d yX12_allocate cX12_allocate 5 (some .int) [.ref (ad 0 0), .int (nI q), .int (nI n)] τ (fun rv τ' => (∃ n' j, (1 ≤ n' ∧ n' ≤ 1024) ∧ nI n = nI n' ∧ m_fst (m_nsl M) (M.2 11 0) n' j ∧ rv = some (.int (nI ((m_nsl M).take j).sum)) ∧ RQ τ0 (m_cut M (m_nsl M) (M.2 11 0) j n' (nI q)) τ') ∨ ((∀ n', (1 ≤ n' ∧ n' ≤ 1024) → nI n = nI n' → m_non (m_nsl M) (M.2 11 0) n') ∧ rv = some (.int (-1)) ∧ τ' = τ)) := by
  obtain ⟨hn1, hn2⟩ := hn
  obtain ⟨e48, hR⟩ := hM.rb hB
  have hlen := hB.len
  have hbw := hB.1
  obtain ⟨b1, b2, b3⟩ := hbw
  have hbw := hB.1
  refine n_ofW (by decide) (Nat.le_of_ble_eq_true rfl) ?_
  intro p e s m below meth c hC
  have tail : ∀ (j : Nat) (τ1 : n_S) (w : Option Value), m_fst (m_nsl M) (M.2 11 0) n j → r_bk τ τ1 → RB (m_xn (m_nsl M) j n) (m_xo (m_nsl M) (M.2 11 0) j n (nI q)) (n_up τ1 48 0 j (nI q)) → n_W p l e s m [Value.ref (ad 0 0), Value.int (nI q), Value.int (nI n)].toArray below meth c (rw D ca ad Ex) d (fun rv τ' => (∃ n' j, (1 ≤ n' ∧ n' ≤ 1024) ∧ nI n = nI n' ∧ m_fst (m_nsl M) (M.2 11 0) n' j ∧ rv = some (.int (nI ((m_nsl M).take j).sum)) ∧ RQ τ0 (m_cut M (m_nsl M) (M.2 11 0) j n' (nI q)) τ') ∨ ((∀ n', (1 ≤ n' ∧ n' ≤ 1024) → nI n = nI n' → m_non (m_nsl M) (M.2 11 0) n') ∧ rv = some (.int (-1)) ∧ τ' = τ)) 195 [some (.ref (ad 0 0)), some (.int (nI q)), some (.int (nI n)), some (.int (nI j)), w] [] τ1 := by
    intro j τ1 w hf hbk hRB
    obtain ⟨hj, hj0, hjn, -⟩ := id hf
    have hA := m_tkle (m_nsl M) (j + 1)
    rw [m_tk1 hj, b3] at hA
    have hxj : j < (m_xn (m_nsl M) j n).length := by
      unfold m_xn
      split
      · exact hj
      · rw [xl_len _ _ _ _ hj]; omega
    have h46 : (n_up τ1 48 0 j (nI q)) 46 0 j = nI ((m_nsl M).take j).sum := by
      rw [(hRB.2 j hxj).1]
      unfold m_xn
      split
      · rfl
      · rw [xl_sum _ _ _ hj hjn _ (by omega), if_pos (Nat.le_refl _)]
    have hQ := hM.mem (m_xbw hbw hj hn1 hjn (nI q)) (hbk.up (Or.inr (Or.inr (Or.inl rfl)))) hRB
    have loop3 : ∀ (t i : Nat) (τ3 : n_S), t + i = n → RQ τ0 (m_fl (m_mem M (m_xn (m_nsl M) j n) (m_xo (m_nsl M) (M.2 11 0) j n (nI q))) 10 ((m_nsl M).take j).sum (((m_nsl M).take j).sum + i) 0) τ3 → τ3 46 0 j = nI ((m_nsl M).take j).sum → n_W p l e s m [Value.ref (ad 0 0), Value.int (nI q), Value.int (nI n)].toArray below meth c (rw D ca ad Ex) d (fun rv τ' => (∃ n' j, (1 ≤ n' ∧ n' ≤ 1024) ∧ nI n = nI n' ∧ m_fst (m_nsl M) (M.2 11 0) n' j ∧ rv = some (.int (nI ((m_nsl M).take j).sum)) ∧ RQ τ0 (m_cut M (m_nsl M) (M.2 11 0) j n' (nI q)) τ') ∨ ((∀ n', (1 ≤ n' ∧ n' ≤ 1024) → nI n = nI n' → m_non (m_nsl M) (M.2 11 0) n') ∧ rv = some (.int (-1)) ∧ τ' = τ)) 205 [some (.ref (ad 0 0)), some (.int (nI q)), some (.int (nI n)), some (.int (nI j)), some (.int (nI i))] [] τ3 := by
      intro t
      induction t with
      | zero =>
        intro i τ3 ht h3 h4
        have hin : i = n := by omega
        rw [hin] at h3 ⊢
        refine n_iload hC dX12_allocate_205 rfl ?_
        refine n_iload_n hC dX12_allocate_207 rfl rfl ?_
        refine n_icmp_ge (tgt := 232) hC dX12_allocate_208 (by decide) (fun h => ?_) (fun h => ?_)
        · refine n_aload_n hC dX12_allocate_232 rfl rfl ?_
          refine gm_blockAt hC wfX12_212 dX12_allocate_233 ?_
          refine n_iload_n hC dX12_allocate_236 rfl rfl ?_
          first | refine r_ld hC rfl (fun _ => rfl) (by decide) (by first | omega | with_reducible assumption) dX12_allocate_237 ?_ | refine r_needs hC (by first | exact vp_in_nI (by omega) (by decide) | with_reducible assumption) dX12_allocate_237 ?_
          rw [h4]
          refine n_iret hC dX12_allocate_238 ?_
          exact Or.inl ⟨n, j, ⟨hn1, hn2⟩, rfl, hf, rfl, h3⟩
        · exact absurd (Int32.le_refl _) h
      | succ t ih =>
        intro i τ3 ht h3 h4
        refine n_iload hC dX12_allocate_205 rfl ?_
        refine n_iload_n hC dX12_allocate_207 rfl rfl ?_
        refine n_icmp_ge (tgt := 232) hC dX12_allocate_208 (by decide) (fun h => ?_) (fun h => ?_)
        · exact absurd h (nI_ge (by omega) (by omega))
        · clear h
          refine n_aload_n hC dX12_allocate_211 rfl rfl ?_
          refine gm_cells hC wfX12_209 dX12_allocate_212 ?_
          refine n_aload_n hC dX12_allocate_215 rfl rfl ?_
          refine gm_blockAt hC wfX12_212 dX12_allocate_216 ?_
          refine n_iload_n hC dX12_allocate_219 rfl rfl ?_
          first | refine r_ld hC rfl (fun _ => rfl) (by decide) (by first | omega | with_reducible assumption) dX12_allocate_220 ?_ | refine r_needs hC (by first | exact vp_in_nI (by omega) (by decide) | with_reducible assumption) dX12_allocate_220 ?_
          rw [h4]
          refine n_iload hC dX12_allocate_221 rfl ?_
          refine n_iadd hC dX12_allocate_223 ?_
          rw [nI_add]
          refine n_iconst (v := 0) hC dX12_allocate_224 (by decide) ?_
          refine r_st hC rfl (fun _ h => h) (fun _ => rfl) (by decide) (by first | omega | with_reducible assumption) dX12_allocate_225 ?_
          refine n_iinc hC dX12_allocate_226 rfl (show _ + Int32.ofInt 1 = _ + 1 from rfl) ?_
          refine n_goto (tgt := 205) hC dX12_allocate_229 (by decide) ?_
          rw [nI_1]
          have g := rq_10 (i := ((m_nsl M).take j).sum + i) (v := 0) h3 (by omega)
          rw [m_fl_1] at g
          exact ih (i + 1) _ (by omega) g ((n_up_o (by omega)).trans h4)
    refine n_aload_n hC dX12_allocate_195 rfl rfl ?_
    refine gm_blockOf hC wfX12_218 dX12_allocate_196 ?_
    refine n_iload_n hC dX12_allocate_199 rfl rfl ?_
    refine n_iload_n hC dX12_allocate_200 rfl rfl ?_
    refine r_st hC rfl (fun _ h => h) (fun _ => rfl) (by decide) (by first | omega | with_reducible assumption) dX12_allocate_201 ?_
    refine n_iconst (v := 0) hC dX12_allocate_202 (by decide) ?_
    refine n_istore hC dX12_allocate_203 (Nat.le_of_ble_eq_true rfl) ?_
    refine loop3 n 0 _ (by omega) ?_ h46
    rw [m_fl_0]
    exact hQ
  have found : ∀ (j : Nat), m_fst (m_nsl M) (M.2 11 0) n j → n_W p l e s m [Value.ref (ad 0 0), Value.int (nI q), Value.int (nI n)].toArray below meth c (rw D ca ad Ex) d (fun rv τ' => (∃ n' j, (1 ≤ n' ∧ n' ≤ 1024) ∧ nI n = nI n' ∧ m_fst (m_nsl M) (M.2 11 0) n' j ∧ rv = some (.int (nI ((m_nsl M).take j).sum)) ∧ RQ τ0 (m_cut M (m_nsl M) (M.2 11 0) j n' (nI q)) τ') ∨ ((∀ n', (1 ≤ n' ∧ n' ≤ 1024) → nI n = nI n' → m_non (m_nsl M) (M.2 11 0) n') ∧ rv = some (.int (-1)) ∧ τ' = τ)) 49 [some (.ref (ad 0 0)), some (.int (nI q)), some (.int (nI n)), some (.int (nI j)), none] [] τ := by
    intro j hf
    obtain ⟨hj, hj0, hjn, -⟩ := id hf
    obtain ⟨w1, w2, w3⟩ := hR j hj
    have hA := m_tkle (m_nsl M) (j + 1)
    rw [m_tk1 hj, b3] at hA
    refine n_iload_n hC dX12_allocate_49 rfl rfl ?_
    refine n_aload_n hC dX12_allocate_50 rfl rfl ?_
    refine gm_blocks hC wfX12_221 dX12_allocate_51 ?_
    rw [e48]
    refine n_icmp_ne (tgt := 59) hC dX12_allocate_54 (by decide) (fun h => ?_) (fun h => ?_)
    · clear h
      refine n_aload_n hC dX12_allocate_59 rfl rfl ?_
      refine gm_blockSize hC wfX12_215 dX12_allocate_60 ?_
      refine n_iload_n hC dX12_allocate_63 rfl rfl ?_
      first | refine r_ld hC rfl (fun _ => rfl) (by decide) (by first | omega | with_reducible assumption) dX12_allocate_64 ?_ | refine r_needs hC (by first | exact vp_in_nI (by omega) (by decide) | with_reducible assumption) dX12_allocate_64 ?_
      rw [w2]
      refine n_iload_n hC dX12_allocate_65 rfl rfl ?_
      refine n_icmp_le (tgt := 195) hC dX12_allocate_66 (by decide) (fun h => ?_) (fun h => ?_)
      · have he : (m_nsl M).getD j 0 = n := by
          have := (nI_leI (by omega) (by omega)).mp h
          omega
        refine tail j τ none hf (r_bk.refl _) ?_
        rw [show m_xn (m_nsl M) j n = m_nsl M from if_pos he, show m_xo (m_nsl M) (M.2 11 0) j n (nI q) = (M.2 11 0).take j ++ nI q :: (M.2 11 0).drop (j + 1) from if_pos he]
        exact RB.own ⟨e48, hR⟩ b1 hj
      · have hgt : n < (m_nsl M).getD j 0 := by
          rcases Nat.lt_or_ge n ((m_nsl M).getD j 0) with z | z
          · exact z
          · exact absurd (nI_le z (by omega)) h
        clear h
        have loop2 : ∀ (t i : Nat) (τ1 : n_S), i = j + 1 + t → i ≤ (m_nsl M).length → r_bk τ τ1 → τ1 0 0 48 = nI (m_nsl M).length → (∀ κ x, (κ = 46 ∨ κ = 47 ∨ κ = 48) → x ≤ (m_nsl M).length → τ1 κ 0 x = if i < x then τ κ 0 (x - 1) else τ κ 0 x) → n_W p l e s m [Value.ref (ad 0 0), Value.int (nI q), Value.int (nI n)].toArray below meth c (rw D ca ad Ex) d (fun rv τ' => (∃ n' j, (1 ≤ n' ∧ n' ≤ 1024) ∧ nI n = nI n' ∧ m_fst (m_nsl M) (M.2 11 0) n' j ∧ rv = some (.int (nI ((m_nsl M).take j).sum)) ∧ RQ τ0 (m_cut M (m_nsl M) (M.2 11 0) j n' (nI q)) τ') ∨ ((∀ n', (1 ≤ n' ∧ n' ≤ 1024) → nI n = nI n' → m_non (m_nsl M) (M.2 11 0) n') ∧ rv = some (.int (-1)) ∧ τ' = τ)) 75 [some (.ref (ad 0 0)), some (.int (nI q)), some (.int (nI n)), some (.int (nI j)), some (.int (nI i))] [] τ1 := by
          intro t
          induction t with
          | zero =>
            intro i τ1 hi hiL hbk h48 hx
            have hi : i = j + 1 := hi
            subst hi
            have f46 : τ1 46 0 j = nI ((m_nsl M).take j).sum := by rw [hx 46 j (by omega) (by omega), if_neg (by omega), w1]
            have f47 : τ1 47 0 j = nI ((m_nsl M).getD j 0) := by rw [hx 47 j (by omega) (by omega), if_neg (by omega), w2]
            refine n_iload hC dX12_allocate_75 rfl ?_
            refine n_iload_n hC dX12_allocate_77 rfl rfl ?_
            refine n_iconst (v := 1) hC dX12_allocate_78 (by decide) ?_
            refine n_iadd hC dX12_allocate_79 ?_
            rw [nI_1]
            refine n_icmp_le (tgt := 137) hC dX12_allocate_80 (by decide) (fun h => ?_) (fun h => ?_)
            · clear h
              refine n_aload_n hC dX12_allocate_137 rfl rfl ?_
              refine n_dup hC dX12_allocate_138 rfl ?_
              refine gm_blocks hC wfX12_221 dX12_allocate_139 ?_
              rw [h48]
              refine n_iconst (v := 1) hC dX12_allocate_142 (by decide) ?_
              refine n_iadd hC dX12_allocate_143 ?_
              rw [nI_1]
              refine pm_blocks hC wfX12_221 dX12_allocate_144 ?_
              refine n_aload_n hC dX12_allocate_147 rfl rfl ?_
              refine gm_blockAt hC wfX12_212 dX12_allocate_148 ?_
              refine n_iload_n hC dX12_allocate_151 rfl rfl ?_
              refine n_iconst (v := 1) hC dX12_allocate_152 (by decide) ?_
              refine n_iadd hC dX12_allocate_153 ?_
              rw [nI_1]
              refine n_aload_n hC dX12_allocate_154 rfl rfl ?_
              refine gm_blockAt hC wfX12_212 dX12_allocate_155 ?_
              refine n_iload_n hC dX12_allocate_158 rfl rfl ?_
              first | refine r_ld hC rfl (fun _ => rfl) (by decide) (by first | omega | with_reducible assumption) dX12_allocate_159 ?_ | refine r_needs hC (by first | exact vp_in_nI (by omega) (by decide) | with_reducible assumption) dX12_allocate_159 ?_
              rw [n_up_o (by omega), f46]
              refine n_iload_n hC dX12_allocate_160 rfl rfl ?_
              refine n_iadd hC dX12_allocate_161 ?_
              rw [nI_add]
              refine r_st hC rfl (fun _ h => h) (fun _ => rfl) (by decide) (by first | omega | with_reducible assumption) dX12_allocate_162 ?_
              refine n_aload_n hC dX12_allocate_163 rfl rfl ?_
              refine gm_blockSize hC wfX12_215 dX12_allocate_164 ?_
              refine n_iload_n hC dX12_allocate_167 rfl rfl ?_
              refine n_iconst (v := 1) hC dX12_allocate_168 (by decide) ?_
              refine n_iadd hC dX12_allocate_169 ?_
              rw [nI_1]
              refine n_aload_n hC dX12_allocate_170 rfl rfl ?_
              refine gm_blockSize hC wfX12_215 dX12_allocate_171 ?_
              refine n_iload_n hC dX12_allocate_174 rfl rfl ?_
              first | refine r_ld hC rfl (fun _ => rfl) (by decide) (by first | omega | with_reducible assumption) dX12_allocate_175 ?_ | refine r_needs hC (by first | exact vp_in_nI (by omega) (by decide) | with_reducible assumption) dX12_allocate_175 ?_
              rw [n_up_o (by omega), n_up_o (by omega), f47]
              refine n_iload_n hC dX12_allocate_176 rfl rfl ?_
              refine n_isub hC dX12_allocate_177 ?_
              rw [nI_subL hjn]
              refine r_st hC rfl (fun _ h => h) (fun _ => rfl) (by decide) (by first | omega | with_reducible assumption) dX12_allocate_178 ?_
              refine n_aload_n hC dX12_allocate_179 rfl rfl ?_
              refine gm_blockOf hC wfX12_218 dX12_allocate_180 ?_
              refine n_iload_n hC dX12_allocate_183 rfl rfl ?_
              refine n_iconst (v := 1) hC dX12_allocate_184 (by decide) ?_
              refine n_iadd hC dX12_allocate_185 ?_
              rw [nI_1]
              refine n_iconst (v := 0) hC dX12_allocate_186 (by decide) ?_
              refine r_st hC rfl (fun _ h => h) (fun _ => rfl) (by decide) (by first | omega | with_reducible assumption) dX12_allocate_187 ?_
              refine n_aload_n hC dX12_allocate_188 rfl rfl ?_
              refine gm_blockSize hC wfX12_215 dX12_allocate_189 ?_
              refine n_iload_n hC dX12_allocate_192 rfl rfl ?_
              refine n_iload_n hC dX12_allocate_193 rfl rfl ?_
              refine r_st hC rfl (fun _ h => h) (fun _ => rfl) (by decide) (by first | omega | with_reducible assumption) dX12_allocate_194 ?_
              refine tail j _ _ hf ?_ ?_
              · exact ((((hbk.up (Or.inr (Or.inr (Or.inr ⟨rfl, rfl⟩)))).up (Or.inl rfl)).up (Or.inr (Or.inl rfl))).up (Or.inr (Or.inr (Or.inl rfl)))).up (Or.inr (Or.inl rfl))
              · rw [show m_xn (m_nsl M) j n = (m_nsl M).take j ++ n :: ((m_nsl M).getD j 0 - n) :: (m_nsl M).drop (j + 1) from if_neg (by omega), show m_xo (m_nsl M) (M.2 11 0) j n (nI q) = (M.2 11 0).take j ++ nI q :: (M.2 11 0).getD j 0 :: (M.2 11 0).drop (j + 1) from if_neg (by omega)]
                refine ⟨?_, fun x hxl => ?_⟩
                · rw [xl_len _ _ _ _ hj, n_up_o (by omega), n_up_o (by omega), n_up_o (by omega), n_up_o (by omega), n_up_o (by omega), n_up_e]
                · rw [xl_len _ _ _ _ hj] at hxl
                  rw [xl_sum _ _ _ hj hjn _ (by omega), xl_getD _ _ _ _ _ hj, xl_getD _ _ _ _ _ (by omega)]
                  rcases Nat.lt_trichotomy x j with z | z | z
                  · obtain ⟨v1, v2, v3⟩ := hR x (by omega)
                    rw [if_pos (by omega), if_pos z, if_pos z]
                    refine ⟨?_, ?_, ?_⟩
                    · rw [n_up_o (by omega), n_up_o (by omega), n_up_o (by omega), n_up_o (by omega), n_up_o (by omega), n_up_o (by omega), hx 46 x (by omega) (by omega), if_neg (by omega), v1]
                    · rw [n_up_o (by omega), n_up_o (by omega), n_up_o (by omega), n_up_o (by omega), n_up_o (by omega), n_up_o (by omega), hx 47 x (by omega) (by omega), if_neg (by omega), v2]
                    · rw [n_up_o (by omega), n_up_o (by omega), n_up_o (by omega), n_up_o (by omega), n_up_o (by omega), n_up_o (by omega), hx 48 x (by omega) (by omega), if_neg (by omega), v3]
                  · subst z
                    rw [if_pos (Nat.le_refl _), if_neg (by omega), if_pos rfl, if_neg (by omega), if_pos rfl]
                    refine ⟨?_, ?_, ?_⟩
                    · rw [n_up_o (by omega), n_up_o (by omega), n_up_o (by omega), n_up_o (by omega), n_up_o (by omega), n_up_o (by omega), f46]
                    · rw [n_up_o (by omega), n_up_e]
                    · rw [n_up_e]
                  · rw [if_neg (show ¬ x ≤ j by omega), if_neg (show ¬ x < j by omega), if_neg (show ¬ x = j by omega), if_neg (show ¬ x < j by omega), if_neg (show ¬ x = j by omega)]
                    by_cases z1 : x = j + 1
                    · subst z1
                      rw [if_pos rfl, if_pos rfl, if_pos rfl]
                      refine ⟨?_, ?_, ?_⟩
                      · rw [n_up_o (by omega), n_up_o (by omega), n_up_o (by omega), n_up_o (by omega), n_up_e]
                      · rw [n_up_o (by omega), n_up_o (by omega), n_up_o (by omega), n_up_e]
                      · rw [n_up_o (by omega), n_up_o (by omega), n_up_e, hj0]
                    · obtain ⟨v1, v2, v3⟩ := hR (x - 1) (by omega)
                      rw [if_neg z1, if_neg z1, if_neg z1]
                      refine ⟨?_, ?_, ?_⟩
                      · rw [n_up_o (by omega), n_up_o (by omega), n_up_o (by omega), n_up_o (by omega), n_up_o (by omega), n_up_o (by omega), hx 46 x (by omega) (by omega), if_pos (by omega), v1]
                      · rw [n_up_o (by omega), n_up_o (by omega), n_up_o (by omega), n_up_o (by omega), n_up_o (by omega), n_up_o (by omega), hx 47 x (by omega) (by omega), if_pos (by omega), v2]
                      · rw [n_up_o (by omega), n_up_o (by omega), n_up_o (by omega), n_up_o (by omega), n_up_o (by omega), n_up_o (by omega), hx 48 x (by omega) (by omega), if_pos (by omega), v3]
            · exact absurd (Int32.le_refl _) h
          | succ t ih =>
            intro i τ1 hi hiL hbk h48 hx
            refine n_iload hC dX12_allocate_75 rfl ?_
            refine n_iload_n hC dX12_allocate_77 rfl rfl ?_
            refine n_iconst (v := 1) hC dX12_allocate_78 (by decide) ?_
            refine n_iadd hC dX12_allocate_79 ?_
            rw [nI_1]
            refine n_icmp_le (tgt := 137) hC dX12_allocate_80 (by decide) (fun h => ?_) (fun h => ?_)
            · have := (nI_leI (by omega) (by omega)).mp h
              omega
            · clear h
              refine n_aload_n hC dX12_allocate_83 rfl rfl ?_
              refine gm_blockAt hC wfX12_212 dX12_allocate_84 ?_
              refine n_iload hC dX12_allocate_87 rfl ?_
              refine n_aload_n hC dX12_allocate_89 rfl rfl ?_
              refine gm_blockAt hC wfX12_212 dX12_allocate_90 ?_
              refine n_iload hC dX12_allocate_93 rfl ?_
              refine n_iconst (v := 1) hC dX12_allocate_95 (by decide) ?_
              refine n_isub hC dX12_allocate_96 ?_
              rw [nI_m1 (by omega)]
              first | refine r_ld hC rfl (fun _ => rfl) (by decide) (by first | omega | with_reducible assumption) dX12_allocate_97 ?_ | refine r_needs hC (by first | exact vp_in_nI (by omega) (by decide) | with_reducible assumption) dX12_allocate_97 ?_
              refine r_st hC rfl (fun _ h => h) (fun _ => rfl) (by decide) (by first | omega | with_reducible assumption) dX12_allocate_98 ?_
              refine n_aload_n hC dX12_allocate_99 rfl rfl ?_
              refine gm_blockSize hC wfX12_215 dX12_allocate_100 ?_
              refine n_iload hC dX12_allocate_103 rfl ?_
              refine n_aload_n hC dX12_allocate_105 rfl rfl ?_
              refine gm_blockSize hC wfX12_215 dX12_allocate_106 ?_
              refine n_iload hC dX12_allocate_109 rfl ?_
              refine n_iconst (v := 1) hC dX12_allocate_111 (by decide) ?_
              refine n_isub hC dX12_allocate_112 ?_
              rw [nI_m1 (by omega)]
              first | refine r_ld hC rfl (fun _ => rfl) (by decide) (by first | omega | with_reducible assumption) dX12_allocate_113 ?_ | refine r_needs hC (by first | exact vp_in_nI (by omega) (by decide) | with_reducible assumption) dX12_allocate_113 ?_
              refine r_st hC rfl (fun _ h => h) (fun _ => rfl) (by decide) (by first | omega | with_reducible assumption) dX12_allocate_114 ?_
              refine n_aload_n hC dX12_allocate_115 rfl rfl ?_
              refine gm_blockOf hC wfX12_218 dX12_allocate_116 ?_
              refine n_iload hC dX12_allocate_119 rfl ?_
              refine n_aload_n hC dX12_allocate_121 rfl rfl ?_
              refine gm_blockOf hC wfX12_218 dX12_allocate_122 ?_
              refine n_iload hC dX12_allocate_125 rfl ?_
              refine n_iconst (v := 1) hC dX12_allocate_127 (by decide) ?_
              refine n_isub hC dX12_allocate_128 ?_
              rw [nI_m1 (by omega)]
              first | refine r_ld hC rfl (fun _ => rfl) (by decide) (by first | omega | with_reducible assumption) dX12_allocate_129 ?_ | refine r_needs hC (by first | exact vp_in_nI (by omega) (by decide) | with_reducible assumption) dX12_allocate_129 ?_
              refine r_st hC rfl (fun _ h => h) (fun _ => rfl) (by decide) (by first | omega | with_reducible assumption) dX12_allocate_130 ?_
              refine n_iinc hC dX12_allocate_131 rfl (show _ + Int32.ofInt (-1) = _ + (-1) from rfl) ?_
              refine n_goto (tgt := 75) hC dX12_allocate_134 (by decide) ?_
              rw [nI_dec (by omega)]
              refine ih (i - 1) _ (by omega) (by omega) (((hbk.up (Or.inl rfl)).up (Or.inr (Or.inl rfl))).up (Or.inr (Or.inr (Or.inl rfl)))) ?_ (fun κ x hκ hxL => ?_)
              · rw [n_up_o (by omega), n_up_o (by omega), n_up_o (by omega), h48]
              · by_cases zx : x = i
                · subst zx
                  rw [if_pos (by omega)]
                  rcases hκ with rfl | rfl | rfl
                  · rw [n_up_o (by omega), n_up_o (by omega), n_up_e, hx 46 _ (by omega) (by omega), if_neg (by omega)]
                  · rw [n_up_o (by omega), n_up_e, n_up_o (by omega), hx 47 _ (by omega) (by omega), if_neg (by omega)]
                  · rw [n_up_e, n_up_o (by omega), n_up_o (by omega), hx 48 _ (by omega) (by omega), if_neg (by omega)]
                · rw [n_up_o (by omega), n_up_o (by omega), n_up_o (by omega), hx κ x hκ hxL]
                  by_cases z2 : i < x
                  · rw [if_pos z2, if_pos (by omega)]
                  · rw [if_neg z2, if_neg (by omega)]
        refine n_aload_n hC dX12_allocate_69 rfl rfl ?_
        refine gm_blocks hC wfX12_221 dX12_allocate_70 ?_
        rw [e48]
        refine n_istore hC dX12_allocate_73 (Nat.le_of_ble_eq_true rfl) ?_
        refine loop2 ((m_nsl M).length - j - 1) (m_nsl M).length τ (by omega) (Nat.le_refl _) (r_bk.refl _) e48 (fun κ x _ hxL => ?_)
        rw [if_neg (by omega)]
    · have := (nI_eq (by omega) (by omega)).mp h
      omega
  have loop1 : ∀ (t k : Nat), t + k = (m_nsl M).length → (∀ i, i < k → ¬ ((M.2 11 0).getD i 0 = 0 ∧ n ≤ (m_nsl M).getD i 0)) → n_W p l e s m [Value.ref (ad 0 0), Value.int (nI q), Value.int (nI n)].toArray below meth c (rw D ca ad Ex) d (fun rv τ' => (∃ n' j, (1 ≤ n' ∧ n' ≤ 1024) ∧ nI n = nI n' ∧ m_fst (m_nsl M) (M.2 11 0) n' j ∧ rv = some (.int (nI ((m_nsl M).take j).sum)) ∧ RQ τ0 (m_cut M (m_nsl M) (M.2 11 0) j n' (nI q)) τ') ∨ ((∀ n', (1 ≤ n' ∧ n' ≤ 1024) → nI n = nI n' → m_non (m_nsl M) (M.2 11 0) n') ∧ rv = some (.int (-1)) ∧ τ' = τ)) 16 [some (.ref (ad 0 0)), some (.int (nI q)), some (.int (nI n)), some (.int (nI k)), none] [] τ := by
    intro t
    induction t with
    | zero =>
      intro k ht hf
      have hk : k = (m_nsl M).length := by omega
      subst hk
      refine n_iload_n hC dX12_allocate_16 rfl rfl ?_
      refine n_aload_n hC dX12_allocate_17 rfl rfl ?_
      refine gm_blocks hC wfX12_221 dX12_allocate_18 ?_
      rw [e48]
      refine n_icmp_ge (tgt := 49) hC dX12_allocate_21 (by decide) (fun h => ?_) (fun h => ?_)
      · clear h
        refine n_iload_n hC dX12_allocate_49 rfl rfl ?_
        refine n_aload_n hC dX12_allocate_50 rfl rfl ?_
        refine gm_blocks hC wfX12_221 dX12_allocate_51 ?_
        rw [e48]
        refine n_icmp_ne (tgt := 59) hC dX12_allocate_54 (by decide) (fun h => ?_) (fun h => ?_)
        · exact absurd rfl h
        · refine n_iconst (v := -1) hC dX12_allocate_57 (by decide) ?_
          refine n_iret hC dX12_allocate_58 ?_
          exact Or.inr ⟨fun n' hn' e => by rw [← (nI_eq (by omega) (by omega)).mp e]; exact hf, rfl, rfl⟩
      · exact absurd (Int32.le_refl _) h
    | succ t ih =>
      intro k ht hf
      have hkl : k < (m_nsl M).length := by omega
      obtain ⟨w1, w2, w3⟩ := hR k hkl
      have hA := m_tkle (m_nsl M) (k + 1)
      rw [m_tk1 hkl, b3] at hA
      have nxt : ¬ ((M.2 11 0).getD k 0 = 0 ∧ n ≤ (m_nsl M).getD k 0) → n_W p l e s m [Value.ref (ad 0 0), Value.int (nI q), Value.int (nI n)].toArray below meth c (rw D ca ad Ex) d (fun rv τ' => (∃ n' j, (1 ≤ n' ∧ n' ≤ 1024) ∧ nI n = nI n' ∧ m_fst (m_nsl M) (M.2 11 0) n' j ∧ rv = some (.int (nI ((m_nsl M).take j).sum)) ∧ RQ τ0 (m_cut M (m_nsl M) (M.2 11 0) j n' (nI q)) τ') ∨ ((∀ n', (1 ≤ n' ∧ n' ≤ 1024) → nI n = nI n' → m_non (m_nsl M) (M.2 11 0) n') ∧ rv = some (.int (-1)) ∧ τ' = τ)) 43 [some (.ref (ad 0 0)), some (.int (nI q)), some (.int (nI n)), some (.int (nI k)), none] [] τ := by
        intro hno
        refine n_iinc hC dX12_allocate_43 rfl (show _ + Int32.ofInt 1 = _ + 1 from rfl) ?_
        refine n_goto (tgt := 16) hC dX12_allocate_46 (by decide) ?_
        rw [nI_1]
        refine ih (k + 1) (by omega) (fun i hi => ?_)
        by_cases z : i = k
        · rw [z]; exact hno
        · exact hf i (by omega)
      refine n_iload_n hC dX12_allocate_16 rfl rfl ?_
      refine n_aload_n hC dX12_allocate_17 rfl rfl ?_
      refine gm_blocks hC wfX12_221 dX12_allocate_18 ?_
      rw [e48]
      refine n_icmp_ge (tgt := 49) hC dX12_allocate_21 (by decide) (fun h => ?_) (fun h => ?_)
      · exact absurd h (nI_ge hkl (by omega))
      · clear h
        refine n_aload_n hC dX12_allocate_24 rfl rfl ?_
        refine gm_blockOf hC wfX12_218 dX12_allocate_25 ?_
        refine n_iload_n hC dX12_allocate_28 rfl rfl ?_
        first | refine r_ld hC rfl (fun _ => rfl) (by decide) (by first | omega | with_reducible assumption) dX12_allocate_29 ?_ | refine r_needs hC (by first | exact vp_in_nI (by omega) (by decide) | with_reducible assumption) dX12_allocate_29 ?_
        rw [w3]
        refine n_if_ne (tgt := 43) hC dX12_allocate_30 (by decide) (fun h => ?_) (fun h => ?_)
        · exact nxt (fun z => h z.1)
        · have h0 := h
          clear h
          refine n_aload_n hC dX12_allocate_33 rfl rfl ?_
          refine gm_blockSize hC wfX12_215 dX12_allocate_34 ?_
          refine n_iload_n hC dX12_allocate_37 rfl rfl ?_
          first | refine r_ld hC rfl (fun _ => rfl) (by decide) (by first | omega | with_reducible assumption) dX12_allocate_38 ?_ | refine r_needs hC (by first | exact vp_in_nI (by omega) (by decide) | with_reducible assumption) dX12_allocate_38 ?_
          rw [w2]
          refine n_iload_n hC dX12_allocate_39 rfl rfl ?_
          refine n_icmp_ge (tgt := 49) hC dX12_allocate_40 (by decide) (fun h => ?_) (fun h => ?_)
          · exact found k ⟨hkl, h0, (nI_leI (by omega) (by omega)).mp h, hf⟩
          · exact nxt (fun z => h (nI_le z.2 (by omega)))
  refine n_iload_n hC dX12_allocate_0 rfl rfl ?_
  refine n_iconst (v := 1) hC dX12_allocate_1 (by decide) ?_
  refine n_icmp_lt (tgt := 12) hC dX12_allocate_2 (by decide) (fun h => ?_) (fun h => ?_)
  · exact absurd h (nI_nlt (a := n) (b := 1) hn1 (by omega))
  · clear h
    refine n_iload_n hC dX12_allocate_5 rfl rfl ?_
    refine n_sipush (v := 1024) hC dX12_allocate_6 (by decide) ?_
    refine n_icmp_le (tgt := 14) hC dX12_allocate_9 (by decide) (fun h => ?_) (fun h => ?_)
    · refine n_iconst (v := 0) hC dX12_allocate_14 (by decide) ?_
      refine n_istore_n hC dX12_allocate_15 rfl (Nat.le_of_ble_eq_true rfl) ?_
      exact loop1 (m_nsl M).length 0 (by omega) (fun i hi => by omega)
    · exact absurd (nI_le (a := n) (b := 1024) hn2 (by decide)) h
theorem x_allocate (d q : Nat) (a : Int32) (τ0 : n_S) (M : n_M) (τ : n_S) (hM : RQ τ0 M τ) (hB : IB M) : n_Ct l (rw D ca ad Ex) d yX12_allocate cX12_allocate 5 (some .int) [.ref (ad 0 0), .int (nI q), .int a] τ (fun rv τ' => (∃ n j, (1 ≤ n ∧ n ≤ 1024) ∧ a = nI n ∧ m_fst (m_nsl M) (M.2 11 0) n j ∧ rv = some (.int (nI ((m_nsl M).take j).sum)) ∧ RQ τ0 (m_cut M (m_nsl M) (M.2 11 0) j n (nI q)) τ') ∨ ((∀ n, (1 ≤ n ∧ n ≤ 1024) → a = nI n → m_non (m_nsl M) (M.2 11 0) n) ∧ rv = some (.int (-1)) ∧ τ' = τ)) := by
  by_cases hex : ∃ n, (1 ≤ n ∧ n ≤ 1024) ∧ a = nI n
  · obtain ⟨n, hn, rfl⟩ := hex
    exact x_alloc1 d q n τ0 M τ hM hB hn
  · refine n_ofW (by decide) (Nat.le_of_ble_eq_true rfl) ?_
    intro p e s m below meth c hC
    have out : n_W p l e s m [Value.ref (ad 0 0), Value.int (nI q), Value.int a].toArray below meth c (rw D ca ad Ex) d (fun rv τ' => (∃ n j, (1 ≤ n ∧ n ≤ 1024) ∧ a = nI n ∧ m_fst (m_nsl M) (M.2 11 0) n j ∧ rv = some (.int (nI ((m_nsl M).take j).sum)) ∧ RQ τ0 (m_cut M (m_nsl M) (M.2 11 0) j n (nI q)) τ') ∨ ((∀ n, (1 ≤ n ∧ n ≤ 1024) → a = nI n → m_non (m_nsl M) (M.2 11 0) n) ∧ rv = some (.int (-1)) ∧ τ' = τ)) 12 [some (.ref (ad 0 0)), some (.int (nI q)), some (.int a), none, none] [] τ := by
      refine n_iconst (v := -1) hC dX12_allocate_12 (by decide) ?_
      refine n_iret hC dX12_allocate_13 ?_
      exact Or.inr ⟨fun n hn e => absurd ⟨n, hn, e⟩ hex, rfl, rfl⟩
    refine n_iload_n hC dX12_allocate_0 rfl rfl ?_
    refine n_iconst (v := 1) hC dX12_allocate_1 (by decide) ?_
    refine n_icmp_lt (tgt := 12) hC dX12_allocate_2 (by decide) (fun h => ?_) (fun h => ?_)
    · exact out
    · have h0 := h
      clear h
      refine n_iload_n hC dX12_allocate_5 rfl rfl ?_
      refine n_sipush (v := 1024) hC dX12_allocate_6 (by decide) ?_
      refine n_icmp_le (tgt := 14) hC dX12_allocate_9 (by decide) (fun h => ?_) (fun h => ?_)
      · exfalso
        have g0 : ¬ a < 0 := fun z => h0 (Int32.lt_trans z (by decide))
        obtain ⟨n, hn, rfl⟩ := nI_of2 (M := 1024) (n := 1024) rfl g0 h
        refine hex ⟨n, ⟨?_, hn⟩, rfl⟩
        rcases Nat.eq_zero_or_pos n with z | z
        · subst z
          exact absurd (show nI 0 < 1 by decide) h0
        · exact z
      · exact out
end RAL
