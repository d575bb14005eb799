def m_mg (P : List Nat × List Int32) (n : Nat) (o : Int32) : List Nat × List Int32 := if o = 0 ∧ P.2.getLast? = some 0 then (P.1.dropLast ++ [P.1.getLastD 0 + n], P.2) else (P.1 ++ [n], P.2 ++ [o])
def m_mgs : List Nat → List Int32 → List Nat × List Int32 → List Nat × List Int32
  | n :: ns, o :: os, P => m_mgs ns os (m_mg P n o)
  | _, _, P => P
def m_fr (h x : Int32) : List Nat → List Int32 → Nat → List Int32
  | n :: ns, o :: os, a => (if o = h ∧ (x = nI a ∨ x = -1) then 0 else o) :: m_fr h x ns os (a + n)
  | _, _, _ => []
def m_ar (σ : n_S) (ns : List Nat) (os : List Int32) : Prop := (∀ k, k < 1024 → σ 17 0 k = m_hs ns os k) ∧ ∀ k, k < 1024 → σ 18 0 k = nI (m_sz ns k)
theorem m_hsm (pn xs : List Nat) (po xo : List Int32) (b n : Nat) (hl : pn.length = po.length) (k : Nat) : m_hs (pn ++ [b + n] ++ xs) (po ++ [0] ++ xo) k = m_hs (pn ++ [b] ++ n :: xs) (po ++ [0] ++ 0 :: xo) k := by
  simp only [List.append_assoc, List.singleton_append]
  rw [hs_app _ _ _ _ k hl, hs_app _ _ _ _ k hl]
  simp only [m_hs]
  repeat' split
  all_goals first | rfl | (exfalso; omega) | (congr 1; omega)
theorem m_szm (pn xs : List Nat) (b n : Nat) (hp : ∀ x ∈ pn, 1 ≤ x) (hb : 1 ≤ b) (hn : 1 ≤ n) (k : Nat) : m_sz (pn ++ [b + n] ++ xs) k = if k = pn.sum then b + n else if k = pn.sum + b then 0 else m_sz (pn ++ [b] ++ n :: xs) k := by
  simp only [List.append_assoc, List.singleton_append]
  rw [sz_app _ _ k hp, sz_app _ _ k hp]
  simp only [m_sz]
  repeat' split
  all_goals first | rfl | (exfalso; omega) | (congr 1; omega) | omega
theorem m_mid {σ : n_S} {pn xs : List Nat} {po xo : List Int32} {n : Nat} {o : Int32} (h : m_ar σ (pn ++ n :: xs) (po ++ o :: xo)) (hl : pn.length = po.length) (hp : ∀ x ∈ pn, 1 ≤ x) (hn : 1 ≤ n) (hs : pn.sum < 1024) : σ 17 0 pn.sum = o ∧ σ 18 0 pn.sum = nI n := by
  constructor
  · rw [h.1 _ hs, hs_app _ _ _ _ _ hl, if_neg (by omega), Nat.sub_self]
    simp only [m_hs]
    rw [if_pos (by omega)]
  · rw [h.2 _ hs, sz_app _ _ _ hp, if_neg (by omega), Nat.sub_self]
    simp [m_sz]
theorem m_frlen (h x : Int32) : ∀ (ns : List Nat) (os : List Int32) (a : Nat), ns.length = os.length → (m_fr h x ns os a).length = os.length
  | [], [], _, _ => rfl
  | [], _ :: _, _, e => by simp at e
  | _ :: _, [], _, e => by simp at e
  | n :: ns, o :: os, a, e => by
    simp only [m_fr, List.length_cons]
    rw [m_frlen h x ns os (a + n) (by simpa using e)]
def m_fv (pn : List Nat) (po : List Int32) : Int32 := if po.getLast? = some 0 then nI pn.dropLast.sum else -1
section RG
variable {l : Launch} {D : va_G} {ca : Nat → ClassId} {ad : Nat → Nat → Nat} {ae : Nat → Nat} {Ex : State → Heap → Prop}
theorem c_regain (d : Nat) (o x : Int32) (ns : List Nat) (os : List Int32) (M : n_M) (σ : n_S) (hM : RepC M σ) (hB : m_isB M ns os) : n_Ct l (cw D ca ad ae Ex) (d + 2) yX3_regain cX3_regain 6 none [.ref (ad 15 0), .int o, .int x] σ (fun rv σ' => rv = none ∧ RepC (m_mem M (m_mgs ns (m_fr o x ns os 0) ([], [])).1 (m_mgs ns (m_fr o x ns os 0) ([], [])).2) σ') := by
  refine n_ofW (by decide) (Nat.le_of_ble_eq_true rfl) ?_
  intro p e s m below meth c hC
  have hbw := hB.1
  have loop : ∀ (xs : List Nat) (xo : List Int32) (pn : List Nat) (po : List Int32) (nx : Int32) (σ1 : n_S), xs.length = xo.length → pn.length = po.length → (∀ n ∈ pn, 1 ≤ n) → (∀ n ∈ xs, 1 ≤ n) → pn.sum + xs.sum = 1024 → (∀ κ i k, ¬ (κ = 17 ∧ i = 0) → ¬ (κ = 18 ∧ i = 0) → σ1 κ i k = σ κ i k) → m_ar σ1 (pn ++ xs) (po ++ xo) →
      n_W p l e s m [Value.ref (ad 15 0), Value.int o, Value.int x].toArray below meth c (cw D ca ad ae Ex) (d + 2) (fun rv σ' => rv = none ∧ RepC (m_mem M (m_mgs xs (m_fr o x xs xo pn.sum) (pn, po)).1 (m_mgs xs (m_fr o x xs xo pn.sum) (pn, po)).2) σ') 8 [some (.ref (ad 15 0)), some (.int o), some (.int x), some (.int (m_fv pn po)), some (.int nx), some (.int (nI pn.sum))] [] σ1 := by
    intro xs
    induction xs with
    | nil =>
      intro xo pn po nx σ1 hxl hpl hp hx hsum hf ha
      have : xo = [] := List.eq_nil_of_length_eq_zero (by simpa using hxl.symm)
      subst this
      have hs : pn.sum = 1024 := by simpa using hsum
      rw [hs]
      refine n_iload hC dX3_regain_8 rfl ?_
      refine n_sipush (v := 1024) hC dX3_regain_10 (by decide) ?_
      refine n_icmp_ge (tgt := 129) hC dX3_regain_13 (by decide) (fun h => ?_) (fun h => ?_)
      · refine n_vret hC dX3_regain_129 ?_
        simp only [List.append_nil] at ha
        exact ⟨rfl, cm_0 hM hf ha.1 ha.2⟩
      · exact absurd (by decide) h
    | cons n xs ih =>
      intro xo pn po nx σ1 hxl hpl hp hx hsum hf ha
      cases xo with
      | nil => simp at hxl
      | cons o1 xo =>
        have hn1 := hx n List.mem_cons_self
        have hx' : ∀ n ∈ xs, 1 ≤ n := fun y hy => hx y (List.mem_cons_of_mem _ hy)
        have hxl' : xs.length = xo.length := by simpa using hxl
        have hsum' : pn.sum + n + xs.sum = 1024 := by simp at hsum; omega
        have hs : pn.sum < 1024 := by omega
        obtain ⟨k4, k3⟩ := m_mid ha hpl hp hn1 hs
        have e1 : (nI pn.sum).toNatClampNeg = pn.sum := nI_clamp (by omega)
        have tail : ∀ (o2 : Int32) (σ2 : n_S), o2 = (if o1 = o ∧ (x = nI pn.sum ∨ x = -1) then 0 else o1) → (∀ κ i k, ¬ (κ = 17 ∧ i = 0) → ¬ (κ = 18 ∧ i = 0) → σ2 κ i k = σ κ i k) → m_ar σ2 (pn ++ n :: xs) (po ++ o2 :: xo) →
            n_W p l e s m [Value.ref (ad 15 0), Value.int o, Value.int x].toArray below meth c (cw D ca ad ae Ex) (d + 2) (fun rv σ' => rv = none ∧ RepC (m_mem M (m_mgs (n :: xs) (m_fr o x (n :: xs) (o1 :: xo) pn.sum) (pn, po)).1 (m_mgs (n :: xs) (m_fr o x (n :: xs) (o1 :: xo) pn.sum) (pn, po)).2) σ') 72 [some (.ref (ad 15 0)), some (.int o), some (.int x), some (.int (m_fv pn po)), some (.int (nI (pn.sum + n))), some (.int (nI pn.sum))] [] σ2 := by
          intro o2 σ2 ho2 hf2 ha2
          obtain ⟨j4, j3⟩ := m_mid ha2 hpl hp hn1 hs
          have eR : m_mgs (n :: xs) (m_fr o x (n :: xs) (o1 :: xo) pn.sum) (pn, po) = m_mgs xs (m_fr o x xs xo (pn.sum + n)) (m_mg (pn, po) n o2) := by
            simp only [m_fr, m_mgs]
            rw [← ho2]
          have eS : (pn ++ [n]).sum = pn.sum + n := by simp
          have eA : m_ar σ2 ((pn ++ [n]) ++ xs) ((po ++ [o2]) ++ xo) := by simpa using ha2
          rw [eR]
          refine n_aload_n hC dX3_regain_72 rfl rfl ?_
          refine g15_holders hC (by first | assumption | exact rfl) wfX3_15 dX3_regain_73 ?_
          refine n_iload hC dX3_regain_76 rfl ?_
          refine c_iald hC (by first | assumption | exact rfl) (fun _ => rfl) (by first | assumption | exact vp_in_nI (by omega) (by decide)) dX3_regain_78 ?_
          rw [e1, j4]
          refine n_if_eq (tgt := 87) hC dX3_regain_79 (by decide) (fun h => ?_) (fun h => ?_)
          · have hz : o2 = 0 := h
            clear h
            refine n_iload_n hC dX3_regain_87 rfl rfl ?_
            refine n_iconst (v := -1) hC dX3_regain_88 (by decide) ?_
            refine n_icmp_ne (tgt := 98) hC dX3_regain_89 (by decide) (fun h => ?_) (fun h => ?_)
            · have hlast : po.getLast? = some 0 := by
                unfold m_fv at h
                by_cases q : po.getLast? = some 0
                · exact q
                · rw [if_neg q] at h
                  exact absurd rfl h
              clear h
              have hm : m_mg (pn, po) n o2 = (pn.dropLast ++ [pn.getLastD 0 + n], po) := by
                unfold m_mg
                rw [if_pos ⟨hz, hlast⟩]
              obtain ⟨po0, rfl⟩ : ∃ po0, po = po0 ++ [0] := by
                obtain ⟨q, hq⟩ := List.getLast?_eq_some_iff.mp hlast
                exact ⟨q, hq⟩
              obtain ⟨pn0, b, rfl⟩ : ∃ pn0 b, pn = pn0 ++ [b] := by
                cases hp0 : pn.reverse with
                | nil =>
                  have : pn = [] := by simpa using hp0
                  subst this
                  simp at hpl
                | cons b q =>
                  refine ⟨q.reverse, b, ?_⟩
                  have := congrArg List.reverse hp0
                  simpa using this
              have hb1 : 1 ≤ b := hp b (by simp)
              have hp0 : ∀ y ∈ pn0, 1 ≤ y := fun y hy => hp y (by simp [hy])
              have hpl0 : pn0.length = po0.length := by simpa using hpl
              have es : (pn0 ++ [b]).sum = pn0.sum + b := by simp
              have ev : m_fv (pn0 ++ [b]) (po0 ++ [0]) = nI pn0.sum := by
                unfold m_fv
                rw [if_pos hlast]
                simp
              have ef : (nI pn0.sum).toNatClampNeg = pn0.sum := nI_clamp (by omega)
              have eb : σ2 18 0 pn0.sum = nI b := by
                have a3 : m_ar σ2 (pn0 ++ b :: n :: xs) (po0 ++ 0 :: o2 :: xo) := by simpa using ha2
                exact (m_mid a3 hpl0 hp0 hb1 (by omega)).2
              rw [ev]
              refine n_aload_n hC dX3_regain_98 rfl rfl ?_
              refine g15_sizes hC (by first | assumption | exact rfl) wfX3_18 dX3_regain_99 ?_
              refine n_iload_n hC dX3_regain_102 rfl rfl ?_
              refine n_dup2_11 hC dX3_regain_103 rfl rfl ?_
              refine c_iald hC (by first | assumption | exact rfl) (fun _ => rfl) (by first | assumption | exact vp_in_nI (by omega) (by decide)) dX3_regain_104 ?_
              rw [ef, eb]
              refine n_aload_n hC dX3_regain_105 rfl rfl ?_
              refine g15_sizes hC (by first | assumption | exact rfl) wfX3_18 dX3_regain_106 ?_
              refine n_iload hC dX3_regain_109 rfl ?_
              refine c_iald hC (by first | assumption | exact rfl) (fun _ => rfl) (by first | assumption | exact vp_in_nI (by omega) (by decide)) dX3_regain_111 ?_
              rw [e1, j3]
              refine n_iadd hC dX3_regain_112 ?_
              refine c_iast hC (by first | assumption | exact rfl) (fun _ => rfl) (by first | assumption | exact vp_in_nI (by omega) (by decide)) dX3_regain_113 ?_
              refine n_aload_n hC dX3_regain_114 rfl rfl ?_
              refine g15_sizes hC (by first | assumption | exact rfl) wfX3_18 dX3_regain_115 ?_
              refine n_iload hC dX3_regain_118 rfl ?_
              refine n_iconst (v := 0) hC dX3_regain_120 (by decide) ?_
              refine c_iast hC (by first | assumption | exact rfl) (fun _ => rfl) (by first | assumption | exact vp_in_nI (by omega) (by decide)) dX3_regain_121 ?_
              refine n_iload hC dX3_regain_122 rfl ?_
              refine n_istore hC dX3_regain_124 (Nat.le_of_ble_eq_true rfl) ?_
              refine n_goto (tgt := 8) hC dX3_regain_126 (by decide) ?_
              rw [nI_add, e1, ef, hm]
              have r1 : (pn0 ++ [b]).dropLast = pn0 := by simp
              have r2 : (pn0 ++ [b]).getLastD 0 = b := by simp
              rw [r1, r2]
              have r3 : (pn0 ++ [b]).sum + n = (pn0 ++ [b + n]).sum := by simp; omega
              rw [r3]
              have := ih xo (pn0 ++ [b + n]) (po0 ++ [0]) (nI (pn0 ++ [b + n]).sum) (n_up (n_up σ2 18 0 pn0.sum (nI (b + n))) 18 0 (pn0 ++ [b]).sum 0) hxl' (by simpa using hpl0) (fun y hy => by
                rcases List.mem_append.mp hy with z | z
                · exact hp0 y z
                · simp at z; omega) hx' (by rw [← r3]; exact hsum') (fun κ i k a b2 => by rw [n_up_k, if_neg (by omega), n_up_k, if_neg (by omega)]; exact hf2 κ i k a b2) ⟨fun k hk => by
                  rw [n_up_k, if_neg (by omega), n_up_k, if_neg (by omega), m_hsm pn0 xs po0 xo b n hpl0 k, ha2.1 k hk, hz], fun k hk => by
                  rw [m_szm pn0 xs b n hp0 hb1 hn1 k, n_up_k, n_up_k, es]
                  by_cases z1 : k = pn0.sum
                  · rw [if_neg (by omega), if_pos ⟨rfl, rfl, z1⟩, if_pos z1]
                  · by_cases z2 : k = pn0.sum + b
                    · rw [if_pos ⟨rfl, rfl, z2⟩, if_neg z1, if_pos z2]; rfl
                    · rw [if_neg (fun w => z2 w.2.2), if_neg (fun w => z1 w.2.2), if_neg z1, if_neg z2, ha2.2 k hk]⟩
              rw [show m_fv (pn0 ++ [b + n]) (po0 ++ [0]) = nI pn0.sum by unfold m_fv; rw [if_pos hlast]; simp] at this
              exact this
            · have hlast : ¬ po.getLast? = some 0 := by
                intro q
                unfold m_fv at h
                rw [if_pos q] at h
                have h0 : (0 : Int32) ≤ nI pn.dropLast.sum := nI_pos' (by
                  have : pn.dropLast.sum ≤ pn.sum := by
                    have := m_tkle pn (pn.length - 1)
                    rwa [← List.dropLast_eq_take] at this
                  omega)
                rw [h] at h0
                exact absurd h0 (by decide)
              have hm : m_mg (pn, po) n o2 = (pn ++ [n], po ++ [o2]) := by
                unfold m_mg
                rw [if_neg (fun q => hlast q.2)]
              refine n_iload hC dX3_regain_92 rfl ?_
              refine n_istore_n hC dX3_regain_94 rfl (Nat.le_of_ble_eq_true rfl) ?_
              refine n_goto (tgt := 122) hC dX3_regain_95 (by decide) ?_
              refine n_iload hC dX3_regain_122 rfl ?_
              refine n_istore hC dX3_regain_124 (Nat.le_of_ble_eq_true rfl) ?_
              refine n_goto (tgt := 8) hC dX3_regain_126 (by decide) ?_
              rw [hm, ← eS]
              have := ih xo (pn ++ [n]) (po ++ [o2]) (nI (pn ++ [n]).sum) σ2 hxl' (by simpa using hpl) (fun y hy => by
                rcases List.mem_append.mp hy with z | z
                · exact hp y z
                · simp at z; omega) hx' (by rw [eS]; exact hsum') hf2 eA
              rw [show m_fv (pn ++ [n]) (po ++ [o2]) = nI pn.sum by unfold m_fv; rw [if_pos (by simp [hz])]; simp] at this
              exact this
          · have hz : ¬ o2 = 0 := h
            have hm : m_mg (pn, po) n o2 = (pn ++ [n], po ++ [o2]) := by
              unfold m_mg
              rw [if_neg (fun q => hz q.1)]
            refine n_iconst (v := -1) hC dX3_regain_82 (by decide) ?_
            refine n_istore_n hC dX3_regain_83 rfl (Nat.le_of_ble_eq_true rfl) ?_
            refine n_goto (tgt := 122) hC dX3_regain_84 (by decide) ?_
            refine n_iload hC dX3_regain_122 rfl ?_
            refine n_istore hC dX3_regain_124 (Nat.le_of_ble_eq_true rfl) ?_
            refine n_goto (tgt := 8) hC dX3_regain_126 (by decide) ?_
            rw [hm, ← eS]
            have := ih xo (pn ++ [n]) (po ++ [o2]) (nI (pn ++ [n]).sum) σ2 hxl' (by simpa using hpl) (fun y hy => by
              rcases List.mem_append.mp hy with z | z
              · exact hp y z
              · simp at z; omega) hx' (by rw [eS]; exact hsum') hf2 eA
            rw [show m_fv (pn ++ [n]) (po ++ [o2]) = -1 by unfold m_fv; rw [if_neg (by simp [hz])]] at this
            exact this
        have fillin : o1 = o → (x = nI pn.sum ∨ x = -1) → n_W p l e s m [Value.ref (ad 15 0), Value.int o, Value.int x].toArray below meth c (cw D ca ad ae Ex) (d + 2) (fun rv σ' => rv = none ∧ RepC (m_mem M (m_mgs (n :: xs) (m_fr o x (n :: xs) (o1 :: xo) pn.sum) (pn, po)).1 (m_mgs (n :: xs) (m_fr o x (n :: xs) (o1 :: xo) pn.sum) (pn, po)).2) σ') 54 [some (.ref (ad 15 0)), some (.int o), some (.int x), some (.int (m_fv pn po)), some (.int (nI (pn.sum + n))), some (.int (nI pn.sum))] [] σ1 := by
          intro h1 h2
          refine n_aload_n hC dX3_regain_54 rfl rfl ?_
          refine g15_holders hC (by first | assumption | exact rfl) wfX3_15 dX3_regain_55 ?_
          refine n_iload hC dX3_regain_58 rfl ?_
          refine n_iload hC dX3_regain_60 rfl ?_
          refine n_sipush (v := 1024) hC dX3_regain_62 (by decide) ?_
          refine n_mmin hC wmX3_41 (Nat.le_of_ble_eq_true rfl) dX3_regain_65 ?_
          rw [show (if (1024 : Int32) < nI (pn.sum + n) then 1024 else nI (pn.sum + n)) = nI (pn.sum + n) from if_neg (nI_nlt (a := 1024) (by omega) (by decide))]
          refine n_iconst (v := 0) hC dX3_regain_68 (by decide) ?_
          refine n_callS hC (c_fill d 17 pn.sum (pn.sum + n) 1024 0 σ1 rfl (fun _ => rfl) (by omega) (by omega) (by decide)) (by omega) (by decide) ⟨wmX3_31, ws_yJ7_fill_fda19, wzJ7, wc_yJ7_fill_fda19⟩ hy_yJ7_fill_fda19 rfl (Nat.le_of_ble_eq_true rfl) dX3_regain_69 (fun rv σ' hpo => ?_)
          obtain ⟨rfl, f3⟩ := hpo
          refine tail 0 σ' (by rw [if_pos ⟨h1, h2⟩]) (fun κ i k a b => by rw [f3, if_neg (by omega)]; exact hf κ i k a b) ⟨fun k hk => ?_, fun k hk => ?_⟩
          · rw [f3, hs_app _ _ _ _ k hpl]
            by_cases z1 : k < pn.sum
            · rw [if_neg (by omega), if_pos z1, ha.1 k hk, hs_app _ _ _ _ k hpl, if_pos z1]
            · by_cases z2 : k < pn.sum + n
              · rw [if_pos ⟨rfl, rfl, by omega, z2⟩, if_neg z1]
                simp only [m_hs]
                rw [if_pos (by omega)]
              · rw [if_neg (fun w => z2 w.2.2.2), if_neg z1, ha.1 k hk, hs_app _ _ _ _ k hpl, if_neg z1]
                simp only [m_hs]
                rw [if_neg (by omega), if_neg (by omega)]
          · rw [f3, if_neg (by omega)]
            exact ha.2 k hk
        refine n_iload hC dX3_regain_8 rfl ?_
        refine n_sipush (v := 1024) hC dX3_regain_10 (by decide) ?_
        refine n_icmp_ge (tgt := 129) hC dX3_regain_13 (by decide) (fun h => ?_) (fun h => ?_)
        · exact absurd h (nI_ge (b := 1024) hs (by decide))
        · clear h
          refine n_iload hC dX3_regain_16 rfl ?_
          refine n_aload_n hC dX3_regain_18 rfl rfl ?_
          refine g15_sizes hC (by first | assumption | exact rfl) wfX3_18 dX3_regain_19 ?_
          refine n_iload hC dX3_regain_22 rfl ?_
          refine c_iald hC (by first | assumption | exact rfl) (fun _ => rfl) (by first | assumption | exact vp_in_nI (by omega) (by decide)) dX3_regain_24 ?_
          refine n_iconst (v := 1) hC dX3_regain_25 (by decide) ?_
          rw [e1, k3]
          refine n_mmax hC wmX3_25 (Nat.le_of_ble_eq_true rfl) dX3_regain_26 ?_
          rw [m_mx1 hn1 (by omega)]
          refine n_iadd hC dX3_regain_29 ?_
          refine n_istore hC dX3_regain_30 (Nat.le_of_ble_eq_true rfl) ?_
          refine n_aload_n hC dX3_regain_32 rfl rfl ?_
          refine g15_holders hC (by first | assumption | exact rfl) wfX3_15 dX3_regain_33 ?_
          refine n_iload hC dX3_regain_36 rfl ?_
          refine c_iald hC (by first | assumption | exact rfl) (fun _ => rfl) (by first | assumption | exact vp_in_nI (by omega) (by decide)) dX3_regain_38 ?_
          rw [nI_add, e1, k4]
          refine n_iload_n hC dX3_regain_39 rfl rfl ?_
          refine n_icmp_ne (tgt := 72) hC dX3_regain_40 (by decide) (fun h => ?_) (fun h => ?_)
          · exact tail o1 σ1 (by rw [if_neg (fun q => h q.1)]) hf ha
          · have ho : o1 = o := h
            clear h
            refine n_iload_n hC dX3_regain_43 rfl rfl ?_
            refine n_iload hC dX3_regain_44 rfl ?_
            refine n_icmp_eq (tgt := 54) hC dX3_regain_46 (by decide) (fun h => ?_) (fun h => ?_)
            · exact fillin ho (Or.inl h)
            · have hx1 := h
              clear h
              refine n_iload_n hC dX3_regain_49 rfl rfl ?_
              refine n_iconst (v := -1) hC dX3_regain_50 (by decide) ?_
              refine n_icmp_ne (tgt := 72) hC dX3_regain_51 (by decide) (fun h => ?_) (fun h => ?_)
              · exact tail o1 σ1 (by rw [if_neg (fun q => q.2.elim hx1 h)]) hf ha
              · exact fillin ho (Or.inr h)
  refine n_iconst (v := -1) hC dX3_regain_0 (by decide) ?_
  refine n_istore_n hC dX3_regain_1 rfl (Nat.le_of_ble_eq_true rfl) ?_
  refine n_iconst (v := 0) hC dX3_regain_2 (by decide) ?_
  refine n_istore hC dX3_regain_3 (Nat.le_of_ble_eq_true rfl) ?_
  refine n_iconst (v := 0) hC dX3_regain_5 (by decide) ?_
  refine n_istore hC dX3_regain_6 (Nat.le_of_ble_eq_true rfl) ?_
  exact loop ns os [] [] 0 σ hbw.1 rfl (fun n hn => by simp at hn) hbw.2.1 (by simpa using hbw.2.2) (fun _ _ _ _ _ => rfl) ⟨fun k hk => by
    rw [show σ 17 0 k = M.1 11 k from hM.1 11 k hk]
    exact hB.2.2.2.1 k hk, fun k hk => by
    rw [show σ 18 0 k = M.1 13 k from hM.1 13 k hk]
    exact hB.2.2.2.2 k hk⟩
end RG
