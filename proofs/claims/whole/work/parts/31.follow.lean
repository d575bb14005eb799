theorem ms_ms (M : n_M) (c i : Nat) (x y : Int32) : m_s (m_s M c i x) c i y = m_s M c i y := by
  unfold m_s
  refine Prod.ext ?_ rfl
  funext c' i'
  simp only
  split <;> rfl
section WK2
variable {l : Launch} {D : va_G} {ca : Nat → ClassId} {ad : Nat → Nat → Nat} {ae : Nat → Nat} {ts : Nat} {Ex : State → Heap → Prop}
theorem c_jump (hX : ∀ U H, Ex U H → cE ad ae ts U H) (d q : Nat) (n : Int32) (M : n_M) (σ : n_S) (hq : 1 ≤ q ∧ q ≤ 12) (hM : RepC M σ) : n_Ct l (cw D ca ad ae Ex) (d + 1) yX10_follow cX10_follow 4 (some .int) [.ref (ad 20 0), .ref (ad 21 q), .ref (ae 20), .int n] σ (fun rv σ' => rv = some (.int 0) ∧ RepC (m_s M 5 q n) σ') := by
  refine n_ofW (by decide) (Nat.le_of_ble_eq_true rfl) ?_
  intro p e s m below meth c hC
  have hd : cw_dom 21 q := hq
  refine e_gm hC hX wfX10_192 dX10_follow_0 ?_
  refine n_aload_n hC dX10_follow_3 rfl rfl ?_
  refine e_ord hC hX (by omega) (Nat.le_of_ble_eq_true rfl) dX10_follow_4 ?_
  refine e_sw hC hX (by decide) (v := 13) rfl dX10_follow_7 ?_
  refine n_tableIn (off := 32) (tgt := 40) hC dX10_follow_8 (by decide) (by decide) (by decide) (by decide) ?_
  refine n_aload_n hC dX10_follow_40 rfl rfl ?_
  refine n_iload_n hC dX10_follow_41 rfl rfl ?_
  refine p21_next hC (by first | exact rfl | with_reducible assumption) wfX10_128 dX10_follow_42 ?_
  refine n_iconst (v := 0) hC dX10_follow_45 (by decide) ?_
  refine n_iret hC dX10_follow_46 ?_
  exact ⟨rfl, cu_5 hM hq⟩
theorem c_zero (hX : ∀ U H, Ex U H → cE ad ae ts U H) (d q : Nat) (n a : Int32) (t : List Int32) (M : n_M) (σ : n_S) (hq : 1 ≤ q ∧ q ≤ 12) (hM : RepC M σ) (hl : M.2 0 q = t ++ [a]) : n_Ct l (cw D ca ad ae Ex) (d + 1) yX10_follow cX10_follow 4 (some .int) [.ref (ad 20 0), .ref (ad 21 q), .ref (ae 21), .int n] σ (fun rv σ' => rv = some (.int 0) ∧ RepC (if a = 0 then m_s (m_l M 0 q t) 5 q n else m_l M 0 q t) σ') := by
  refine n_ofW (by decide) (Nat.le_of_ble_eq_true rfl) ?_
  intro p e s m below meth c hC
  have hd : cw_dom 21 q := hq
  refine e_gm hC hX wfX10_192 dX10_follow_0 ?_
  refine n_aload_n hC dX10_follow_3 rfl rfl ?_
  refine e_ord hC hX (by omega) (Nat.le_of_ble_eq_true rfl) dX10_follow_4 ?_
  refine e_sw hC hX (by decide) (v := 14) rfl dX10_follow_7 ?_
  refine n_tableIn (off := 39) (tgt := 47) hC dX10_follow_8 (by decide) (by decide) (by decide) (by decide) ?_
  refine n_aload_n hC dX10_follow_47 rfl rfl ?_
  refine n_callV hC (c_pop d q a t M σ hM hq hl) (Nat.le_refl _) (by decide) (by first | exact rfl | with_reducible assumption) rfl rfl rfl ⟨wmX10_57, wi_yX9_pop, wv_yX9_pop, wzX9, wc_yX9_pop⟩ hy_yX9_pop rfl (Nat.le_of_ble_eq_true rfl) dX10_follow_48 (fun rv σ' hpo => ?_)
  obtain ⟨rfl, h1⟩ := hpo
  refine n_if_ne (tgt := 59) hC dX10_follow_51 (by decide) (fun h => ?_) (fun h => ?_)
  · refine n_iconst (v := 0) hC dX10_follow_59 (by decide) ?_
    refine n_iret hC dX10_follow_60 ?_
    rw [if_neg h]
    exact ⟨rfl, h1⟩
  · refine n_aload_n hC dX10_follow_54 rfl rfl ?_
    refine n_iload_n hC dX10_follow_55 rfl rfl ?_
    refine p21_next hC (by first | exact rfl | with_reducible assumption) wfX10_128 dX10_follow_56 ?_
    refine n_iconst (v := 0) hC dX10_follow_59 (by decide) ?_
    refine n_iret hC dX10_follow_60 ?_
    rw [if_pos h]
    exact ⟨rfl, cu_5 h1 hq⟩
theorem c_calls (hX : ∀ U H, Ex U H → cE ad ae ts U H) (d q : Nat) (n : Int32) (M : n_M) (σ : n_S) (hq : 1 ≤ q ∧ q ≤ 12) (hM : RepC M σ) : n_Ct l (cw D ca ad ae Ex) (d + 1) yX10_follow cX10_follow 4 (some .int) [.ref (ad 20 0), .ref (ad 21 q), .ref (ae 22), .int n] σ (fun rv σ' => (20 ≤ (M.2 1 q).length ∧ rv = some (.int (-6)) ∧ RepC M σ') ∨ ((M.2 1 q).length < 20 ∧ rv = some (.int 0) ∧ RepC (m_s (m_l M 1 q (M.2 1 q ++ [M.1 5 q])) 5 q n) σ')) := by
  obtain ⟨h1, h2, h3⟩ := hM.2 1 q hq
  have h1 : (M.2 1 q).length ≤ 20 := h1
  have e1 : σ 21 q 6 = nI (M.2 1 q).length := h2
  have e3 : σ 21 q 12 = M.1 5 q := hM.1 5 q hq
  have e2 : (nI (M.2 1 q).length).toNatClampNeg = (M.2 1 q).length := nI_clamp (by omega)
  refine n_ofW (by decide) (Nat.le_of_ble_eq_true rfl) ?_
  intro p e s m below meth c hC
  have hd : cw_dom 21 q := hq
  have hd2 : cw_dom 23 q := hq
  refine e_gm hC hX wfX10_192 dX10_follow_0 ?_
  refine n_aload_n hC dX10_follow_3 rfl rfl ?_
  refine e_ord hC hX (by omega) (Nat.le_of_ble_eq_true rfl) dX10_follow_4 ?_
  refine e_sw hC hX (by decide) (v := 15) rfl dX10_follow_7 ?_
  refine n_tableIn (off := 53) (tgt := 61) hC dX10_follow_8 (by decide) (by decide) (by decide) (by decide) ?_
  refine n_aload_n hC dX10_follow_61 rfl rfl ?_
  refine g21_returnDepth hC (by first | exact rfl | with_reducible assumption) wfX10_201 dX10_follow_62 ?_
  rw [e1]
  refine n_bipush (v := 20) hC dX10_follow_65 (by decide) ?_
  refine n_icmp_lt (tgt := 73) hC dX10_follow_67 (by decide) (fun h => ?_) (fun h => ?_)
  · have hlt : (M.2 1 q).length < 20 := (nI_ltI (b := 20) (by omega) (by decide)).mp h
    refine n_aload_n hC dX10_follow_73 rfl rfl ?_
    refine g21_returns hC (by first | exact rfl | with_reducible assumption) wfX10_204 dX10_follow_74 ?_
    refine n_aload_n hC dX10_follow_77 rfl rfl ?_
    refine g21_returnDepth hC (by first | exact rfl | with_reducible assumption) wfX10_201 dX10_follow_78 ?_
    refine n_aload_n hC dX10_follow_81 rfl rfl ?_
    refine g21_next hC (by first | exact rfl | with_reducible assumption) wfX10_128 dX10_follow_82 ?_
    rw [e1, e3]
    refine c_iast hC (by first | exact rfl | with_reducible assumption) (fun _ => rfl) (by first | exact vp_in_nI (by omega) (by decide) | with_reducible assumption) dX10_follow_85 ?_
    refine n_aload_n hC dX10_follow_86 rfl rfl ?_
    refine n_dup hC dX10_follow_87 rfl ?_
    refine g21_returnDepth hC (by first | exact rfl | with_reducible assumption) wfX10_201 dX10_follow_88 ?_
    rw [n_up_k, if_neg (by omega), e1]
    refine n_iconst (v := 1) hC dX10_follow_91 (by decide) ?_
    refine n_iadd hC dX10_follow_92 ?_
    refine p21_returnDepth hC (by first | exact rfl | with_reducible assumption) wfX10_201 dX10_follow_93 ?_
    refine n_aload_n hC dX10_follow_96 rfl rfl ?_
    refine n_iload_n hC dX10_follow_97 rfl rfl ?_
    refine p21_next hC (by first | exact rfl | with_reducible assumption) wfX10_128 dX10_follow_98 ?_
    refine n_iconst (v := 0) hC dX10_follow_101 (by decide) ?_
    refine n_iret hC dX10_follow_102 ?_
    refine Or.inr ⟨hlt, rfl, ?_⟩
    refine cu_5 (cl_1 hM hq (fun κ i k a b => ?_) ?_ ?_ ?_) hq
    · simp only [n_up_k]
      repeat (first | rfl | rw [if_neg (by omega)])
    · rw [n_up_k, if_pos ⟨rfl, rfl, rfl⟩]
      simp [nI_1]
    · simp; omega
    · rw [n_up_ne (by omega), n_up_at, e2]
      exact n_h_push h3
  · have hlt : 20 ≤ (M.2 1 q).length := Nat.le_of_not_lt fun z => h (nI_lt (b := 20) z (by decide))
    refine n_bipush (v := -6) hC dX10_follow_70 (by decide) ?_
    refine n_iret hC dX10_follow_72 ?_
    exact Or.inl ⟨hlt, rfl, hM⟩
theorem c_return0 (hX : ∀ U H, Ex U H → cE ad ae ts U H) (d q : Nat) (n : Int32) (M : n_M) (σ : n_S) (hq : 1 ≤ q ∧ q ≤ 12) (hM : RepC M σ) (hl : M.2 1 q = []) : n_Ct l (cw D ca ad ae Ex) (d + 1) yX10_follow cX10_follow 4 (some .int) [.ref (ad 20 0), .ref (ad 21 q), .ref (ae 23), .int n] σ (fun rv σ' => rv = some (.int (-6)) ∧ RepC M σ') := by
  obtain ⟨h1, h2, h3⟩ := hM.2 1 q hq
  have e1 : σ 21 q 6 = nI (M.2 1 q).length := h2
  rw [hl] at e1
  refine n_ofW (by decide) (Nat.le_of_ble_eq_true rfl) ?_
  intro p e s m below meth c hC
  have hd : cw_dom 21 q := hq
  refine e_gm hC hX wfX10_192 dX10_follow_0 ?_
  refine n_aload_n hC dX10_follow_3 rfl rfl ?_
  refine e_ord hC hX (by omega) (Nat.le_of_ble_eq_true rfl) dX10_follow_4 ?_
  refine e_sw hC hX (by decide) (v := 16) rfl dX10_follow_7 ?_
  refine n_tableIn (off := 95) (tgt := 103) hC dX10_follow_8 (by decide) (by decide) (by decide) (by decide) ?_
  refine n_aload_n hC dX10_follow_103 rfl rfl ?_
  refine g21_returnDepth hC (by first | exact rfl | with_reducible assumption) wfX10_201 dX10_follow_104 ?_
  rw [e1]
  refine n_iconst (v := 1) hC dX10_follow_107 (by decide) ?_
  refine n_icmp_ge (tgt := 114) hC dX10_follow_108 (by decide) (fun h => ?_) (fun h => ?_)
  · exact absurd h (by decide)
  · refine n_bipush (v := -6) hC dX10_follow_111 (by decide) ?_
    refine n_iret hC dX10_follow_113 ?_
    exact ⟨rfl, hM⟩
theorem c_return1 (hX : ∀ U H, Ex U H → cE ad ae ts U H) (d q : Nat) (n a : Int32) (t : List Int32) (M : n_M) (σ : n_S) (hq : 1 ≤ q ∧ q ≤ 12) (hM : RepC M σ) (hl : M.2 1 q = t ++ [a]) : n_Ct l (cw D ca ad ae Ex) (d + 1) yX10_follow cX10_follow 4 (some .int) [.ref (ad 20 0), .ref (ad 21 q), .ref (ae 23), .int n] σ (fun rv σ' => rv = some (.int 0) ∧ RepC (m_s (m_l M 1 q t) 5 q a) σ') := by
  obtain ⟨h1, h2, h3⟩ := hM.2 1 q hq
  have h1 : (M.2 1 q).length ≤ 20 := h1
  have h3 : n_h (σ 23 q) (M.2 1 q) := h3
  have e1 : σ 21 q 6 = nI (M.2 1 q).length := h2
  have e9 : (M.2 1 q).length = t.length + 1 := by rw [hl]; simp
  rw [e9] at e1 h1
  have e2 : (nI t.length).toNatClampNeg = t.length := nI_clamp (by omega)
  have e4 : σ 23 q t.length = a := by
    have := h3 t.length (by omega)
    rw [hl] at this
    simpa using this
  refine n_ofW (by decide) (Nat.le_of_ble_eq_true rfl) ?_
  intro p e s m below meth c hC
  have hd : cw_dom 21 q := hq
  have hd2 : cw_dom 23 q := hq
  refine e_gm hC hX wfX10_192 dX10_follow_0 ?_
  refine n_aload_n hC dX10_follow_3 rfl rfl ?_
  refine e_ord hC hX (by omega) (Nat.le_of_ble_eq_true rfl) dX10_follow_4 ?_
  refine e_sw hC hX (by decide) (v := 16) rfl dX10_follow_7 ?_
  refine n_tableIn (off := 95) (tgt := 103) hC dX10_follow_8 (by decide) (by decide) (by decide) (by decide) ?_
  refine n_aload_n hC dX10_follow_103 rfl rfl ?_
  refine g21_returnDepth hC (by first | exact rfl | with_reducible assumption) wfX10_201 dX10_follow_104 ?_
  rw [e1]
  refine n_iconst (v := 1) hC dX10_follow_107 (by decide) ?_
  refine n_icmp_ge (tgt := 114) hC dX10_follow_108 (by decide) (fun h => ?_) (fun h => ?_)
  · clear h
    refine n_aload_n hC dX10_follow_114 rfl rfl ?_
    refine n_dup hC dX10_follow_115 rfl ?_
    refine g21_returnDepth hC (by first | exact rfl | with_reducible assumption) wfX10_201 dX10_follow_116 ?_
    rw [e1]
    refine n_iconst (v := 1) hC dX10_follow_119 (by decide) ?_
    refine n_isub hC dX10_follow_120 ?_
    rw [nI_pred]
    refine p21_returnDepth hC (by first | exact rfl | with_reducible assumption) wfX10_201 dX10_follow_121 ?_
    refine n_aload_n hC dX10_follow_124 rfl rfl ?_
    refine n_aload_n hC dX10_follow_125 rfl rfl ?_
    refine g21_returns hC (by first | exact rfl | with_reducible assumption) wfX10_204 dX10_follow_126 ?_
    refine n_aload_n hC dX10_follow_129 rfl rfl ?_
    refine g21_returnDepth hC (by first | exact rfl | with_reducible assumption) wfX10_201 dX10_follow_130 ?_
    rw [n_up_k, if_pos ⟨rfl, rfl, rfl⟩]
    refine c_iald hC (by first | exact rfl | with_reducible assumption) (fun _ => rfl) (by first | exact vp_in_nI (by omega) (by decide) | with_reducible assumption) dX10_follow_133 ?_
    rw [e2, n_up_k, if_neg (by omega), e4]
    refine p21_next hC (by first | exact rfl | with_reducible assumption) wfX10_128 dX10_follow_134 ?_
    refine n_iconst (v := 0) hC dX10_follow_137 (by decide) ?_
    refine n_iret hC dX10_follow_138 ?_
    refine ⟨rfl, cu_5 (cl_1 hM hq (fun κ i k a b => ?_) ?_ ?_ ?_) hq⟩
    · simp only [n_up_k]
      repeat (first | rfl | rw [if_neg (by omega)])
    · rw [n_up_k, if_pos ⟨rfl, rfl, rfl⟩]
    · omega
    · rw [n_up_ne (by omega)]
      intro i hi
      have := h3 i (by omega)
      rw [hl, List.getD_eq_getElem?_getD, List.getElem?_append_left hi] at this
      rw [List.getD_eq_getElem?_getD]
      exact this
  · exact absurd (nI_le (a := 1) (by omega) (by omega)) h
theorem c_exit (hX : ∀ U H, Ex U H → cE ad ae ts U H) (d q : Nat) (n : Int32) (M : n_M) (σ : n_S) (hM : RepC M σ) : n_Ct l (cw D ca ad ae Ex) (d + 1) yX10_follow cX10_follow 4 (some .int) [.ref (ad 20 0), .ref (ad 21 q), .ref (ae 24), .int n] σ (fun rv σ' => rv = some (.int 3) ∧ RepC M σ') := by
  refine n_ofW (by decide) (Nat.le_of_ble_eq_true rfl) ?_
  intro p e s m below meth c hC
  refine e_gm hC hX wfX10_192 dX10_follow_0 ?_
  refine n_aload_n hC dX10_follow_3 rfl rfl ?_
  refine e_ord hC hX (by omega) (Nat.le_of_ble_eq_true rfl) dX10_follow_4 ?_
  refine e_sw hC hX (by decide) (v := 0) rfl dX10_follow_7 ?_
  refine n_tableOut (tgt := 139) hC dX10_follow_8 (by decide) (by decide) ?_
  refine n_iconst (v := 3) hC dX10_follow_139 (by decide) ?_
  refine n_iret hC dX10_follow_140 ?_
  exact ⟨rfl, hM⟩
end WK2
