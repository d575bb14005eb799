theorem ml_ml (M : n_M) (c i : Nat) (x y : List Int32) : m_l (m_l M c i x) c i y = m_l M c i y := by
  unfold m_l
  refine Prod.ext rfl ?_
  funext c' i'
  simp only
  split <;> rfl
theorem ml_id {M : n_M} {c i : Nat} {x : List Int32} (h : M.2 c i = x) : m_l M c i x = M := by
  unfold m_l
  refine Prod.ext rfl ?_
  funext c' i'
  simp only
  split
  · rename_i e
    rw [e.1, e.2, h]
  · rfl
def m_res (k : Nat) (a b : Int32) : Int32 := match k with
  | 7 => a + b
  | 8 => a - b
  | 9 => a * b
  | 10 => a / b
  | 11 => a - a / b * b
  | 12 => a &&& b
  | 13 => a ||| b
  | 14 => a ^^^ b
  | 15 => a <<< ((b &&& 31) &&& 31)
  | 16 => a >>> ((b &&& 31) &&& 31)
  | 17 => if a = b then 1 else 0
  | 18 => if a < b then 1 else 0
  | _ => if b < a then 1 else 0
def m_shr (k : Nat) (n : Int32) (st st' : List Int32) : Prop := match k with
  | 0 => st' = st ++ [n]
  | 1 => ∃ t c, st = t ++ [c] ∧ st' = t ++ [c] ++ [c]
  | 2 => ∃ c, st = st' ++ [c]
  | 3 => ∃ t b c, st = t ++ [b] ++ [c] ∧ st' = t ++ [c] ++ [b]
  | 4 => ∃ t b c, st = t ++ [b] ++ [c] ∧ st' = t ++ [b] ++ [c] ++ [b]
  | 5 => ∃ t a b c, st = t ++ [a] ++ [b] ++ [c] ∧ st' = t ++ [b] ++ [c] ++ [a]
  | 6 => ∃ t c, st = t ++ [c] ∧ st' = t ++ [c ^^^ (-1)]
  | _ => False
section WK1
variable {l : Launch} {D : va_G} {ca : Nat → ClassId} {ad : Nat → Nat → Nat} {ae : Nat → Nat} {ts : Nat} {Ex : State → Heap → Prop}
theorem c_pp (d q : Nat) (x : Int32) (t : List Int32) (M : n_M) (σ : n_S) (hq : 1 ≤ q ∧ q ≤ 12) (h : RepC (m_l M 0 q (t ++ [x])) σ) : n_Ct l (cw D ca ad ae Ex) d yX9_pop cX9_pop 1 (some .int) [.ref (ad 21 q)] σ (fun rv σ' => rv = some (.int x) ∧ RepC (m_l M 0 q t) σ') := by
  have := c_pop (l := l) (D := D) (ca := ca) (ad := ad) (ae := ae) (Ex := Ex) d q x t (m_l M 0 q (t ++ [x])) σ h hq (ml_e _ _ _ _)
  rw [ml_ml] at this
  exact this
theorem c_ps (d q : Nat) (x : Int32) (t : List Int32) (M : n_M) (σ : n_S) (hq : 1 ≤ q ∧ q ≤ 12) (h : RepC (m_l M 0 q t) σ) (hl : t.length < 40) : n_Ct l (cw D ca ad ae Ex) d yX9_push cX9_push 2 none [.ref (ad 21 q), .int x] σ (fun rv σ' => rv = none ∧ RepC (m_l M 0 q (t ++ [x])) σ') := by
  have := c_push (l := l) (D := D) (ca := ca) (ad := ad) (ae := ae) (Ex := Ex) d q x (m_l M 0 q t) σ h hq (by rw [ml_e]; exact hl)
  rw [ml_e, ml_ml] at this
  exact this

theorem c_resultOf (hX : ∀ U H, Ex U H → cE ad ae ts U H) (d k : Nat) (hk : 7 ≤ k ∧ k ≤ 19) (a b : Int32) (hb : ¬ (b = 0 ∧ (k = 10 ∨ k = 11))) (σ : n_S) : n_Ct l (cw D ca ad ae Ex) (d + 1) yX10_resultOf cX10_resultOf 3 (some .int) [.ref (ae k), .int a, .int b] σ (fun rv σ' => rv = some (.int (m_res k a b)) ∧ σ' = σ) := by
  refine n_ofW (by decide) (Nat.le_of_ble_eq_true rfl) ?_
  intro p e s m below meth c hC
  have hk7 : k = 7 ∨ k = 8 ∨ k = 9 ∨ k = 10 ∨ k = 11 ∨ k = 12 ∨ k = 13 ∨ k = 14 ∨ k = 15 ∨ k = 16 ∨ k = 17 ∨ k = 18 ∨ k = 19 := by omega
  refine e_gm hC hX wfX10_192 dX10_resultOf_0 ?_
  refine n_aload_n hC dX10_resultOf_3 rfl rfl ?_
  refine e_ord hC hX (by omega) (Nat.le_of_ble_eq_true rfl) dX10_resultOf_4 ?_
  rcases hk7 with rfl | rfl | rfl | rfl | rfl | rfl | rfl | rfl | rfl | rfl | rfl | rfl | rfl
  · refine e_sw hC hX (by decide) (v := 1) rfl dX10_resultOf_7 ?_
    refine n_tableIn (off := 64) (tgt := 72) hC dX10_resultOf_8 (by decide) (by decide) (by decide) (by decide) ?_
    refine n_iload_n hC dX10_resultOf_72 rfl rfl ?_
    refine n_iload_n hC dX10_resultOf_73 rfl rfl ?_
    refine n_iadd hC dX10_resultOf_74 ?_
    refine n_iret hC dX10_resultOf_75 ?_
    exact ⟨rfl, rfl⟩
  · refine e_sw hC hX (by decide) (v := 2) rfl dX10_resultOf_7 ?_
    refine n_tableIn (off := 68) (tgt := 76) hC dX10_resultOf_8 (by decide) (by decide) (by decide) (by decide) ?_
    refine n_iload_n hC dX10_resultOf_76 rfl rfl ?_
    refine n_iload_n hC dX10_resultOf_77 rfl rfl ?_
    refine n_isub hC dX10_resultOf_78 ?_
    refine n_iret hC dX10_resultOf_79 ?_
    exact ⟨rfl, rfl⟩
  · refine e_sw hC hX (by decide) (v := 3) rfl dX10_resultOf_7 ?_
    refine n_tableIn (off := 72) (tgt := 80) hC dX10_resultOf_8 (by decide) (by decide) (by decide) (by decide) ?_
    refine n_iload_n hC dX10_resultOf_80 rfl rfl ?_
    refine n_iload_n hC dX10_resultOf_81 rfl rfl ?_
    refine n_imul hC dX10_resultOf_82 ?_
    refine n_iret hC dX10_resultOf_83 ?_
    exact ⟨rfl, rfl⟩
  · refine e_sw hC hX (by decide) (v := 4) rfl dX10_resultOf_7 ?_
    refine n_tableIn (off := 76) (tgt := 84) hC dX10_resultOf_8 (by decide) (by decide) (by decide) (by decide) ?_
    refine n_iload_n hC dX10_resultOf_84 rfl rfl ?_
    refine n_if_ne (tgt := 92) hC dX10_resultOf_85 (by decide) (fun h => ?_) (fun h => ?_)
    · refine n_iload_n hC dX10_resultOf_92 rfl rfl ?_
      refine n_iload_n hC dX10_resultOf_93 rfl rfl ?_
      refine n_idiv hC dX10_resultOf_94 h ?_
      refine n_iret hC dX10_resultOf_95 ?_
      exact ⟨rfl, rfl⟩
    · exact absurd ⟨h, by omega⟩ hb
  · refine e_sw hC hX (by decide) (v := 5) rfl dX10_resultOf_7 ?_
    refine n_tableIn (off := 88) (tgt := 96) hC dX10_resultOf_8 (by decide) (by decide) (by decide) (by decide) ?_
    refine n_iload_n hC dX10_resultOf_96 rfl rfl ?_
    refine n_if_ne (tgt := 104) hC dX10_resultOf_97 (by decide) (fun h => ?_) (fun h => ?_)
    · refine n_iload_n hC dX10_resultOf_104 rfl rfl ?_
      refine n_iload_n hC dX10_resultOf_105 rfl rfl ?_
      refine n_irem hC dX10_resultOf_106 h ?_
      refine n_iret hC dX10_resultOf_107 ?_
      exact ⟨rfl, rfl⟩
    · exact absurd ⟨h, by omega⟩ hb
  · refine e_sw hC hX (by decide) (v := 6) rfl dX10_resultOf_7 ?_
    refine n_tableIn (off := 100) (tgt := 108) hC dX10_resultOf_8 (by decide) (by decide) (by decide) (by decide) ?_
    refine n_iload_n hC dX10_resultOf_108 rfl rfl ?_
    refine n_iload_n hC dX10_resultOf_109 rfl rfl ?_
    refine n_iand hC dX10_resultOf_110 ?_
    refine n_iret hC dX10_resultOf_111 ?_
    exact ⟨rfl, rfl⟩
  · refine e_sw hC hX (by decide) (v := 7) rfl dX10_resultOf_7 ?_
    refine n_tableIn (off := 104) (tgt := 112) hC dX10_resultOf_8 (by decide) (by decide) (by decide) (by decide) ?_
    refine n_iload_n hC dX10_resultOf_112 rfl rfl ?_
    refine n_iload_n hC dX10_resultOf_113 rfl rfl ?_
    refine n_ior hC dX10_resultOf_114 ?_
    refine n_iret hC dX10_resultOf_115 ?_
    exact ⟨rfl, rfl⟩
  · refine e_sw hC hX (by decide) (v := 8) rfl dX10_resultOf_7 ?_
    refine n_tableIn (off := 108) (tgt := 116) hC dX10_resultOf_8 (by decide) (by decide) (by decide) (by decide) ?_
    refine n_iload_n hC dX10_resultOf_116 rfl rfl ?_
    refine n_iload_n hC dX10_resultOf_117 rfl rfl ?_
    refine n_ixor hC dX10_resultOf_118 ?_
    refine n_iret hC dX10_resultOf_119 ?_
    exact ⟨rfl, rfl⟩
  · refine e_sw hC hX (by decide) (v := 9) rfl dX10_resultOf_7 ?_
    refine n_tableIn (off := 112) (tgt := 120) hC dX10_resultOf_8 (by decide) (by decide) (by decide) (by decide) ?_
    refine n_iload_n hC dX10_resultOf_120 rfl rfl ?_
    refine n_iload_n hC dX10_resultOf_121 rfl rfl ?_
    refine n_bipush (v := 31) hC dX10_resultOf_122 (by decide) ?_
    refine n_iand hC dX10_resultOf_124 ?_
    refine n_ishl hC dX10_resultOf_125 ?_
    refine n_iret hC dX10_resultOf_126 ?_
    exact ⟨rfl, rfl⟩
  · refine e_sw hC hX (by decide) (v := 10) rfl dX10_resultOf_7 ?_
    refine n_tableIn (off := 119) (tgt := 127) hC dX10_resultOf_8 (by decide) (by decide) (by decide) (by decide) ?_
    refine n_iload_n hC dX10_resultOf_127 rfl rfl ?_
    refine n_iload_n hC dX10_resultOf_128 rfl rfl ?_
    refine n_bipush (v := 31) hC dX10_resultOf_129 (by decide) ?_
    refine n_iand hC dX10_resultOf_131 ?_
    refine n_ishr hC dX10_resultOf_132 ?_
    refine n_iret hC dX10_resultOf_133 ?_
    exact ⟨rfl, rfl⟩
  · refine e_sw hC hX (by decide) (v := 11) rfl dX10_resultOf_7 ?_
    refine n_tableIn (off := 126) (tgt := 134) hC dX10_resultOf_8 (by decide) (by decide) (by decide) (by decide) ?_
    refine n_iload_n hC dX10_resultOf_134 rfl rfl ?_
    refine n_iload_n hC dX10_resultOf_135 rfl rfl ?_
    refine n_icmp_ne (tgt := 143) hC dX10_resultOf_136 (by decide) (fun h => ?_) (fun h => ?_)
    · refine n_iconst (v := 0) hC dX10_resultOf_143 (by decide) ?_
      refine n_iret hC dX10_resultOf_144 ?_
      exact ⟨congrArg (fun z => some (Value.int z)) (if_neg h).symm, rfl⟩
    · refine n_iconst (v := 1) hC dX10_resultOf_139 (by decide) ?_
      refine n_goto (tgt := 144) hC dX10_resultOf_140 (by decide) ?_
      refine n_iret hC dX10_resultOf_144 ?_
      exact ⟨congrArg (fun z => some (Value.int z)) (if_pos h).symm, rfl⟩
  · refine e_sw hC hX (by decide) (v := 12) rfl dX10_resultOf_7 ?_
    refine n_tableIn (off := 137) (tgt := 145) hC dX10_resultOf_8 (by decide) (by decide) (by decide) (by decide) ?_
    refine n_iload_n hC dX10_resultOf_145 rfl rfl ?_
    refine n_iload_n hC dX10_resultOf_146 rfl rfl ?_
    refine n_icmp_ge (tgt := 154) hC dX10_resultOf_147 (by decide) (fun h => ?_) (fun h => ?_)
    · refine n_iconst (v := 0) hC dX10_resultOf_154 (by decide) ?_
      refine n_iret hC dX10_resultOf_155 ?_
      exact ⟨congrArg (fun z => some (Value.int z)) (if_neg (Int32.not_lt.mpr h)).symm, rfl⟩
    · refine n_iconst (v := 1) hC dX10_resultOf_150 (by decide) ?_
      refine n_goto (tgt := 155) hC dX10_resultOf_151 (by decide) ?_
      refine n_iret hC dX10_resultOf_155 ?_
      exact ⟨congrArg (fun z => some (Value.int z)) (if_pos (Int32.not_le.mp h)).symm, rfl⟩
  · refine e_sw hC hX (by decide) (v := 0) rfl dX10_resultOf_7 ?_
    refine n_tableOut (tgt := 156) hC dX10_resultOf_8 (by decide) (by decide) ?_
    refine n_iload_n hC dX10_resultOf_156 rfl rfl ?_
    refine n_iload_n hC dX10_resultOf_157 rfl rfl ?_
    refine n_icmp_le (tgt := 165) hC dX10_resultOf_158 (by decide) (fun h => ?_) (fun h => ?_)
    · refine n_iconst (v := 0) hC dX10_resultOf_165 (by decide) ?_
      refine n_iret hC dX10_resultOf_166 ?_
      exact ⟨congrArg (fun z => some (Value.int z)) (if_neg (Int32.not_lt.mpr h)).symm, rfl⟩
    · refine n_iconst (v := 1) hC dX10_resultOf_161 (by decide) ?_
      refine n_goto (tgt := 166) hC dX10_resultOf_162 (by decide) ?_
      refine n_iret hC dX10_resultOf_166 ?_
      exact ⟨congrArg (fun z => some (Value.int z)) (if_pos (Int32.not_le.mp h)).symm, rfl⟩
theorem c_compute (hX : ∀ U H, Ex U H → cE ad ae ts U H) (d k q : Nat) (hk : 7 ≤ k ∧ k ≤ 19) (a b : Int32) (t : List Int32) (M : n_M) (σ : n_S) (hq : 1 ≤ q ∧ q ≤ 12) (hM : RepC (m_l M 0 q (t ++ [a] ++ [b])) σ) (hl : t.length < 40) : n_Ct l (cw D ca ad ae Ex) (d + 2) yX10_compute cX10_compute 5 (some .int) [.ref (ad 20 0), .ref (ad 21 q), .ref (ae k)] σ (fun rv σ' => ((b = 0 ∧ (k = 10 ∨ k = 11)) ∧ rv = some (.int (-4)) ∧ RepC (m_l M 0 q t) σ') ∨ (¬ (b = 0 ∧ (k = 10 ∨ k = 11)) ∧ rv = some (.int 0) ∧ RepC (m_l M 0 q (t ++ [m_res k a b])) σ')) := by
  refine n_ofW (by decide) (Nat.le_of_ble_eq_true rfl) ?_
  intro p e s m below meth c hC
  have hd : cw_dom 21 q := hq
  refine n_aload_n hC dX10_compute_0 rfl rfl ?_
  refine n_callV hC (c_pp (d + 1) q b (t ++ [a]) M σ hq hM) (Nat.le_refl _) (by decide) (by first | exact rfl | with_reducible assumption) rfl rfl rfl ⟨wmX10_57, wi_yX9_pop, wv_yX9_pop, wzX9, wc_yX9_pop⟩ hy_yX9_pop rfl (Nat.le_of_ble_eq_true rfl) dX10_compute_1 (fun rv σ' hpo => ?_)
  obtain ⟨rfl, h1⟩ := hpo
  refine n_istore_n hC dX10_compute_4 rfl (Nat.le_of_ble_eq_true rfl) ?_
  refine n_aload_n hC dX10_compute_5 rfl rfl ?_
  refine n_callV hC (c_pp (d + 1) q a t M σ' hq h1) (Nat.le_refl _) (by decide) (by first | exact rfl | with_reducible assumption) rfl rfl rfl ⟨wmX10_57, wi_yX9_pop, wv_yX9_pop, wzX9, wc_yX9_pop⟩ hy_yX9_pop rfl (Nat.le_of_ble_eq_true rfl) dX10_compute_6 (fun rv σ' hpo => ?_)
  obtain ⟨rfl, h2⟩ := hpo
  rename_i σ1
  have fin : ¬ (b = 0 ∧ (k = 10 ∨ k = 11)) → n_W p l e s m [Value.ref (ad 20 0), Value.ref (ad 21 q), Value.ref (ae k)].toArray below meth c (cw D ca ad ae Ex) (d + 2) (fun rv σ' => ((b = 0 ∧ (k = 10 ∨ k = 11)) ∧ rv = some (.int (-4)) ∧ RepC (m_l M 0 q t) σ') ∨ (¬ (b = 0 ∧ (k = 10 ∨ k = 11)) ∧ rv = some (.int 0) ∧ RepC (m_l M 0 q (t ++ [m_res k a b])) σ')) 32 [some (.ref (ad 20 0)), some (.ref (ad 21 q)), some (.ref (ae k)), some (.int b), some (.int a)] [] σ' := by
    intro hn
    refine n_aload_n hC dX10_compute_32 rfl rfl ?_
    refine n_aload_n hC dX10_compute_33 rfl rfl ?_
    refine n_iload hC dX10_compute_34 rfl ?_
    refine n_iload_n hC dX10_compute_36 rfl rfl ?_
    refine n_callS hC (c_resultOf hX d k hk a b hn σ') (Nat.le_refl _) (by decide) ⟨wmX10_188, ws_yX10_resultOf, wzX10, wc_yX10_resultOf⟩ hy_yX10_resultOf rfl (Nat.le_of_ble_eq_true rfl) dX10_compute_37 (fun rv σ' hpo => ?_)
    obtain ⟨rfl, rfl⟩ := hpo
    refine n_callV hC (c_ps (d + 1) q (m_res k a b) t M _ hq h2 hl) (Nat.le_refl _) (by decide) (by first | exact rfl | with_reducible assumption) rfl rfl rfl ⟨wmX10_159, wi_yX9_push, wv_yX9_push, wzX9, wc_yX9_push⟩ hy_yX9_push rfl (Nat.le_of_ble_eq_true rfl) dX10_compute_40 (fun rv σ' hpo => ?_)
    obtain ⟨rfl, h3⟩ := hpo
    refine n_iconst (v := 0) hC dX10_compute_43 (by decide) ?_
    refine n_iret hC dX10_compute_44 ?_
    exact Or.inr ⟨hn, rfl, h3⟩
  refine n_istore hC dX10_compute_9 (Nat.le_of_ble_eq_true rfl) ?_
  refine n_iload_n hC dX10_compute_11 rfl rfl ?_
  refine n_if_ne (tgt := 32) hC dX10_compute_12 (by decide) (fun h => ?_) (fun h => ?_)
  · exact fin (fun z => h z.1)
  · have hb0 : b = 0 := h
    clear h
    by_cases k10 : k = 10
    · subst k10
      refine n_aload_n hC dX10_compute_15 rfl rfl ?_
      refine e_gs hC hX (k := 10) (by decide) wfX10_182 dX10_compute_16 ?_
      first | refine e_aceq_t (tgt := 29) hC dX10_compute_19 (by decide) ?_ | refine e_aceq_f (tgt := 29) hC hX (by omega) (by omega) (by omega) dX10_compute_19 (by decide) ?_
      refine n_bipush (v := -4) hC dX10_compute_29 (by decide) ?_
      refine n_iret hC dX10_compute_31 ?_
      exact Or.inl ⟨⟨hb0, Or.inl rfl⟩, rfl, h2⟩
    · by_cases k11 : k = 11
      · subst k11
        refine n_aload_n hC dX10_compute_15 rfl rfl ?_
        refine e_gs hC hX (k := 10) (by decide) wfX10_182 dX10_compute_16 ?_
        first | refine e_aceq_t (tgt := 29) hC dX10_compute_19 (by decide) ?_ | refine e_aceq_f (tgt := 29) hC hX (by omega) (by omega) (by omega) dX10_compute_19 (by decide) ?_
        refine n_aload_n hC dX10_compute_22 rfl rfl ?_
        refine e_gs hC hX (k := 11) (by decide) wfX10_185 dX10_compute_23 ?_
        first | refine e_acne_f (tgt := 32) hC dX10_compute_26 (by decide) ?_ | refine e_acne_t (tgt := 32) hC hX (by omega) (by omega) (by omega) dX10_compute_26 (by decide) ?_
        refine n_bipush (v := -4) hC dX10_compute_29 (by decide) ?_
        refine n_iret hC dX10_compute_31 ?_
        exact Or.inl ⟨⟨hb0, Or.inr rfl⟩, rfl, h2⟩
      · refine n_aload_n hC dX10_compute_15 rfl rfl ?_
        refine e_gs hC hX (k := 10) (by decide) wfX10_182 dX10_compute_16 ?_
        first | refine e_aceq_t (tgt := 29) hC dX10_compute_19 (by decide) ?_ | refine e_aceq_f (tgt := 29) hC hX (by omega) (by omega) (by omega) dX10_compute_19 (by decide) ?_
        refine n_aload_n hC dX10_compute_22 rfl rfl ?_
        refine e_gs hC hX (k := 11) (by decide) wfX10_185 dX10_compute_23 ?_
        first | refine e_acne_f (tgt := 32) hC dX10_compute_26 (by decide) ?_ | refine e_acne_t (tgt := 32) hC hX (by omega) (by omega) (by omega) dX10_compute_26 (by decide) ?_
        exact fin (fun z => z.2.elim k10 k11)
theorem c_shufs (hX : ∀ U H, Ex U H → cE ad ae ts U H) (d k q : Nat) (hk : 3 ≤ k ∧ k ≤ 5) (c0 : Int32) (n : Int32) (st st' : List Int32) (M : n_M) (σ : n_S) (hq : 1 ≤ q ∧ q ≤ 12) (hs : m_shr k n (st ++ [c0]) st') (hM : RepC (m_l M 0 q st) σ) (hl : st'.length ≤ 40) : n_Ct l (cw D ca ad ae Ex) (d + 1) yX10_shuffleSeveral cX10_shuffleSeveral 6 none [.ref (ad 20 0), .ref (ad 21 q), .ref (ae k), .int c0] σ (fun rv σ' => rv = none ∧ RepC (m_l M 0 q st') σ') := by
  refine n_ofW (by decide) (Nat.le_of_ble_eq_true rfl) ?_
  intro p e s m below meth c hC
  have hd : cw_dom 21 q := hq
  have hk3 : k = 3 ∨ k = 4 ∨ k = 5 := by omega
  rcases hk3 with rfl | rfl | rfl
  · obtain ⟨t, b, c1, e1, rfl⟩ := hs
    obtain ⟨rfl, e2⟩ := List.append_inj' e1 rfl
    obtain rfl : c0 = c1 := by simpa using e2
    simp at hl
    refine n_aload_n hC dX10_shuffleSeveral_0 rfl rfl ?_
    refine n_callV hC (c_pp d q b t M σ hq hM) (Nat.le_refl _) (by decide) (by first | exact rfl | with_reducible assumption) rfl rfl rfl ⟨wmX10_57, wi_yX9_pop, wv_yX9_pop, wzX9, wc_yX9_pop⟩ hy_yX9_pop rfl (Nat.le_of_ble_eq_true rfl) dX10_shuffleSeveral_1 (fun rv σ' hpo => ?_)
    obtain ⟨rfl, h1⟩ := hpo
    refine n_istore hC dX10_shuffleSeveral_4 (Nat.le_of_ble_eq_true rfl) ?_
    refine n_aload_n hC dX10_shuffleSeveral_6 rfl rfl ?_
    refine e_gs hC hX (k := 3) (by decide) wfX10_176 dX10_shuffleSeveral_7 ?_
    first | refine e_acne_f (tgt := 27) hC dX10_shuffleSeveral_10 (by decide) ?_ | refine e_acne_t (tgt := 27) hC hX (by omega) (by omega) (by omega) dX10_shuffleSeveral_10 (by decide) ?_
    refine n_aload_n hC dX10_shuffleSeveral_13 rfl rfl ?_
    refine n_iload_n hC dX10_shuffleSeveral_14 rfl rfl ?_
    refine n_callV hC (c_ps d q c0 t M _ hq h1 (by omega)) (Nat.le_refl _) (by decide) (by first | exact rfl | with_reducible assumption) rfl rfl rfl ⟨wmX10_159, wi_yX9_push, wv_yX9_push, wzX9, wc_yX9_push⟩ hy_yX9_push rfl (Nat.le_of_ble_eq_true rfl) dX10_shuffleSeveral_15 (fun rv σ' hpo => ?_)
    obtain ⟨rfl, h2⟩ := hpo
    refine n_aload_n hC dX10_shuffleSeveral_18 rfl rfl ?_
    refine n_iload hC dX10_shuffleSeveral_19 rfl ?_
    refine n_callV hC (c_ps d q b (t ++ [c0]) M _ hq h2 (by simp; omega)) (Nat.le_refl _) (by decide) (by first | exact rfl | with_reducible assumption) rfl rfl rfl ⟨wmX10_159, wi_yX9_push, wv_yX9_push, wzX9, wc_yX9_push⟩ hy_yX9_push rfl (Nat.le_of_ble_eq_true rfl) dX10_shuffleSeveral_21 (fun rv σ' hpo => ?_)
    obtain ⟨rfl, h3⟩ := hpo
    refine n_goto (tgt := 77) hC dX10_shuffleSeveral_24 (by decide) ?_
    refine n_vret hC dX10_shuffleSeveral_77 ?_
    exact ⟨rfl, h3⟩
  · obtain ⟨t, b, c1, e1, rfl⟩ := hs
    obtain ⟨rfl, e2⟩ := List.append_inj' e1 rfl
    obtain rfl : c0 = c1 := by simpa using e2
    simp at hl
    refine n_aload_n hC dX10_shuffleSeveral_0 rfl rfl ?_
    refine n_callV hC (c_pp d q b t M σ hq hM) (Nat.le_refl _) (by decide) (by first | exact rfl | with_reducible assumption) rfl rfl rfl ⟨wmX10_57, wi_yX9_pop, wv_yX9_pop, wzX9, wc_yX9_pop⟩ hy_yX9_pop rfl (Nat.le_of_ble_eq_true rfl) dX10_shuffleSeveral_1 (fun rv σ' hpo => ?_)
    obtain ⟨rfl, h1⟩ := hpo
    refine n_istore hC dX10_shuffleSeveral_4 (Nat.le_of_ble_eq_true rfl) ?_
    refine n_aload_n hC dX10_shuffleSeveral_6 rfl rfl ?_
    refine e_gs hC hX (k := 3) (by decide) wfX10_176 dX10_shuffleSeveral_7 ?_
    first | refine e_acne_f (tgt := 27) hC dX10_shuffleSeveral_10 (by decide) ?_ | refine e_acne_t (tgt := 27) hC hX (by omega) (by omega) (by omega) dX10_shuffleSeveral_10 (by decide) ?_
    refine n_aload_n hC dX10_shuffleSeveral_27 rfl rfl ?_
    refine e_gs hC hX (k := 4) (by decide) wfX10_179 dX10_shuffleSeveral_28 ?_
    first | refine e_acne_f (tgt := 54) hC dX10_shuffleSeveral_31 (by decide) ?_ | refine e_acne_t (tgt := 54) hC hX (by omega) (by omega) (by omega) dX10_shuffleSeveral_31 (by decide) ?_
    refine n_aload_n hC dX10_shuffleSeveral_34 rfl rfl ?_
    refine n_iload hC dX10_shuffleSeveral_35 rfl ?_
    refine n_callV hC (c_ps d q b t M _ hq h1 (by omega)) (Nat.le_refl _) (by decide) (by first | exact rfl | with_reducible assumption) rfl rfl rfl ⟨wmX10_159, wi_yX9_push, wv_yX9_push, wzX9, wc_yX9_push⟩ hy_yX9_push rfl (Nat.le_of_ble_eq_true rfl) dX10_shuffleSeveral_37 (fun rv σ' hpo => ?_)
    obtain ⟨rfl, h2⟩ := hpo
    refine n_aload_n hC dX10_shuffleSeveral_40 rfl rfl ?_
    refine n_iload_n hC dX10_shuffleSeveral_41 rfl rfl ?_
    refine n_callV hC (c_ps d q c0 (t ++ [b]) M _ hq h2 (by simp; omega)) (Nat.le_refl _) (by decide) (by first | exact rfl | with_reducible assumption) rfl rfl rfl ⟨wmX10_159, wi_yX9_push, wv_yX9_push, wzX9, wc_yX9_push⟩ hy_yX9_push rfl (Nat.le_of_ble_eq_true rfl) dX10_shuffleSeveral_42 (fun rv σ' hpo => ?_)
    obtain ⟨rfl, h3⟩ := hpo
    refine n_aload_n hC dX10_shuffleSeveral_45 rfl rfl ?_
    refine n_iload hC dX10_shuffleSeveral_46 rfl ?_
    refine n_callV hC (c_ps d q b (t ++ [b] ++ [c0]) M _ hq h3 (by simp; omega)) (Nat.le_refl _) (by decide) (by first | exact rfl | with_reducible assumption) rfl rfl rfl ⟨wmX10_159, wi_yX9_push, wv_yX9_push, wzX9, wc_yX9_push⟩ hy_yX9_push rfl (Nat.le_of_ble_eq_true rfl) dX10_shuffleSeveral_48 (fun rv σ' hpo => ?_)
    obtain ⟨rfl, h4⟩ := hpo
    refine n_goto (tgt := 77) hC dX10_shuffleSeveral_51 (by decide) ?_
    refine n_vret hC dX10_shuffleSeveral_77 ?_
    exact ⟨rfl, h4⟩
  · obtain ⟨t, a, b, c1, e1, rfl⟩ := hs
    obtain ⟨rfl, e2⟩ := List.append_inj' e1 rfl
    obtain rfl : c0 = c1 := by simpa using e2
    simp at hl
    refine n_aload_n hC dX10_shuffleSeveral_0 rfl rfl ?_
    refine n_callV hC (c_pp d q b (t ++ [a]) M σ hq hM) (Nat.le_refl _) (by decide) (by first | exact rfl | with_reducible assumption) rfl rfl rfl ⟨wmX10_57, wi_yX9_pop, wv_yX9_pop, wzX9, wc_yX9_pop⟩ hy_yX9_pop rfl (Nat.le_of_ble_eq_true rfl) dX10_shuffleSeveral_1 (fun rv σ' hpo => ?_)
    obtain ⟨rfl, h1⟩ := hpo
    refine n_istore hC dX10_shuffleSeveral_4 (Nat.le_of_ble_eq_true rfl) ?_
    refine n_aload_n hC dX10_shuffleSeveral_6 rfl rfl ?_
    refine e_gs hC hX (k := 3) (by decide) wfX10_176 dX10_shuffleSeveral_7 ?_
    first | refine e_acne_f (tgt := 27) hC dX10_shuffleSeveral_10 (by decide) ?_ | refine e_acne_t (tgt := 27) hC hX (by omega) (by omega) (by omega) dX10_shuffleSeveral_10 (by decide) ?_
    refine n_aload_n hC dX10_shuffleSeveral_27 rfl rfl ?_
    refine e_gs hC hX (k := 4) (by decide) wfX10_179 dX10_shuffleSeveral_28 ?_
    first | refine e_acne_f (tgt := 54) hC dX10_shuffleSeveral_31 (by decide) ?_ | refine e_acne_t (tgt := 54) hC hX (by omega) (by omega) (by omega) dX10_shuffleSeveral_31 (by decide) ?_
    refine n_aload_n hC dX10_shuffleSeveral_54 rfl rfl ?_
    refine n_callV hC (c_pp d q a t M _ hq h1) (Nat.le_refl _) (by decide) (by first | exact rfl | with_reducible assumption) rfl rfl rfl ⟨wmX10_57, wi_yX9_pop, wv_yX9_pop, wzX9, wc_yX9_pop⟩ hy_yX9_pop rfl (Nat.le_of_ble_eq_true rfl) dX10_shuffleSeveral_55 (fun rv σ' hpo => ?_)
    obtain ⟨rfl, h2⟩ := hpo
    refine n_istore hC dX10_shuffleSeveral_58 (Nat.le_of_ble_eq_true rfl) ?_
    refine n_aload_n hC dX10_shuffleSeveral_60 rfl rfl ?_
    refine n_iload hC dX10_shuffleSeveral_61 rfl ?_
    refine n_callV hC (c_ps d q b t M _ hq h2 (by omega)) (Nat.le_refl _) (by decide) (by first | exact rfl | with_reducible assumption) rfl rfl rfl ⟨wmX10_159, wi_yX9_push, wv_yX9_push, wzX9, wc_yX9_push⟩ hy_yX9_push rfl (Nat.le_of_ble_eq_true rfl) dX10_shuffleSeveral_63 (fun rv σ' hpo => ?_)
    obtain ⟨rfl, h3⟩ := hpo
    refine n_aload_n hC dX10_shuffleSeveral_66 rfl rfl ?_
    refine n_iload_n hC dX10_shuffleSeveral_67 rfl rfl ?_
    refine n_callV hC (c_ps d q c0 (t ++ [b]) M _ hq h3 (by simp; omega)) (Nat.le_refl _) (by decide) (by first | exact rfl | with_reducible assumption) rfl rfl rfl ⟨wmX10_159, wi_yX9_push, wv_yX9_push, wzX9, wc_yX9_push⟩ hy_yX9_push rfl (Nat.le_of_ble_eq_true rfl) dX10_shuffleSeveral_68 (fun rv σ' hpo => ?_)
    obtain ⟨rfl, h4⟩ := hpo
    refine n_aload_n hC dX10_shuffleSeveral_71 rfl rfl ?_
    refine n_iload hC dX10_shuffleSeveral_72 rfl ?_
    refine n_callV hC (c_ps d q a (t ++ [b] ++ [c0]) M _ hq h4 (by simp; omega)) (Nat.le_refl _) (by decide) (by first | exact rfl | with_reducible assumption) rfl rfl rfl ⟨wmX10_159, wi_yX9_push, wv_yX9_push, wzX9, wc_yX9_push⟩ hy_yX9_push rfl (Nat.le_of_ble_eq_true rfl) dX10_shuffleSeveral_74 (fun rv σ' hpo => ?_)
    obtain ⟨rfl, h5⟩ := hpo
    refine n_vret hC dX10_shuffleSeveral_77 ?_
    exact ⟨rfl, h5⟩
theorem c_shuffle (hX : ∀ U H, Ex U H → cE ad ae ts U H) (d k q : Nat) (hk : k ≤ 6) (n : Int32) (st st' : List Int32) (M : n_M) (σ : n_S) (hq : 1 ≤ q ∧ q ≤ 12) (hs : m_shr k n st st') (hM : RepC (m_l M 0 q st) σ) (hl : st'.length ≤ 40) : n_Ct l (cw D ca ad ae Ex) (d + 2) yX10_shuffle cX10_shuffle 5 (some .int) [.ref (ad 20 0), .ref (ad 21 q), .ref (ae k), .int n] σ (fun rv σ' => rv = some (.int 0) ∧ RepC (m_l M 0 q st') σ') := by
  refine n_ofW (by decide) (Nat.le_of_ble_eq_true rfl) ?_
  intro p e s m below meth c hC
  have hd : cw_dom 21 q := hq
  by_cases k0 : k = 0
  · subst k0
    obtain rfl : st' = st ++ [n] := hs
    refine n_aload_n hC dX10_shuffle_0 rfl rfl ?_
    refine e_gs hC hX (k := 0) (by decide) wfX10_156 dX10_shuffle_1 ?_
    first | refine e_acne_f (tgt := 14) hC dX10_shuffle_4 (by decide) ?_ | refine e_acne_t (tgt := 14) hC hX (by omega) (by omega) (by omega) dX10_shuffle_4 (by decide) ?_
    refine n_aload_n hC dX10_shuffle_7 rfl rfl ?_
    refine n_iload_n hC dX10_shuffle_8 rfl rfl ?_
    refine n_callV hC (c_ps (d + 1) q n st M σ hq hM (by simp at hl; omega)) (Nat.le_refl _) (by decide) (by first | exact rfl | with_reducible assumption) rfl rfl rfl ⟨wmX10_159, wi_yX9_push, wv_yX9_push, wzX9, wc_yX9_push⟩ hy_yX9_push rfl (Nat.le_of_ble_eq_true rfl) dX10_shuffle_9 (fun rv σ' hpo => ?_)
    obtain ⟨rfl, h1⟩ := hpo
    refine n_iconst (v := 0) hC dX10_shuffle_12 (by decide) ?_
    refine n_iret hC dX10_shuffle_13 ?_
    exact ⟨rfl, h1⟩
  · obtain ⟨c0, s0, rfl⟩ : ∃ c0 s0, st = s0 ++ [c0] := by
      have hk6 : k = 1 ∨ k = 2 ∨ k = 3 ∨ k = 4 ∨ k = 5 ∨ k = 6 := by omega
      rcases hk6 with rfl | rfl | rfl | rfl | rfl | rfl
      · obtain ⟨t, c0, rfl, -⟩ := hs; exact ⟨_, _, rfl⟩
      · obtain ⟨c0, rfl⟩ := hs; exact ⟨_, _, rfl⟩
      · obtain ⟨t, b, c0, rfl, -⟩ := hs; exact ⟨_, _, rfl⟩
      · obtain ⟨t, b, c0, rfl, -⟩ := hs; exact ⟨_, _, rfl⟩
      · obtain ⟨t, a, b, c0, rfl, -⟩ := hs; exact ⟨_, _, rfl⟩
      · obtain ⟨t, c0, rfl, -⟩ := hs; exact ⟨_, _, rfl⟩
    refine n_aload_n hC dX10_shuffle_0 rfl rfl ?_
    refine e_gs hC hX (k := 0) (by decide) wfX10_156 dX10_shuffle_1 ?_
    first | refine e_acne_f (tgt := 14) hC dX10_shuffle_4 (by decide) ?_ | refine e_acne_t (tgt := 14) hC hX (by omega) (by omega) (by omega) dX10_shuffle_4 (by decide) ?_
    refine n_aload_n hC dX10_shuffle_14 rfl rfl ?_
    refine n_callV hC (c_pp (d + 1) q c0 s0 M σ hq hM) (Nat.le_refl _) (by decide) (by first | exact rfl | with_reducible assumption) rfl rfl rfl ⟨wmX10_57, wi_yX9_pop, wv_yX9_pop, wzX9, wc_yX9_pop⟩ hy_yX9_pop rfl (Nat.le_of_ble_eq_true rfl) dX10_shuffle_15 (fun rv σ' hpo => ?_)
    obtain ⟨rfl, h1⟩ := hpo
    refine n_istore hC dX10_shuffle_18 (Nat.le_of_ble_eq_true rfl) ?_
    by_cases k6 : k = 6
    · subst k6
      obtain ⟨t, c1, e1, rfl⟩ := hs
      obtain ⟨rfl, e2⟩ := List.append_inj' e1 rfl
      obtain rfl : c0 = c1 := by simpa using e2
      simp at hl
      refine n_aload_n hC dX10_shuffle_20 rfl rfl ?_
      refine e_gs hC hX (k := 6) (by decide) wfX10_163 dX10_shuffle_21 ?_
      first | refine e_acne_f (tgt := 38) hC dX10_shuffle_24 (by decide) ?_ | refine e_acne_t (tgt := 38) hC hX (by omega) (by omega) (by omega) dX10_shuffle_24 (by decide) ?_
      refine n_aload_n hC dX10_shuffle_27 rfl rfl ?_
      refine n_iload hC dX10_shuffle_28 rfl ?_
      refine n_iconst (v := -1) hC dX10_shuffle_30 (by decide) ?_
      refine n_ixor hC dX10_shuffle_31 ?_
      refine n_callV hC (c_ps (d + 1) q (c0 ^^^ (-1)) s0 M _ hq h1 (by omega)) (Nat.le_refl _) (by decide) (by first | exact rfl | with_reducible assumption) rfl rfl rfl ⟨wmX10_159, wi_yX9_push, wv_yX9_push, wzX9, wc_yX9_push⟩ hy_yX9_push rfl (Nat.le_of_ble_eq_true rfl) dX10_shuffle_32 (fun rv σ' hpo => ?_)
      obtain ⟨rfl, h2⟩ := hpo
      refine n_goto (tgt := 75) hC dX10_shuffle_35 (by decide) ?_
      refine n_iconst (v := 0) hC dX10_shuffle_75 (by decide) ?_
      refine n_iret hC dX10_shuffle_76 ?_
      exact ⟨rfl, h2⟩
    · refine n_aload_n hC dX10_shuffle_20 rfl rfl ?_
      refine e_gs hC hX (k := 6) (by decide) wfX10_163 dX10_shuffle_21 ?_
      first | refine e_acne_f (tgt := 38) hC dX10_shuffle_24 (by decide) ?_ | refine e_acne_t (tgt := 38) hC hX (by omega) (by omega) (by omega) dX10_shuffle_24 (by decide) ?_
      by_cases k1 : k = 1
      · subst k1
        obtain ⟨t, c1, e1, rfl⟩ := hs
        obtain ⟨rfl, e2⟩ := List.append_inj' e1 rfl
        obtain rfl : c0 = c1 := by simpa using e2
        simp at hl
        refine n_aload_n hC dX10_shuffle_38 rfl rfl ?_
        refine e_gs hC hX (k := 1) (by decide) wfX10_166 dX10_shuffle_39 ?_
        first | refine e_acne_f (tgt := 60) hC dX10_shuffle_42 (by decide) ?_ | refine e_acne_t (tgt := 60) hC hX (by omega) (by omega) (by omega) dX10_shuffle_42 (by decide) ?_
        refine n_aload_n hC dX10_shuffle_45 rfl rfl ?_
        refine n_iload hC dX10_shuffle_46 rfl ?_
        refine n_callV hC (c_ps (d + 1) q c0 s0 M _ hq h1 (by omega)) (Nat.le_refl _) (by decide) (by first | exact rfl | with_reducible assumption) rfl rfl rfl ⟨wmX10_159, wi_yX9_push, wv_yX9_push, wzX9, wc_yX9_push⟩ hy_yX9_push rfl (Nat.le_of_ble_eq_true rfl) dX10_shuffle_48 (fun rv σ' hpo => ?_)
        obtain ⟨rfl, h2⟩ := hpo
        refine n_aload_n hC dX10_shuffle_51 rfl rfl ?_
        refine n_iload hC dX10_shuffle_52 rfl ?_
        refine n_callV hC (c_ps (d + 1) q c0 (s0 ++ [c0]) M _ hq h2 (by simp; omega)) (Nat.le_refl _) (by decide) (by first | exact rfl | with_reducible assumption) rfl rfl rfl ⟨wmX10_159, wi_yX9_push, wv_yX9_push, wzX9, wc_yX9_push⟩ hy_yX9_push rfl (Nat.le_of_ble_eq_true rfl) dX10_shuffle_54 (fun rv σ' hpo => ?_)
        obtain ⟨rfl, h3⟩ := hpo
        refine n_goto (tgt := 75) hC dX10_shuffle_57 (by decide) ?_
        refine n_iconst (v := 0) hC dX10_shuffle_75 (by decide) ?_
        refine n_iret hC dX10_shuffle_76 ?_
        exact ⟨rfl, h3⟩
      · refine n_aload_n hC dX10_shuffle_38 rfl rfl ?_
        refine e_gs hC hX (k := 1) (by decide) wfX10_166 dX10_shuffle_39 ?_
        first | refine e_acne_f (tgt := 60) hC dX10_shuffle_42 (by decide) ?_ | refine e_acne_t (tgt := 60) hC hX (by omega) (by omega) (by omega) dX10_shuffle_42 (by decide) ?_
        by_cases k2 : k = 2
        · subst k2
          obtain ⟨c1, e1⟩ := hs
          obtain ⟨rfl, e2⟩ := List.append_inj' e1 rfl
          refine n_aload_n hC dX10_shuffle_60 rfl rfl ?_
          refine e_gs hC hX (k := 2) (by decide) wfX10_169 dX10_shuffle_61 ?_
          first | refine e_aceq_t (tgt := 75) hC dX10_shuffle_64 (by decide) ?_ | refine e_aceq_f (tgt := 75) hC hX (by omega) (by omega) (by omega) dX10_shuffle_64 (by decide) ?_
          refine n_iconst (v := 0) hC dX10_shuffle_75 (by decide) ?_
          refine n_iret hC dX10_shuffle_76 ?_
          exact ⟨rfl, h1⟩
        · refine n_aload_n hC dX10_shuffle_60 rfl rfl ?_
          refine e_gs hC hX (k := 2) (by decide) wfX10_169 dX10_shuffle_61 ?_
          first | refine e_aceq_t (tgt := 75) hC dX10_shuffle_64 (by decide) ?_ | refine e_aceq_f (tgt := 75) hC hX (by omega) (by omega) (by omega) dX10_shuffle_64 (by decide) ?_
          refine n_aload_n hC dX10_shuffle_67 rfl rfl ?_
          refine n_aload_n hC dX10_shuffle_68 rfl rfl ?_
          refine n_aload_n hC dX10_shuffle_69 rfl rfl ?_
          refine n_iload hC dX10_shuffle_70 rfl ?_
          refine n_callV hC (c_shufs hX d k q (by omega) c0 n s0 st' M _ hq hs h1 hl) (Nat.le_refl _) (by decide) (by first | exact rfl | with_reducible assumption) rfl rfl rfl ⟨wmX10_172, wi_yX10_shuffleSeveral, wv_yX10_shuffleSeveral, wzX10, wc_yX10_shuffleSeveral⟩ hy_yX10_shuffleSeveral rfl (Nat.le_of_ble_eq_true rfl) dX10_shuffle_72 (fun rv σ' hpo => ?_)
          obtain ⟨rfl, h2⟩ := hpo
          refine n_iconst (v := 0) hC dX10_shuffle_75 (by decide) ?_
          refine n_iret hC dX10_shuffle_76 ?_
          exact ⟨rfl, h2⟩
end WK1
