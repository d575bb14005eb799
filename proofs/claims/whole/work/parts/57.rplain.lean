theorem tp0 (t : List Int32) (a : Int32) : (t ++ [a]).getD ((t ++ [a]).length - 1 - 0) 0 = a := by
  rw [show (t ++ [a]).length - 1 - 0 = t.length from by simp, getD_snoc_e]
theorem tp1 (t : List Int32) (a b : Int32) : (t ++ [a] ++ [b]).getD ((t ++ [a] ++ [b]).length - 1 - 1) 0 = a := by
  rw [show (t ++ [a] ++ [b]).length - 1 - 1 = t.length from by simp, getD_snoc_l _ _ _ (by simp), getD_snoc_e]
theorem tp2 (t : List Int32) (a b c : Int32) : (t ++ [a] ++ [b] ++ [c]).getD ((t ++ [a] ++ [b] ++ [c]).length - 1 - 2) 0 = a := by
  rw [show (t ++ [a] ++ [b] ++ [c]).length - 1 - 2 = t.length from by simp, getD_snoc_l _ _ _ (by simp), getD_snoc_l _ _ _ (by simp), getD_snoc_e]
theorem set_snoc (t : List Int32) (a v : Int32) : (t ++ [a]).set t.length v = t ++ [v] := by
  rw [List.set_append_right _ _ (Nat.le_refl _), Nat.sub_self]
  rfl
theorem set_snoc_l (t : List Int32) (a v : Int32) {j : Nat} (h : j < t.length) : (t ++ [a]).set j v = t.set j v ++ [a] := List.set_append_left _ _ h
theorem ts0 (t : List Int32) (a v : Int32) : (t ++ [a]).set ((t ++ [a]).length - 1 - 0) v = t ++ [v] := by
  rw [show (t ++ [a]).length - 1 - 0 = t.length from by simp, set_snoc]
theorem ts1 (t : List Int32) (a b v : Int32) : (t ++ [a] ++ [b]).set ((t ++ [a] ++ [b]).length - 1 - 1) v = t ++ [v] ++ [b] := by
  rw [show (t ++ [a] ++ [b]).length - 1 - 1 = t.length from by simp, set_snoc_l _ _ _ (by simp), set_snoc]
theorem ts2 (t : List Int32) (a b c v : Int32) : (t ++ [a] ++ [b] ++ [c]).set ((t ++ [a] ++ [b] ++ [c]).length - 1 - 2) v = t ++ [v] ++ [b] ++ [c] := by
  rw [show (t ++ [a] ++ [b] ++ [c]).length - 1 - 2 = t.length from by simp, set_snoc_l _ _ _ (by simp), set_snoc_l _ _ _ (by simp), set_snoc]
theorem len1 (t : List Int32) (a : Int32) : (t ++ [a]).length = t.length + 1 := by simp
theorem rq_pop {τ0 τ : n_S} {M : n_M} {q : Nat} {t u : List Int32} (hM : RQ τ0 M τ) (hq : n_V q) (hst : M.2 0 q = t ++ u) : RQ τ0 (m_l M 0 q t) (n_up τ 26 0 q (nI t.length)) := by
  obtain ⟨e1, h1, h3⟩ := hM.stk hq
  rw [hst, List.length_append] at h1
  refine rql_0 hM hq (fun κ x a b => n_up_o (by omega)) (n_up_e _ _ _ _) (by omega) (fun j hj => ?_)
  rw [n_up_o (by omega), h3 j (by rw [hst, List.length_append]; omega), hst, List.getD_eq_getElem?_getD, List.getD_eq_getElem?_getD, List.getElem?_append_left hj]
theorem RS.dn {τ0 τ τ' : n_S} {M : n_M} {q : Nat} {y : Int32} {st : List Int32} (hS : RS τ0 M τ) (h : RQ τ (m_dn (m_l (m_s M 5 q y) 0 q st) q) τ') : RS τ0 (m_dn (m_l (m_s M 5 q y) 0 q st) q) τ' :=
  hS.of h (fun i _ => rfl)
theorem XA.stk {τ0 τ τ' : n_S} {M : n_M} {q k n0 : Nat} {n : Int32} {st : List Int32} (hmv : τ0 0 0 52 = 0) (hS : RS τ0 M τ) (h1 : M.1 0 q = 1) (h : RQ τ (m_dn (m_l (m_s M 5 q (nI (n0 + 1))) 0 q st) q) τ') (hnw : m_nw M q k) (hg : (M.2 0 q).length + m_gr k ≤ 40) (hd : m_do q k n (m_s M 5 q (nI (n0 + 1))) 0 (m_l (m_s M 5 q (nI (n0 + 1))) 0 q st)) : XA τ0 M q k n0 n τ' :=
  XA.done hmv (hS.dn h) h1 hnw hg hd
theorem m_ne_1 : ∀ k, k < 20 → 1 ≤ k → 1 ≤ m_ne k := by decide +kernel
theorem m_ne_2 : ∀ k, k < 20 → 7 ≤ k → m_ne k = 2 ∧ m_gr k = 0 := by decide +kernel
theorem r_op_9 : ∀ k, k < 20 → 7 ≤ k → ((nI (r_op (k + 1)) = 9 ↔ k = 10) ∧ (nI (r_op (k + 1)) = 10 ↔ k = 11)) := by decide +kernel
theorem r_op_0 : ∀ k, k < 43 → 1 ≤ k → ¬ nI (r_op (k + 1)) = 0 := by decide +kernel
section RPL
variable {l : Launch} {D : va_G} {ca : Nat → ClassId} {ad : Nat → Nat → Nat} {Ex : State → Heap → Prop}
theorem x_t0 (d q : Nat) (τ0 : n_S) (M : n_M) (τ : n_S) (hM : RQ τ0 M τ) (hq : n_V q) {t : List Int32} {a : Int32} (hst : M.2 0 q = t ++ [a]) : n_Ct l (rw D ca ad Ex) d yX12_top cX12_top 3 (some .int) [.ref (ad 0 0), .int (nI q), .int 0] τ (fun rv τ' => rv = some (.int a) ∧ τ' = τ) := by
  have h := x_top (l := l) (D := D) (ca := ca) (ad := ad) (Ex := Ex) d q 0 τ0 M τ hM hq (by rw [hst, len1]; omega)
  rw [hst, tp0] at h
  exact h
theorem x_t1 (d q : Nat) (τ0 : n_S) (M : n_M) (τ : n_S) (hM : RQ τ0 M τ) (hq : n_V q) {t : List Int32} {a b : Int32} (hst : M.2 0 q = t ++ [a] ++ [b]) : n_Ct l (rw D ca ad Ex) d yX12_top cX12_top 3 (some .int) [.ref (ad 0 0), .int (nI q), .int 1] τ (fun rv τ' => rv = some (.int a) ∧ τ' = τ) := by
  have h := x_top (l := l) (D := D) (ca := ca) (ad := ad) (Ex := Ex) d q 1 τ0 M τ hM hq (by rw [hst, len1, len1]; omega)
  rw [hst, tp1] at h
  exact h
theorem x_t2 (d q : Nat) (τ0 : n_S) (M : n_M) (τ : n_S) (hM : RQ τ0 M τ) (hq : n_V q) {t : List Int32} {a b c : Int32} (hst : M.2 0 q = t ++ [a] ++ [b] ++ [c]) : n_Ct l (rw D ca ad Ex) d yX12_top cX12_top 3 (some .int) [.ref (ad 0 0), .int (nI q), .int 2] τ (fun rv τ' => rv = some (.int a) ∧ τ' = τ) := by
  have h := x_top (l := l) (D := D) (ca := ca) (ad := ad) (Ex := Ex) d q 2 τ0 M τ hM hq (by rw [hst, len1, len1, len1]; omega)
  rw [hst, tp2] at h
  exact h
theorem x_s0 (d q : Nat) (v : Int32) (τ0 : n_S) (M : n_M) (τ : n_S) (hM : RQ τ0 M τ) (hq : n_V q) {t : List Int32} {a : Int32} (hst : M.2 0 q = t ++ [a]) : n_Ct l (rw D ca ad Ex) d yX12_setTop cX12_setTop 4 none [.ref (ad 0 0), .int (nI q), .int 0, .int v] τ (fun rv τ' => rv = none ∧ RQ τ0 (m_l M 0 q (t ++ [v])) τ') := by
  have h := x_setTop (l := l) (D := D) (ca := ca) (ad := ad) (Ex := Ex) d q 0 v τ0 M τ hM hq (by rw [hst, len1]; omega)
  rw [hst, ts0] at h
  exact h
theorem x_s1 (d q : Nat) (v : Int32) (τ0 : n_S) (M : n_M) (τ : n_S) (hM : RQ τ0 M τ) (hq : n_V q) {t : List Int32} {a b : Int32} (hst : M.2 0 q = t ++ [a] ++ [b]) : n_Ct l (rw D ca ad Ex) d yX12_setTop cX12_setTop 4 none [.ref (ad 0 0), .int (nI q), .int 1, .int v] τ (fun rv τ' => rv = none ∧ RQ τ0 (m_l M 0 q (t ++ [v] ++ [b])) τ') := by
  have h := x_setTop (l := l) (D := D) (ca := ca) (ad := ad) (Ex := Ex) d q 1 v τ0 M τ hM hq (by rw [hst, len1, len1]; omega)
  rw [hst, ts1] at h
  exact h
theorem x_s2 (d q : Nat) (v : Int32) (τ0 : n_S) (M : n_M) (τ : n_S) (hM : RQ τ0 M τ) (hq : n_V q) {t : List Int32} {a b c : Int32} (hst : M.2 0 q = t ++ [a] ++ [b] ++ [c]) : n_Ct l (rw D ca ad Ex) d yX12_setTop cX12_setTop 4 none [.ref (ad 0 0), .int (nI q), .int 2, .int v] τ (fun rv τ' => rv = none ∧ RQ τ0 (m_l M 0 q (t ++ [v] ++ [b] ++ [c])) τ') := by
  have h := x_setTop (l := l) (D := D) (ca := ca) (ad := ad) (Ex := Ex) d q 2 v τ0 M τ hM hq (by rw [hst, len1, len1, len1]; omega)
  rw [hst, ts2] at h
  exact h
theorem x_reckoned (d k : Nat) (o a b : Int32) (hk : 7 ≤ k ∧ k ≤ 19) (ho : o = nI (r_op (k + 1))) (hb : ¬ (b = 0 ∧ (k = 10 ∨ k = 11))) (τ : n_S) : n_Ct l (rw D ca ad Ex) d yX12_reckoned cX12_reckoned 3 (some .int) [.int o, .int a, .int b] τ (fun rv τ' => rv = some (.int (m_res k a b)) ∧ τ' = τ) := by
  rcases (show k = 7 ∨ k = 8 ∨ k = 9 ∨ k = 10 ∨ k = 11 ∨ k = 12 ∨ k = 13 ∨ k = 14 ∨ k = 15 ∨ k = 16 ∨ k = 17 ∨ k = 18 ∨ k = 19 by omega) with rfl | rfl | rfl | rfl | rfl | rfl | rfl | rfl | rfl | rfl | rfl | rfl | rfl
  · obtain rfl : o = 6 := ho
    refine n_ofW (by decide) (Nat.le_of_ble_eq_true rfl) ?_
    intro p e s m below meth c hC
    refine n_iload_n hC dX12_reckoned_0 rfl rfl ?_
    refine n_tableIn (off := 67) (tgt := 68) hC dX12_reckoned_1 (by decide) (by decide) (by decide) (by decide) ?_
    refine n_iload_n hC dX12_reckoned_68 rfl rfl ?_
    refine n_iload_n hC dX12_reckoned_69 rfl rfl ?_
    refine n_iadd hC dX12_reckoned_70 ?_
    refine n_iret hC dX12_reckoned_71 ?_
    exact ⟨rfl, rfl⟩
  · obtain rfl : o = 7 := ho
    refine n_ofW (by decide) (Nat.le_of_ble_eq_true rfl) ?_
    intro p e s m below meth c hC
    refine n_iload_n hC dX12_reckoned_0 rfl rfl ?_
    refine n_tableIn (off := 71) (tgt := 72) hC dX12_reckoned_1 (by decide) (by decide) (by decide) (by decide) ?_
    refine n_iload_n hC dX12_reckoned_72 rfl rfl ?_
    refine n_iload_n hC dX12_reckoned_73 rfl rfl ?_
    refine n_isub hC dX12_reckoned_74 ?_
    refine n_iret hC dX12_reckoned_75 ?_
    exact ⟨rfl, rfl⟩
  · obtain rfl : o = 8 := ho
    refine n_ofW (by decide) (Nat.le_of_ble_eq_true rfl) ?_
    intro p e s m below meth c hC
    refine n_iload_n hC dX12_reckoned_0 rfl rfl ?_
    refine n_tableIn (off := 75) (tgt := 76) hC dX12_reckoned_1 (by decide) (by decide) (by decide) (by decide) ?_
    refine n_iload_n hC dX12_reckoned_76 rfl rfl ?_
    refine n_iload_n hC dX12_reckoned_77 rfl rfl ?_
    refine n_imul hC dX12_reckoned_78 ?_
    refine n_iret hC dX12_reckoned_79 ?_
    exact ⟨rfl, rfl⟩
  · obtain rfl : o = 9 := ho
    refine n_ofW (by decide) (Nat.le_of_ble_eq_true rfl) ?_
    intro p e s m below meth c hC
    refine n_iload_n hC dX12_reckoned_0 rfl rfl ?_
    refine n_tableIn (off := 79) (tgt := 80) hC dX12_reckoned_1 (by decide) (by decide) (by decide) (by decide) ?_
    refine n_iload_n hC dX12_reckoned_80 rfl rfl ?_
    refine n_iload_n hC dX12_reckoned_81 rfl rfl ?_
    refine n_idiv hC dX12_reckoned_82 (fun z => hb ⟨z, Or.inl rfl⟩) ?_
    refine n_iret hC dX12_reckoned_83 ?_
    exact ⟨rfl, rfl⟩
  · obtain rfl : o = 10 := ho
    refine n_ofW (by decide) (Nat.le_of_ble_eq_true rfl) ?_
    intro p e s m below meth c hC
    refine n_iload_n hC dX12_reckoned_0 rfl rfl ?_
    refine n_tableIn (off := 83) (tgt := 84) hC dX12_reckoned_1 (by decide) (by decide) (by decide) (by decide) ?_
    refine n_iload_n hC dX12_reckoned_84 rfl rfl ?_
    refine n_iload_n hC dX12_reckoned_85 rfl rfl ?_
    refine n_irem hC dX12_reckoned_86 (fun z => hb ⟨z, Or.inr rfl⟩) ?_
    refine n_iret hC dX12_reckoned_87 ?_
    exact ⟨rfl, rfl⟩
  · obtain rfl : o = 11 := ho
    refine n_ofW (by decide) (Nat.le_of_ble_eq_true rfl) ?_
    intro p e s m below meth c hC
    refine n_iload_n hC dX12_reckoned_0 rfl rfl ?_
    refine n_tableIn (off := 87) (tgt := 88) hC dX12_reckoned_1 (by decide) (by decide) (by decide) (by decide) ?_
    refine n_iload_n hC dX12_reckoned_88 rfl rfl ?_
    refine n_iload_n hC dX12_reckoned_89 rfl rfl ?_
    refine n_iand hC dX12_reckoned_90 ?_
    refine n_iret hC dX12_reckoned_91 ?_
    exact ⟨rfl, rfl⟩
  · obtain rfl : o = 12 := ho
    refine n_ofW (by decide) (Nat.le_of_ble_eq_true rfl) ?_
    intro p e s m below meth c hC
    refine n_iload_n hC dX12_reckoned_0 rfl rfl ?_
    refine n_tableIn (off := 91) (tgt := 92) hC dX12_reckoned_1 (by decide) (by decide) (by decide) (by decide) ?_
    refine n_iload_n hC dX12_reckoned_92 rfl rfl ?_
    refine n_iload_n hC dX12_reckoned_93 rfl rfl ?_
    refine n_ior hC dX12_reckoned_94 ?_
    refine n_iret hC dX12_reckoned_95 ?_
    exact ⟨rfl, rfl⟩
  · obtain rfl : o = 13 := ho
    refine n_ofW (by decide) (Nat.le_of_ble_eq_true rfl) ?_
    intro p e s m below meth c hC
    refine n_iload_n hC dX12_reckoned_0 rfl rfl ?_
    refine n_tableIn (off := 95) (tgt := 96) hC dX12_reckoned_1 (by decide) (by decide) (by decide) (by decide) ?_
    refine n_iload_n hC dX12_reckoned_96 rfl rfl ?_
    refine n_iload_n hC dX12_reckoned_97 rfl rfl ?_
    refine n_ixor hC dX12_reckoned_98 ?_
    refine n_iret hC dX12_reckoned_99 ?_
    exact ⟨rfl, rfl⟩
  · obtain rfl : o = 15 := ho
    refine n_ofW (by decide) (Nat.le_of_ble_eq_true rfl) ?_
    intro p e s m below meth c hC
    refine n_iload_n hC dX12_reckoned_0 rfl rfl ?_
    refine n_tableIn (off := 99) (tgt := 100) hC dX12_reckoned_1 (by decide) (by decide) (by decide) (by decide) ?_
    refine n_iload_n hC dX12_reckoned_100 rfl rfl ?_
    refine n_iload_n hC dX12_reckoned_101 rfl rfl ?_
    refine n_bipush (v := 31) hC dX12_reckoned_102 (by decide) ?_
    refine n_iand hC dX12_reckoned_104 ?_
    refine n_ishl hC dX12_reckoned_105 ?_
    refine n_iret hC dX12_reckoned_106 ?_
    exact ⟨rfl, rfl⟩
  · obtain rfl : o = 16 := ho
    refine n_ofW (by decide) (Nat.le_of_ble_eq_true rfl) ?_
    intro p e s m below meth c hC
    refine n_iload_n hC dX12_reckoned_0 rfl rfl ?_
    refine n_tableIn (off := 106) (tgt := 107) hC dX12_reckoned_1 (by decide) (by decide) (by decide) (by decide) ?_
    refine n_iload_n hC dX12_reckoned_107 rfl rfl ?_
    refine n_iload_n hC dX12_reckoned_108 rfl rfl ?_
    refine n_bipush (v := 31) hC dX12_reckoned_109 (by decide) ?_
    refine n_iand hC dX12_reckoned_111 ?_
    refine n_ishr hC dX12_reckoned_112 ?_
    refine n_iret hC dX12_reckoned_113 ?_
    exact ⟨rfl, rfl⟩
  · obtain rfl : o = 17 := ho
    refine n_ofW (by decide) (Nat.le_of_ble_eq_true rfl) ?_
    intro p e s m below meth c hC
    refine n_iload_n hC dX12_reckoned_0 rfl rfl ?_
    refine n_tableIn (off := 113) (tgt := 114) hC dX12_reckoned_1 (by decide) (by decide) (by decide) (by decide) ?_
    refine n_iload_n hC dX12_reckoned_114 rfl rfl ?_
    refine n_iload_n hC dX12_reckoned_115 rfl rfl ?_
    refine n_icmp_ne (tgt := 123) hC dX12_reckoned_116 (by decide) (fun h => ?_) (fun h => ?_)
    · refine n_iconst (v := 0) hC dX12_reckoned_123 (by decide) ?_
      refine n_iret hC dX12_reckoned_124 ?_
      exact ⟨by show _ = some (Value.int (if a = b then 1 else 0)); rw [if_neg h], rfl⟩
    · refine n_iconst (v := 1) hC dX12_reckoned_119 (by decide) ?_
      refine n_goto (tgt := 124) hC dX12_reckoned_120 (by decide) ?_
      refine n_iret hC dX12_reckoned_124 ?_
      exact ⟨by show _ = some (Value.int (if a = b then 1 else 0)); rw [if_pos h], rfl⟩
  · obtain rfl : o = 18 := ho
    refine n_ofW (by decide) (Nat.le_of_ble_eq_true rfl) ?_
    intro p e s m below meth c hC
    refine n_iload_n hC dX12_reckoned_0 rfl rfl ?_
    refine n_tableIn (off := 124) (tgt := 125) hC dX12_reckoned_1 (by decide) (by decide) (by decide) (by decide) ?_
    refine n_iload_n hC dX12_reckoned_125 rfl rfl ?_
    refine n_iload_n hC dX12_reckoned_126 rfl rfl ?_
    refine n_icmp_ge (tgt := 134) hC dX12_reckoned_127 (by decide) (fun h => ?_) (fun h => ?_)
    · refine n_iconst (v := 0) hC dX12_reckoned_134 (by decide) ?_
      refine n_iret hC dX12_reckoned_135 ?_
      exact ⟨by show _ = some (Value.int (if a < b then 1 else 0)); rw [if_neg (Int32.not_lt.mpr h)], rfl⟩
    · refine n_iconst (v := 1) hC dX12_reckoned_130 (by decide) ?_
      refine n_goto (tgt := 135) hC dX12_reckoned_131 (by decide) ?_
      refine n_iret hC dX12_reckoned_135 ?_
      exact ⟨by show _ = some (Value.int (if a < b then 1 else 0)); rw [if_pos (Int32.not_le.mp h)], rfl⟩
  · obtain rfl : o = 19 := ho
    refine n_ofW (by decide) (Nat.le_of_ble_eq_true rfl) ?_
    intro p e s m below meth c hC
    refine n_iload_n hC dX12_reckoned_0 rfl rfl ?_
    refine n_tableOut (tgt := 136) hC dX12_reckoned_1 (by decide) (by decide) ?_
    refine n_iload_n hC dX12_reckoned_136 rfl rfl ?_
    refine n_iload_n hC dX12_reckoned_137 rfl rfl ?_
    refine n_icmp_le (tgt := 145) hC dX12_reckoned_138 (by decide) (fun h => ?_) (fun h => ?_)
    · refine n_iconst (v := 0) hC dX12_reckoned_145 (by decide) ?_
      refine n_iret hC dX12_reckoned_146 ?_
      exact ⟨by show _ = some (Value.int (if b < a then 1 else 0)); rw [if_neg (Int32.not_lt.mpr h)], rfl⟩
    · refine n_iconst (v := 1) hC dX12_reckoned_141 (by decide) ?_
      refine n_goto (tgt := 146) hC dX12_reckoned_142 (by decide) ?_
      refine n_iret hC dX12_reckoned_146 ?_
      exact ⟨by show _ = some (Value.int (if b < a then 1 else 0)); rw [if_pos (Int32.not_le.mp h)], rfl⟩
theorem x_plain (d k q n0 : Nat) (n o : Int32) (ho : o = nI (r_op (k + 1))) (hk : 1 ≤ k ∧ k ≤ 19) (τ0 : n_S) (M : n_M) (τ : n_S) (hmv : τ0 0 0 52 = 0) (hS : RS τ0 M τ) (hI : II M) (hq : n_V q) (h1 : M.1 0 q = 1) (hn : M.1 5 q = nI n0) (hne : m_ne k ≤ (M.2 0 q).length) : n_Ct l (rw D ca ad Ex) (d + 4) yX12_plain cX12_plain 5 none [.ref (ad 0 0), .int (nI q), .int o] τ (fun rv τ' => rv = none ∧ XA τ0 M q k n0 n τ') := by
  obtain ⟨hq1, hq2⟩ := id hq
  have ha := m_al1 h1
  have hM := hS.q
  obtain ⟨e1, hl40, -⟩ := hM.stk hq
  obtain ⟨t, a, hst⟩ := m_last1 (Nat.le_trans (m_ne_1 k (by omega) hk.1) hne)
  have hlen : (M.2 0 q).length = t.length + 1 := by rw [hst, len1]
  refine n_ofW (by decide) (Nat.le_of_ble_eq_true rfl) ?_
  intro p e s m below meth c hC
  refine n_iload_n hC dX12_plain_0 rfl rfl ?_
  refine n_if_ne (tgt := 8) hC dX12_plain_1 (by decide) (fun h => ?_) (fun h => ?_)
  · clear h
    refine n_aload_n hC dX12_plain_8 rfl rfl ?_
    refine n_iload_n hC dX12_plain_9 rfl rfl ?_
    refine n_iconst (v := 0) hC dX12_plain_10 (by decide) ?_
    refine n_callV hC (x_t0 (d + 3) q τ M τ hM hq hst) (Nat.le_refl _) (by decide) (by first | exact rfl | with_reducible assumption) rfl rfl rfl ⟨wmX12_339, wi_yX12_top, wv_yX12_top, wzX12, wc_yX12_top⟩ hy_yX12_top rfl (Nat.le_of_ble_eq_true rfl) dX12_plain_11 (fun rv σ' hpo => ?_)
    obtain ⟨rfl, hσ⟩ := hpo
    rw [hσ]
    refine n_istore_n hC dX12_plain_14 rfl (Nat.le_of_ble_eq_true rfl) ?_
    refine n_iload_n hC dX12_plain_15 rfl rfl ?_
    rcases (show k = 1 ∨ k = 2 ∨ k = 3 ∨ k = 4 ∨ k = 5 ∨ k = 6 ∨ 7 ≤ k by omega) with rfl | rfl | rfl | rfl | rfl | rfl | hk7
    · obtain rfl : o = 1 := ho
      refine n_tableIn (off := 72) (tgt := 88) hC dX12_plain_16 (by decide) (by decide) (by decide) (by decide) ?_
      refine n_aload_n hC dX12_plain_88 rfl rfl ?_
      refine n_iload_n hC dX12_plain_89 rfl rfl ?_
      refine n_iconst (v := 1) hC dX12_plain_90 (by decide) ?_
      refine n_callV hC (x_fits d q 1 τ0 M _ hS hI hq ha (by omega)) (Nat.le_refl _) (by decide) (by first | exact rfl | with_reducible assumption) rfl rfl rfl ⟨wmX12_342, wi_yX12_fits, wv_yX12_fits, wzX12, wc_yX12_fits⟩ hy_yX12_fits rfl (Nat.le_of_ble_eq_true rfl) dX12_plain_91 (fun rv σ' hpo => ?_)
      rcases hpo with ⟨hle, rfl, hσ⟩ | ⟨hgt, rfl, g⟩
      · rw [hσ]
        refine n_if_eq (tgt := 278) hC dX12_plain_94 (by decide) (fun h => ?_) (fun h => ?_)
        · exact absurd h (by decide)
        · clear h
          refine n_aload_n hC dX12_plain_97 rfl rfl ?_
          refine n_iload_n hC dX12_plain_98 rfl rfl ?_
          refine n_iconst (v := 0) hC dX12_plain_99 (by decide) ?_
          refine n_iload_n hC dX12_plain_100 rfl rfl ?_
          refine n_callV hC (x_result (d + 2) q 0 n0 a _ M _ (M.2 0 q) [] hM hq hn (List.append_nil _).symm rfl (by omega)) (Nat.le_refl _) (by decide) (by first | exact rfl | with_reducible assumption) rfl rfl rfl ⟨wmX12_345, wi_yX12_result, wv_yX12_result, wzX12, wc_yX12_result⟩ hy_yX12_result rfl (Nat.le_of_ble_eq_true rfl) dX12_plain_101 (fun rv σ' hpo => ?_)
          obtain ⟨rfl, g⟩ := hpo
          refine n_goto (tgt := 278) hC dX12_plain_104 (by decide) ?_
          refine n_vret hC dX12_plain_278 ?_
          exact ⟨rfl, XA.stk hmv hS h1 g (m_nw_t (by omega)) hle (Or.inl (⟨by omega, rfl, _, ⟨t, a, hst, by rw [hst]⟩, rfl⟩))⟩
      · refine n_if_eq (tgt := 278) hC dX12_plain_94 (by decide) (fun h => ?_) (fun h => ?_)
        · refine n_vret hC dX12_plain_278 ?_
          exact ⟨rfl, XA.full hI hq ha g (m_nw_t (by omega)) hgt⟩
        · exact absurd rfl h
    · obtain rfl : o = 2 := ho
      refine n_tableIn (off := 91) (tgt := 107) hC dX12_plain_16 (by decide) (by decide) (by decide) (by decide) ?_
      refine n_aload_n hC dX12_plain_107 rfl rfl ?_
      refine gm_deep hC wfX12_155 dX12_plain_108 ?_
      refine n_iload_n hC dX12_plain_111 rfl rfl ?_
      refine n_dup2_11 hC dX12_plain_112 rfl rfl ?_
      first | refine r_ld hC rfl (fun _ => rfl) (by decide) (by first | omega | with_reducible assumption) dX12_plain_113 ?_ | refine r_needs hC (by first | exact vp_in_nI (by omega) (by decide) | with_reducible assumption) dX12_plain_113 ?_
      rw [e1, hlen]
      refine n_iconst (v := 1) hC dX12_plain_114 (by decide) ?_
      refine n_isub hC dX12_plain_115 ?_
      rw [show nI (t.length + 1) - 1 = nI t.length from nI_m1 (by omega)]
      refine r_st hC rfl (fun _ h => h) (fun _ => rfl) (by decide) (by first | omega | with_reducible assumption) dX12_plain_116 ?_
      refine n_aload_n hC dX12_plain_117 rfl rfl ?_
      refine n_iload_n hC dX12_plain_118 rfl rfl ?_
      refine n_callV hC (x_done (d + 3) q n0 _ (m_l M 0 q t) _ (rq_pop hM hq hst) hq hn) (Nat.le_refl _) (by decide) (by first | exact rfl | with_reducible assumption) rfl rfl rfl ⟨wmX12_336, wi_yX12_done, wv_yX12_done, wzX12, wc_yX12_done⟩ hy_yX12_done rfl (Nat.le_of_ble_eq_true rfl) dX12_plain_119 (fun rv σ' hpo => ?_)
      obtain ⟨rfl, g⟩ := hpo
      refine n_goto (tgt := 278) hC dX12_plain_122 (by decide) ?_
      refine n_vret hC dX12_plain_278 ?_
      exact ⟨rfl, XA.stk hmv hS h1 g (m_nw_t (by omega)) hl40 (Or.inl (⟨by omega, rfl, t, ⟨a, hst⟩, rfl⟩))⟩
    · obtain rfl : o = 3 := ho
      have hne : 2 ≤ (M.2 0 q).length := hne
      obtain ⟨t2, b, rfl⟩ := m_last1 (show 1 ≤ t.length by omega)
      refine n_tableIn (off := 109) (tgt := 125) hC dX12_plain_16 (by decide) (by decide) (by decide) (by decide) ?_
      refine n_aload_n hC dX12_plain_125 rfl rfl ?_
      refine n_iload_n hC dX12_plain_126 rfl rfl ?_
      refine n_iconst (v := 1) hC dX12_plain_127 (by decide) ?_
      refine n_callV hC (x_t1 (d + 3) q _ M _ hM hq hst) (Nat.le_refl _) (by decide) (by first | exact rfl | with_reducible assumption) rfl rfl rfl ⟨wmX12_339, wi_yX12_top, wv_yX12_top, wzX12, wc_yX12_top⟩ hy_yX12_top rfl (Nat.le_of_ble_eq_true rfl) dX12_plain_128 (fun rv σ' hpo => ?_)
      obtain ⟨rfl, hσ⟩ := hpo
      rw [hσ]
      refine n_istore hC dX12_plain_131 (Nat.le_of_ble_eq_true rfl) ?_
      refine n_aload_n hC dX12_plain_133 rfl rfl ?_
      refine n_iload_n hC dX12_plain_134 rfl rfl ?_
      refine n_iconst (v := 1) hC dX12_plain_135 (by decide) ?_
      refine n_iload_n hC dX12_plain_136 rfl rfl ?_
      refine n_callV hC (x_s1 (d + 3) q a _ M _ hM hq hst) (Nat.le_refl _) (by decide) (by first | exact rfl | with_reducible assumption) rfl rfl rfl ⟨wmX12_348, wi_yX12_setTop, wv_yX12_setTop, wzX12, wc_yX12_setTop⟩ hy_yX12_setTop rfl (Nat.le_of_ble_eq_true rfl) dX12_plain_137 (fun rv σ' hpo => ?_)
      obtain ⟨rfl, g⟩ := hpo
      refine n_aload_n hC dX12_plain_140 rfl rfl ?_
      refine n_iload_n hC dX12_plain_141 rfl rfl ?_
      refine n_iconst (v := 0) hC dX12_plain_142 (by decide) ?_
      refine n_iload hC dX12_plain_143 rfl ?_
      refine n_callV hC (x_s0 (d + 3) q b _ _ _ g hq (ml_e _ _ _ _)) (Nat.le_refl _) (by decide) (by first | exact rfl | with_reducible assumption) rfl rfl rfl ⟨wmX12_348, wi_yX12_setTop, wv_yX12_setTop, wzX12, wc_yX12_setTop⟩ hy_yX12_setTop rfl (Nat.le_of_ble_eq_true rfl) dX12_plain_145 (fun rv σ' hpo => ?_)
      obtain ⟨rfl, g⟩ := hpo
      rw [ml_ml] at g
      refine n_aload_n hC dX12_plain_148 rfl rfl ?_
      refine n_iload_n hC dX12_plain_149 rfl rfl ?_
      refine n_callV hC (x_done (d + 3) q n0 _ _ _ g hq hn) (Nat.le_refl _) (by decide) (by first | exact rfl | with_reducible assumption) rfl rfl rfl ⟨wmX12_336, wi_yX12_done, wv_yX12_done, wzX12, wc_yX12_done⟩ hy_yX12_done rfl (Nat.le_of_ble_eq_true rfl) dX12_plain_150 (fun rv σ' hpo => ?_)
      obtain ⟨rfl, g⟩ := hpo
      refine n_goto (tgt := 278) hC dX12_plain_153 (by decide) ?_
      refine n_vret hC dX12_plain_278 ?_
      exact ⟨rfl, XA.stk hmv hS h1 g (m_nw_t (by omega)) hl40 (Or.inl (⟨by omega, rfl, _, ⟨t2, b, a, hst, rfl⟩, rfl⟩))⟩
    · obtain rfl : o = 4 := ho
      have hne : 2 ≤ (M.2 0 q).length := hne
      obtain ⟨t2, b, rfl⟩ := m_last1 (show 1 ≤ t.length by omega)
      refine n_tableIn (off := 140) (tgt := 156) hC dX12_plain_16 (by decide) (by decide) (by decide) (by decide) ?_
      refine n_aload_n hC dX12_plain_156 rfl rfl ?_
      refine n_iload_n hC dX12_plain_157 rfl rfl ?_
      refine n_iconst (v := 1) hC dX12_plain_158 (by decide) ?_
      refine n_callV hC (x_fits d q 1 τ0 M _ hS hI hq ha (by omega)) (Nat.le_refl _) (by decide) (by first | exact rfl | with_reducible assumption) rfl rfl rfl ⟨wmX12_342, wi_yX12_fits, wv_yX12_fits, wzX12, wc_yX12_fits⟩ hy_yX12_fits rfl (Nat.le_of_ble_eq_true rfl) dX12_plain_159 (fun rv σ' hpo => ?_)
      rcases hpo with ⟨hle, rfl, hσ⟩ | ⟨hgt, rfl, g⟩
      · rw [hσ]
        refine n_if_eq (tgt := 278) hC dX12_plain_162 (by decide) (fun h => ?_) (fun h => ?_)
        · exact absurd h (by decide)
        · clear h
          refine n_aload_n hC dX12_plain_165 rfl rfl ?_
          refine n_iload_n hC dX12_plain_166 rfl rfl ?_
          refine n_iconst (v := 0) hC dX12_plain_167 (by decide) ?_
          refine n_aload_n hC dX12_plain_168 rfl rfl ?_
          refine n_iload_n hC dX12_plain_169 rfl rfl ?_
          refine n_iconst (v := 1) hC dX12_plain_170 (by decide) ?_
          refine n_callV hC (x_t1 (d + 3) q _ M _ hM hq hst) (Nat.le_refl _) (by decide) (by first | exact rfl | with_reducible assumption) rfl rfl rfl ⟨wmX12_339, wi_yX12_top, wv_yX12_top, wzX12, wc_yX12_top⟩ hy_yX12_top rfl (Nat.le_of_ble_eq_true rfl) dX12_plain_171 (fun rv σ' hpo => ?_)
          obtain ⟨rfl, hσ⟩ := hpo
          rw [hσ]
          refine n_callV hC (x_result (d + 2) q 0 n0 b _ M _ (M.2 0 q) [] hM hq hn (List.append_nil _).symm rfl (by omega)) (Nat.le_refl _) (by decide) (by first | exact rfl | with_reducible assumption) rfl rfl rfl ⟨wmX12_345, wi_yX12_result, wv_yX12_result, wzX12, wc_yX12_result⟩ hy_yX12_result rfl (Nat.le_of_ble_eq_true rfl) dX12_plain_174 (fun rv σ' hpo => ?_)
          obtain ⟨rfl, g⟩ := hpo
          refine n_goto (tgt := 278) hC dX12_plain_177 (by decide) ?_
          refine n_vret hC dX12_plain_278 ?_
          exact ⟨rfl, XA.stk hmv hS h1 g (m_nw_t (by omega)) hle (Or.inl (⟨by omega, rfl, _, ⟨t2, b, a, hst, by rw [hst]⟩, rfl⟩))⟩
      · refine n_if_eq (tgt := 278) hC dX12_plain_162 (by decide) (fun h => ?_) (fun h => ?_)
        · refine n_vret hC dX12_plain_278 ?_
          exact ⟨rfl, XA.full hI hq ha g (m_nw_t (by omega)) hgt⟩
        · exact absurd rfl h
    · obtain rfl : o = 5 := ho
      have hne : 3 ≤ (M.2 0 q).length := hne
      obtain ⟨t2, b, rfl⟩ := m_last1 (show 1 ≤ t.length by omega)
      rw [len1] at hlen
      obtain ⟨t3, x, rfl⟩ := m_last1 (show 1 ≤ t2.length by omega)
      refine n_tableIn (off := 164) (tgt := 180) hC dX12_plain_16 (by decide) (by decide) (by decide) (by decide) ?_
      refine n_aload_n hC dX12_plain_180 rfl rfl ?_
      refine n_iload_n hC dX12_plain_181 rfl rfl ?_
      refine n_iconst (v := 2) hC dX12_plain_182 (by decide) ?_
      refine n_callV hC (x_t2 (d + 3) q _ M _ hM hq hst) (Nat.le_refl _) (by decide) (by first | exact rfl | with_reducible assumption) rfl rfl rfl ⟨wmX12_339, wi_yX12_top, wv_yX12_top, wzX12, wc_yX12_top⟩ hy_yX12_top rfl (Nat.le_of_ble_eq_true rfl) dX12_plain_183 (fun rv σ' hpo => ?_)
      obtain ⟨rfl, hσ⟩ := hpo
      rw [hσ]
      refine n_istore hC dX12_plain_186 (Nat.le_of_ble_eq_true rfl) ?_
      refine n_aload_n hC dX12_plain_188 rfl rfl ?_
      refine n_iload_n hC dX12_plain_189 rfl rfl ?_
      refine n_iconst (v := 2) hC dX12_plain_190 (by decide) ?_
      refine n_aload_n hC dX12_plain_191 rfl rfl ?_
      refine n_iload_n hC dX12_plain_192 rfl rfl ?_
      refine n_iconst (v := 1) hC dX12_plain_193 (by decide) ?_
      refine n_callV hC (x_t1 (d + 3) q _ M _ hM hq hst) (Nat.le_refl _) (by decide) (by first | exact rfl | with_reducible assumption) rfl rfl rfl ⟨wmX12_339, wi_yX12_top, wv_yX12_top, wzX12, wc_yX12_top⟩ hy_yX12_top rfl (Nat.le_of_ble_eq_true rfl) dX12_plain_194 (fun rv σ' hpo => ?_)
      obtain ⟨rfl, hσ⟩ := hpo
      rw [hσ]
      refine n_callV hC (x_s2 (d + 3) q b _ M _ hM hq hst) (Nat.le_refl _) (by decide) (by first | exact rfl | with_reducible assumption) rfl rfl rfl ⟨wmX12_348, wi_yX12_setTop, wv_yX12_setTop, wzX12, wc_yX12_setTop⟩ hy_yX12_setTop rfl (Nat.le_of_ble_eq_true rfl) dX12_plain_197 (fun rv σ' hpo => ?_)
      obtain ⟨rfl, g⟩ := hpo
      refine n_aload_n hC dX12_plain_200 rfl rfl ?_
      refine n_iload_n hC dX12_plain_201 rfl rfl ?_
      refine n_iconst (v := 1) hC dX12_plain_202 (by decide) ?_
      refine n_iload_n hC dX12_plain_203 rfl rfl ?_
      refine n_callV hC (x_s1 (d + 3) q a _ _ _ g hq (ml_e _ _ _ _)) (Nat.le_refl _) (by decide) (by first | exact rfl | with_reducible assumption) rfl rfl rfl ⟨wmX12_348, wi_yX12_setTop, wv_yX12_setTop, wzX12, wc_yX12_setTop⟩ hy_yX12_setTop rfl (Nat.le_of_ble_eq_true rfl) dX12_plain_204 (fun rv σ' hpo => ?_)
      obtain ⟨rfl, g⟩ := hpo
      rw [ml_ml] at g
      refine n_aload_n hC dX12_plain_207 rfl rfl ?_
      refine n_iload_n hC dX12_plain_208 rfl rfl ?_
      refine n_iconst (v := 0) hC dX12_plain_209 (by decide) ?_
      refine n_iload hC dX12_plain_210 rfl ?_
      refine n_callV hC (x_s0 (d + 3) q x _ _ _ g hq (ml_e _ _ _ _)) (Nat.le_refl _) (by decide) (by first | exact rfl | with_reducible assumption) rfl rfl rfl ⟨wmX12_348, wi_yX12_setTop, wv_yX12_setTop, wzX12, wc_yX12_setTop⟩ hy_yX12_setTop rfl (Nat.le_of_ble_eq_true rfl) dX12_plain_212 (fun rv σ' hpo => ?_)
      obtain ⟨rfl, g⟩ := hpo
      rw [ml_ml] at g
      refine n_aload_n hC dX12_plain_215 rfl rfl ?_
      refine n_iload_n hC dX12_plain_216 rfl rfl ?_
      refine n_callV hC (x_done (d + 3) q n0 _ _ _ g hq hn) (Nat.le_refl _) (by decide) (by first | exact rfl | with_reducible assumption) rfl rfl rfl ⟨wmX12_336, wi_yX12_done, wv_yX12_done, wzX12, wc_yX12_done⟩ hy_yX12_done rfl (Nat.le_of_ble_eq_true rfl) dX12_plain_217 (fun rv σ' hpo => ?_)
      obtain ⟨rfl, g⟩ := hpo
      refine n_goto (tgt := 278) hC dX12_plain_220 (by decide) ?_
      refine n_vret hC dX12_plain_278 ?_
      exact ⟨rfl, XA.stk hmv hS h1 g (m_nw_t (by omega)) hl40 (Or.inl (⟨by omega, rfl, _, ⟨t3, x, b, a, hst, rfl⟩, rfl⟩))⟩
    · obtain rfl : o = 14 := ho
      refine n_tableIn (off := 207) (tgt := 223) hC dX12_plain_16 (by decide) (by decide) (by decide) (by decide) ?_
      refine n_aload_n hC dX12_plain_223 rfl rfl ?_
      refine n_iload_n hC dX12_plain_224 rfl rfl ?_
      refine n_iconst (v := 1) hC dX12_plain_225 (by decide) ?_
      refine n_iload_n hC dX12_plain_226 rfl rfl ?_
      refine n_iconst (v := -1) hC dX12_plain_227 (by decide) ?_
      refine n_ixor hC dX12_plain_228 ?_
      refine n_callV hC (x_result (d + 2) q 1 n0 (a ^^^ (-1)) _ M _ t [a] hM hq hn hst rfl (by omega)) (Nat.le_refl _) (by decide) (by first | exact rfl | with_reducible assumption) rfl rfl rfl ⟨wmX12_345, wi_yX12_result, wv_yX12_result, wzX12, wc_yX12_result⟩ hy_yX12_result rfl (Nat.le_of_ble_eq_true rfl) dX12_plain_229 (fun rv σ' hpo => ?_)
      obtain ⟨rfl, g⟩ := hpo
      refine n_goto (tgt := 278) hC dX12_plain_232 (by decide) ?_
      refine n_vret hC dX12_plain_278 ?_
      exact ⟨rfl, XA.stk hmv hS h1 g (m_nw_t (by omega)) hl40 (Or.inl (⟨by omega, rfl, _, ⟨t, a, hst, rfl⟩, rfl⟩))⟩
    · obtain ⟨n2, gr0⟩ := m_ne_2 k (by omega) hk7
      have hl40' : (M.2 0 q).length + m_gr k ≤ 40 := by rw [gr0]; exact hl40
      rw [n2] at hne
      obtain ⟨t2, b, rfl⟩ := m_last1 (show 1 ≤ t.length by omega)
      rw [len1] at hlen
      obtain ⟨o9, o10⟩ := r_op_9 k (by omega) hk7
      rw [← ho] at o9 o10
      have at261 : ¬ (a = 0 ∧ (k = 10 ∨ k = 11)) → n_W p l e s m [Value.ref (ad 0 0), Value.int (nI q), Value.int o].toArray below meth c (rw D ca ad Ex) (d + 4) (fun rv τ' => rv = none ∧ XA τ0 M q k n0 n τ') 261 [some (.ref (ad 0 0)), some (.int (nI q)), some (.int o), some (.int a), none] [] τ := by
        intro hnz
        refine n_aload_n hC dX12_plain_261 rfl rfl ?_
        refine n_iload_n hC dX12_plain_262 rfl rfl ?_
        refine n_iconst (v := 2) hC dX12_plain_263 (by decide) ?_
        refine n_iload_n hC dX12_plain_264 rfl rfl ?_
        refine n_aload_n hC dX12_plain_265 rfl rfl ?_
        refine n_iload_n hC dX12_plain_266 rfl rfl ?_
        refine n_iconst (v := 1) hC dX12_plain_267 (by decide) ?_
        refine n_callV hC (x_t1 (d + 3) q _ M _ hM hq hst) (Nat.le_refl _) (by decide) (by first | exact rfl | with_reducible assumption) rfl rfl rfl ⟨wmX12_339, wi_yX12_top, wv_yX12_top, wzX12, wc_yX12_top⟩ hy_yX12_top rfl (Nat.le_of_ble_eq_true rfl) dX12_plain_268 (fun rv σ' hpo => ?_)
        obtain ⟨rfl, hσ⟩ := hpo
        rw [hσ]
        refine n_iload_n hC dX12_plain_271 rfl rfl ?_
        refine n_callS hC (x_reckoned (d + 3) k o b a ⟨hk7, hk.2⟩ ho hnz _) (Nat.le_refl _) (by decide) ⟨wmX12_351, ws_yX12_reckoned, wzX12, wc_yX12_reckoned⟩ hy_yX12_reckoned rfl (Nat.le_of_ble_eq_true rfl) dX12_plain_272 (fun rv σ' hpo => ?_)
        obtain ⟨rfl, hσ⟩ := hpo
        rw [hσ]
        refine n_callV hC (x_result (d + 2) q 2 n0 (m_res k b a) _ M _ t2 ([b] ++ [a]) hM hq hn (by rw [hst, List.append_assoc]) rfl (by omega)) (Nat.le_refl _) (by decide) (by first | exact rfl | with_reducible assumption) rfl rfl rfl ⟨wmX12_345, wi_yX12_result, wv_yX12_result, wzX12, wc_yX12_result⟩ hy_yX12_result rfl (Nat.le_of_ble_eq_true rfl) dX12_plain_275 (fun rv σ' hpo => ?_)
        obtain ⟨rfl, g⟩ := hpo
        refine n_vret hC dX12_plain_278 ?_
        exact ⟨rfl, XA.stk hmv hS h1 g (m_nw_t (by omega)) hl40' (Or.inr (Or.inl (⟨⟨hk7, hk.2⟩, t2, b, a, hst, Or.inr ⟨hnz, rfl, rfl⟩⟩)))⟩
      have at247 : (k = 10 ∨ k = 11) → n_W p l e s m [Value.ref (ad 0 0), Value.int (nI q), Value.int o].toArray below meth c (rw D ca ad Ex) (d + 4) (fun rv τ' => rv = none ∧ XA τ0 M q k n0 n τ') 247 [some (.ref (ad 0 0)), some (.int (nI q)), some (.int o), some (.int a), none] [] τ := by
        intro hkd
        refine n_iload_n hC dX12_plain_247 rfl rfl ?_
        refine n_if_ne (tgt := 261) hC dX12_plain_248 (by decide) (fun h => ?_) (fun h => ?_)
        · exact at261 (fun z => h z.1)
        · refine n_aload_n hC dX12_plain_251 rfl rfl ?_
          refine n_iload_n hC dX12_plain_252 rfl rfl ?_
          refine n_bipush (v := -4) hC dX12_plain_253 (by decide) ?_
          refine n_callV hC (x_finish (d + 1) q (-4) τ0 M _ hS hI hq ha) (Nat.le_refl _) (by decide) (by first | exact rfl | with_reducible assumption) rfl rfl rfl ⟨wmX12_330, wi_yX12_finish, wv_yX12_finish, wzX12, wc_yX12_finish⟩ hy_yX12_finish rfl (Nat.le_of_ble_eq_true rfl) dX12_plain_255 (fun rv σ' hpo => ?_)
          obtain ⟨rfl, g⟩ := hpo
          refine n_goto (tgt := 278) hC dX12_plain_258 (by decide) ?_
          refine n_vret hC dX12_plain_278 ?_
          exact ⟨rfl, XA.trap hI hq ha g (m_nw_t (by omega)) hl40' (by decide) (Or.inr (Or.inl (⟨⟨hk7, hk.2⟩, t2, b, a, hst, Or.inl ⟨⟨h, hkd⟩, rfl, rfl⟩⟩))) m_fin_ab'⟩
      have rest : n_W p l e s m [Value.ref (ad 0 0), Value.int (nI q), Value.int o].toArray below meth c (rw D ca ad Ex) (d + 4) (fun rv τ' => rv = none ∧ XA τ0 M q k n0 n τ') 235 [some (.ref (ad 0 0)), some (.int (nI q)), some (.int o), some (.int a), none] [] τ := by
        refine n_iload_n hC dX12_plain_235 rfl rfl ?_
        refine n_bipush (v := 9) hC dX12_plain_236 (by decide) ?_
        refine n_icmp_eq (tgt := 247) hC dX12_plain_238 (by decide) (fun h => ?_) (fun h => ?_)
        · exact at247 (Or.inl (o9.mp h))
        · have h9 := h
          clear h
          refine n_iload_n hC dX12_plain_241 rfl rfl ?_
          refine n_bipush (v := 10) hC dX12_plain_242 (by decide) ?_
          refine n_icmp_ne (tgt := 261) hC dX12_plain_244 (by decide) (fun h => ?_) (fun h => ?_)
          · refine at261 (fun z => ?_)
            rcases z.2 with z | z
            · exact h9 (o9.mpr z)
            · exact h (o10.mpr z)
          · exact at247 (Or.inr (o10.mp h))
      rcases (show k = 7 ∨ k = 8 ∨ k = 9 ∨ k = 10 ∨ k = 11 ∨ k = 12 ∨ k = 13 ∨ k = 14 ∨ k = 15 ∨ k = 16 ∨ k = 17 ∨ k = 18 ∨ k = 19 by omega) with rfl | rfl | rfl | rfl | rfl | rfl | rfl | rfl | rfl | rfl | rfl | rfl | rfl
      · obtain rfl : o = 6 := ho
        refine n_tableIn (off := 219) (tgt := 235) hC dX12_plain_16 (by decide) (by decide) (by decide) (by decide) ?_
        exact rest
      · obtain rfl : o = 7 := ho
        refine n_tableIn (off := 219) (tgt := 235) hC dX12_plain_16 (by decide) (by decide) (by decide) (by decide) ?_
        exact rest
      · obtain rfl : o = 8 := ho
        refine n_tableIn (off := 219) (tgt := 235) hC dX12_plain_16 (by decide) (by decide) (by decide) (by decide) ?_
        exact rest
      · obtain rfl : o = 9 := ho
        refine n_tableIn (off := 219) (tgt := 235) hC dX12_plain_16 (by decide) (by decide) (by decide) (by decide) ?_
        exact rest
      · obtain rfl : o = 10 := ho
        refine n_tableIn (off := 219) (tgt := 235) hC dX12_plain_16 (by decide) (by decide) (by decide) (by decide) ?_
        exact rest
      · obtain rfl : o = 11 := ho
        refine n_tableIn (off := 219) (tgt := 235) hC dX12_plain_16 (by decide) (by decide) (by decide) (by decide) ?_
        exact rest
      · obtain rfl : o = 12 := ho
        refine n_tableIn (off := 219) (tgt := 235) hC dX12_plain_16 (by decide) (by decide) (by decide) (by decide) ?_
        exact rest
      · obtain rfl : o = 13 := ho
        refine n_tableIn (off := 219) (tgt := 235) hC dX12_plain_16 (by decide) (by decide) (by decide) (by decide) ?_
        exact rest
      · obtain rfl : o = 15 := ho
        refine n_tableOut (tgt := 235) hC dX12_plain_16 (by decide) (by decide) ?_
        exact rest
      · obtain rfl : o = 16 := ho
        refine n_tableOut (tgt := 235) hC dX12_plain_16 (by decide) (by decide) ?_
        exact rest
      · obtain rfl : o = 17 := ho
        refine n_tableOut (tgt := 235) hC dX12_plain_16 (by decide) (by decide) ?_
        exact rest
      · obtain rfl : o = 18 := ho
        refine n_tableOut (tgt := 235) hC dX12_plain_16 (by decide) (by decide) ?_
        exact rest
      · obtain rfl : o = 19 := ho
        refine n_tableOut (tgt := 235) hC dX12_plain_16 (by decide) (by decide) ?_
        exact rest
  · exact absurd h (by rw [ho]; exact r_op_0 k (by omega) hk.1)
end RPL
