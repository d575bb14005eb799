/-! the reference's constructor -/
def aWo (i : Nat) : Nat → Int64 := fun j => if j < i then rw_wo.getD j 0 else 0
def aNe (i : Nat) : Nat → Int32 := fun j => if j < i then rw_ne.getD j 0 else 0
def aA_M (ca : Nat → ClassId) (w v q : Nat) : va_E := if q = 0 then .inl (ca 2, 42, .inr (.inl (aWo w))) else if q = 1 then .inl (ca 0, 43, .inl (aNe v)) else match q with
  | 2 => .inl (ca 1, 8192, .inl fun _ => 0)
  | 3 => .inl (ca 0, 3328, .inl fun _ => 0)
  | 4 => .inl (ca 0, 3328, .inl fun _ => 0)
  | 5 => .inl (ca 0, 13, .inl fun _ => 0)
  | 6 => .inl (ca 3, 13, .inl fun _ => 0)
  | 7 => .inl (ca 0, 32, .inl fun _ => 0)
  | 8 => .inl (ca 0, 32, .inl fun _ => 0)
  | 9 => .inl (ca 0, 32, .inl fun _ => 0)
  | 10 => .inl (ca 0, 256, .inl fun _ => 0)
  | 11 => .inl (ca 0, 256, .inl fun _ => 0)
  | 12 => .inl (ca 0, 13, .inl fun _ => 0)
  | 13 => .inl (ca 0, 13, .inl fun _ => 0)
  | 14 => .inl (ca 0, 13, .inl fun _ => 0)
  | 15 => .inl (ca 0, 13, .inl fun _ => 0)
  | 16 => .inl (ca 0, 13, .inl fun _ => 0)
  | 17 => .inl (ca 0, 13, .inl fun _ => 0)
  | 18 => .inl (ca 0, 13, .inl fun _ => 0)
  | 19 => .inl (ca 0, 520, .inl fun _ => 0)
  | 20 => .inl (ca 0, 13, .inl fun _ => 0)
  | 21 => .inl (ca 0, 260, .inl fun _ => 0)
  | 22 => .inl (ca 0, 13, .inl fun _ => 0)
  | 23 => .inl (ca 0, 104, .inl fun _ => 0)
  | 24 => .inl (ca 0, 104, .inl fun _ => 0)
  | 25 => .inl (ca 0, 13, .inl fun _ => 0)
  | 26 => .inl (ca 0, 104, .inl fun _ => 0)
  | 27 => .inl (ca 0, 13, .inl fun _ => 0)
  | 28 => .inl (ca 0, 13, .inl fun _ => 0)
  | 29 => .inl (ca 0, 13, .inl fun _ => 0)
  | 30 => .inl (ca 0, 39, .inl fun _ => 0)
  | 31 => .inl (ca 0, 3, .inl fun _ => 0)
  | 32 => .inl (ca 0, 8, .inl fun _ => 0)
  | 33 => .inl (ca 0, 104, .inl fun _ => 0)
  | 34 => .inl (ca 0, 8, .inl fun _ => 0)
  | 35 => .inl (ca 0, 1024, .inl fun _ => 0)
  | 36 => .inl (ca 0, 1025, .inl fun _ => 0)
  | 37 => .inl (ca 0, 1025, .inl fun _ => 0)
  | 38 => .inl (ca 0, 1025, .inl fun _ => 0)
  | _ => .inl (ca 0, 2000, .inl fun _ => 0)
abbrev aO_M (z : Nat) : va_E := .inr (10, [.ref (z + 0), .ref (z + 1), .int 0, .ref (z + 2), .int 0, .int 0, .int 0, .ref (z + 3), .ref (z + 4), .ref (z + 5), .ref (z + 6), .ref (z + 7), .ref (z + 8), .ref (z + 9), .int 0, .ref (z + 10), .ref (z + 11), .int 0, .int 0, .ref (z + 12), .ref (z + 13), .ref (z + 14), .ref (z + 15), .ref (z + 16), .ref (z + 17), .ref (z + 18), .ref (z + 19), .ref (z + 20), .ref (z + 21), .ref (z + 22), .ref (z + 23), .ref (z + 24), .ref (z + 25), .ref (z + 26), .ref (z + 27), .ref (z + 28), .ref (z + 29), .ref (z + 30), .ref (z + 31), .int 0, .int 4, .ref (z + 32), .ref (z + 33), .ref (z + 34), .ref (z + 35), .ref (z + 36), .ref (z + 37), .ref (z + 38), .int 1, .ref (z + 39), .int 0, .int 0, .int 0])
theorem aWo_0 : aWo 0 = fun _ => 0 := by
  funext j
  exact if_neg (Nat.not_lt_zero _)
theorem aNe_0 : aNe 0 = fun _ => 0 := by
  funext j
  exact if_neg (Nat.not_lt_zero _)
theorem aWo_s (i : Nat) : vp_updL (aWo i) i (rw_wo.getD i 0) = aWo (i + 1) := by
  funext j
  unfold vp_updL aWo
  by_cases h : j = i
  · rw [if_pos h, if_pos (by omega), h]
  · rw [if_neg h]
    by_cases h2 : j < i
    · rw [if_pos h2, if_pos (by omega)]
    · rw [if_neg h2, if_neg (by omega)]
theorem aNe_s (i : Nat) : upd (aNe i) i (rw_ne.getD i 0) = aNe (i + 1) := by
  funext j
  unfold upd aNe
  by_cases h : j = i
  · rw [if_pos h, if_pos (by omega), h]
  · rw [if_neg h]
    by_cases h2 : j < i
    · rw [if_pos h2, if_pos (by omega)]
    · rw [if_neg h2, if_neg (by omega)]
theorem aWo_e : aWo 42 = fun j => rw_wo.getD j 0 := by
  funext j
  unfold aWo
  by_cases h : j < 42
  · rw [if_pos h]
  · rw [if_neg h]
    rw [List.getD_eq_getElem?_getD, List.getElem?_eq_none (show rw_wo.length ≤ j from Nat.le_of_not_lt h)]
    rfl
theorem aNe_e : aNe 43 = fun j => rw_ne.getD j 0 := by
  funext j
  unfold aNe
  by_cases h : j < 43
  · rw [if_pos h]
  · rw [if_neg h]
    rw [List.getD_eq_getElem?_getD, List.getElem?_eq_none (show rw_ne.length ≤ j from Nat.le_of_not_lt h)]
    rfl
theorem aM_w0 {ca : Nat → ClassId} : aA_M ca 0 0 0 = .inl (ca 2, 42, .inr (.inl fun _ => 0)) := by
  rw [← aWo_0]
  rfl
theorem aM_n0 {ca : Nat → ClassId} : aA_M ca 42 0 1 = .inl (ca 0, 43, .inl fun _ => 0) := by
  rw [← aNe_0]
  rfl
section AM
variable {A A2 : Nat → va_E} {h0 z i m9 J : Nat} {σ0 σ σ2 : a_S} {o o2 b x : va_E}
variable {p : Program} {l : Launch} {e : Env} {s : State} {m : MethodId} {args : Array Value} {below : List Frame} {meth : Method} {c : Code} {D : va_G} {ca : Nat → ClassId} {R : Room} {Q : State → Prop} {z0 : Nat} {cc : ByteArray} {nL : Nat} {own : String} {ret : Option FieldType}
variable {pc : Nat} {ls : List (Option Value)} {rest : List Value} {n k : Nat}
theorem al_N1 (hC : n_C p s m args meth c (aw D ca) cc nL own ret) {t0 N : Nat} {atype : ArrayType} {ty : FieldType} {v : Int32} {a0 : vp_A} (hh : h0 < z ∧ z0 ≤ h0) (hI : a_I A h0 z i σ0 σ o) (hv : ¬ v < 0 ∧ v.toNatClampNeg = N) (hA : A i = .inl (ca t0, a0)) (ha : ∀ cA : ClassId, vp_cell cA a0 = arrV cA N (fun _ => defaultValue ty))
    (harr : Cond.arrayClass (newarray.typeOf atype) ∈ n_tb) (hty : newarray.typeOf atype = ty) (hno : ∀ C, ty ≠ .object C) (ht : (n_tys ca)[t0]? = some (ca t0, ty)) (hbytes : N * componentBytes ty ≤ 536870912) (hcells : n + 1 ≤ R.cells) (hslots : k + N ≤ R.slots) (hd1 : decode cc pc = .ok (.newarray atype, 2))
    (kk : ∀ σ2, a_I A h0 z (i + 1) σ0 σ2 o → ag_W p l e s m args below meth c R Q D z0 (pc + 2) ls (.ref (z + i) :: rest) (σ2, z + (i + 1), n + 1, k + N)) : ag_W p l e s m args below meth c R Q D z0 pc ls (.int v :: rest) (σ, z + i, n, k) :=
  al_newa (t0 := t0) hC harr hty hno ht ha hv.1 hv.2 hbytes hcells hslots hd1 (kk _ (hI.new hh.1 hA))
theorem al_lW (hC : n_C p s m args meth c (aw D ca) cc nL own ret) {j : Int32} {v : Int64} {m9 zz : Nat} (hh : h0 < z ∧ z0 ≤ h0) (hI : a_I (aA_M ca i 0) h0 z (m9 + 1) σ0 σ o) (hi : i < 42) (hj : j = nI i) (hv : v = rw_wo.getD i 0) (hdg : decode cc pc = .ok (.lastore, 1))
    (kk : ∀ σ2, a_I (aA_M ca (i + 1) 0) h0 z (m9 + 1) σ0 σ2 o → ag_W p l e s m args below meth c R Q D z0 (pc + 1) ls rest (σ2, zz, n, k)) : ag_W p l e s m args below meth c R Q D z0 pc ls (.long v :: .int j :: .ref (z + 0) :: rest) (σ, zz, n, k) := by
  subst hj
  refine al_last (t0 := 2) hC ((hI.2.1 0 (Nat.succ_pos _)).trans (congrArg some (if_pos rfl))) (by omega) rfl (vp_in_nI hi (by decide)) hdg (kk _ ((hI.arr (J := 0) hh.1).cong (fun q _ => ?_)))
  by_cases h : q = 0
  · subst h
    rw [if_pos rfl, nI_clamp (by omega), hv, aWo_s]
    rfl
  · rw [if_neg h]
    unfold aA_M
    rw [if_neg h, if_neg h]
theorem al_lN (hC : n_C p s m args meth c (aw D ca) cc nL own ret) {j v : Int32} {m9 zz : Nat} (hh : h0 < z ∧ z0 ≤ h0) (hI : a_I (aA_M ca 42 i) h0 z (m9 + 2) σ0 σ o) (hi : i < 43) (hj : j = nI i) (hv : v = rw_ne.getD i 0) (hdg : decode cc pc = .ok (.iastore, 1))
    (kk : ∀ σ2, a_I (aA_M ca 42 (i + 1)) h0 z (m9 + 2) σ0 σ2 o → ag_W p l e s m args below meth c R Q D z0 (pc + 1) ls rest (σ2, zz, n, k)) : ag_W p l e s m args below meth c R Q D z0 pc ls (.int v :: .int j :: .ref (z + 1) :: rest) (σ, zz, n, k) := by
  subst hj
  refine al_iast (t0 := 0) hC ((hI.2.1 1 (by omega)).trans (congrArg some (show aA_M ca 42 i 1 = _ from rfl))) (by omega) rfl (vp_in_nI hi (by decide)) hdg (kk _ ((hI.arr (J := 1) hh.1).cong (fun q _ => ?_)))
  by_cases h : q = 1
  · subst h
    rw [if_pos rfl, nI_clamp (by omega), hv, aNe_s]
    rfl
  · rw [if_neg h]
    unfold aA_M
    by_cases h0 : q = 0
    · rw [if_pos h0, if_pos h0]
    · rw [if_neg h0, if_neg h0, if_neg h, if_neg h]
end AM
def aB_M (ca : Nat → ClassId) : Nat → va_E := fun i => if i = 37 then .inl (ca 0, 1025, .inl (upd (fun _ => 0) 0 1024)) else aA_M ca 42 43 i
set_option maxRecDepth 100000 in
set_option maxHeartbeats 8000000 in
theorem a_X12_init (l : Launch) (D : va_G) (ca : Nat → ClassId) {z0 h0 z : Nat} {σ : a_S} (hb : σ h0 = some (.inr (10, [.null, .null, .int 0, .null, .int 0, .int 0, .int 0, .null, .null, .null, .null, .null, .null, .null, .int 0, .null, .null, .int 0, .int 0, .null, .null, .null, .null, .null, .null, .null, .null, .null, .null, .null, .null, .null, .null, .null, .null, .null, .null, .null, .null, .int 0, .int 0, .null, .null, .null, .null, .null, .null, .null, .int 0, .null, .int 0, .int 0, .int 0]))) (hh : h0 < z ∧ z0 ≤ h0) : a_Ct l D ca z0 1 40 23089 yX12_init cX12_init 1 [.ref h0] σ z (z + 40) (fun σ' => a_I (aB_M ca) h0 z 40 σ σ' (aO_M z)) := by
  refine a_ofW rfl rfl (Nat.le_of_ble_eq_true rfl) (fun p e s m below meth c hC hin hN => ?_)
  have hI : a_I (aA_M ca 0 0) h0 z 0 σ σ (.inr (10, [.null, .null, .int 0, .null, .int 0, .int 0, .int 0, .null, .null, .null, .null, .null, .null, .null, .int 0, .null, .null, .int 0, .int 0, .null, .null, .null, .null, .null, .null, .null, .null, .null, .null, .null, .null, .null, .null, .null, .null, .null, .null, .null, .null, .int 0, .int 0, .null, .null, .null, .null, .null, .null, .null, .int 0, .null, .int 0, .int 0, .int 0])) := a_I.nil hb
  have key : ∀ σ1 : a_S, a_I (aA_M ca 0 0) h0 z 0 σ σ1 (.inr (10, [.null, .null, .int 0, .null, .int 0, .int 0, .int 0, .null, .null, .null, .null, .null, .null, .null, .int 0, .null, .null, .int 0, .int 0, .null, .null, .null, .null, .null, .null, .null, .null, .null, .null, .null, .null, .null, .null, .null, .null, .null, .null, .null, .null, .int 0, .int 0, .null, .null, .null, .null, .null, .null, .null, .int 0, .null, .int 0, .int 0, .int 0])) → a_W p l e s m ([.ref h0] : List Value).toArray below meth c D z0 1 40 23089 (fun σ' => a_I (aB_M ca) h0 z 40 σ σ' (aO_M z)) (z + 40) 0 (n_l0 1 [.ref h0]) [] (σ1, z + 0, 0, 0) := by
    intro σ1 hI
    refine jg_aload_n hC dX12_init_0 rfl rfl ?_
    refine al_obj hC wob_X12 dX12_init_1 ⟨Nat.le_of_ble_eq_true rfl, Nat.le_of_ble_eq_true rfl, Nat.le_of_ble_eq_true rfl⟩ ?_
    -- words
    refine jg_aload_n hC dX12_init_4 rfl rfl ?_
    refine jg_bipush (v := 42) hC dX12_init_5 (by decide) ?_
    refine al_N1 (atype := .long) (t0 := 2) (N := 42) (ty := .long) hC hh hI ⟨by decide, by decide⟩ aM_w0 (fun _ => rfl) wa_long rfl (fun _ h => by cases h) rfl (by decide) (Nat.le_of_ble_eq_true rfl) (Nat.le_of_ble_eq_true rfl) dX12_init_7 (fun σ hI => ?_)
    refine jg_dup hC dX12_init_9 rfl ?_
    refine jg_iconst (v := 0) hC dX12_init_10 (by decide) ?_
    refine jg_ldc2 (v := 6583664) hC (n_a6 131 (by decide +kernel) (by decide +kernel)) dX12_init_11 ?_
    refine al_lW (i := 0) hC hh hI (by decide) rfl rfl dX12_init_14 (fun σ hI => ?_)
    refine jg_dup hC dX12_init_15 rfl ?_
    refine jg_iconst (v := 1) hC dX12_init_16 (by decide) ?_
    refine jg_ldc2 (v := 1685221232) hC (n_a6 132 (by decide +kernel) (by decide +kernel)) dX12_init_17 ?_
    refine al_lW (i := 1) hC hh hI (by decide) rfl rfl dX12_init_20 (fun σ hI => ?_)
    refine jg_dup hC dX12_init_21 rfl ?_
    refine jg_iconst (v := 2) hC dX12_init_22 (by decide) ?_
    refine jg_ldc2 (v := 1937203568) hC (n_a6 133 (by decide +kernel) (by decide +kernel)) dX12_init_23 ?_
    refine al_lW (i := 2) hC hh hI (by decide) rfl rfl dX12_init_26 (fun σ hI => ?_)
    refine jg_dup hC dX12_init_27 rfl ?_
    refine jg_iconst (v := 3) hC dX12_init_28 (by decide) ?_
    refine jg_ldc2 (v := 1870030194) hC (n_a6 134 (by decide +kernel) (by decide +kernel)) dX12_init_29 ?_
    refine al_lW (i := 3) hC hh hI (by decide) rfl rfl dX12_init_32 (fun σ hI => ?_)
    refine jg_dup hC dX12_init_33 rfl ?_
    refine jg_iconst (v := 4) hC dX12_init_34 (by decide) ?_
    refine jg_ldc2 (v := 7499636) hC (n_a6 135 (by decide +kernel) (by decide +kernel)) dX12_init_35 ?_
    refine al_lW (i := 4) hC hh hI (by decide) rfl rfl dX12_init_38 (fun σ hI => ?_)
    refine jg_dup hC dX12_init_39 rfl ?_
    refine jg_iconst (v := 5) hC dX12_init_40 (by decide) ?_
    refine jg_ldc2 (v := 43) hC (n_a6 136 (by decide +kernel) (by decide +kernel)) dX12_init_41 ?_
    refine al_lW (i := 5) hC hh hI (by decide) rfl rfl dX12_init_44 (fun σ hI => ?_)
    refine jg_dup hC dX12_init_45 rfl ?_
    refine jg_bipush (v := 6) hC dX12_init_46 (by decide) ?_
    refine jg_ldc2 (v := 45) hC (n_a6 137 (by decide +kernel) (by decide +kernel)) dX12_init_48 ?_
    refine al_lW (i := 6) hC hh hI (by decide) rfl rfl dX12_init_51 (fun σ hI => ?_)
    refine jg_dup hC dX12_init_52 rfl ?_
    refine jg_bipush (v := 7) hC dX12_init_53 (by decide) ?_
    refine jg_ldc2 (v := 42) hC (n_a6 138 (by decide +kernel) (by decide +kernel)) dX12_init_55 ?_
    refine al_lW (i := 7) hC hh hI (by decide) rfl rfl dX12_init_58 (fun σ hI => ?_)
    refine jg_dup hC dX12_init_59 rfl ?_
    refine jg_bipush (v := 8) hC dX12_init_60 (by decide) ?_
    refine jg_ldc2 (v := 47) hC (n_a6 139 (by decide +kernel) (by decide +kernel)) dX12_init_62 ?_
    refine al_lW (i := 8) hC hh hI (by decide) rfl rfl dX12_init_65 (fun σ hI => ?_)
    refine jg_dup hC dX12_init_66 rfl ?_
    refine jg_bipush (v := 9) hC dX12_init_67 (by decide) ?_
    refine jg_ldc2 (v := 37) hC (n_a6 140 (by decide +kernel) (by decide +kernel)) dX12_init_69 ?_
    refine al_lW (i := 9) hC hh hI (by decide) rfl rfl dX12_init_72 (fun σ hI => ?_)
    refine jg_dup hC dX12_init_73 rfl ?_
    refine jg_bipush (v := 10) hC dX12_init_74 (by decide) ?_
    refine jg_ldc2 (v := 6385252) hC (n_a6 141 (by decide +kernel) (by decide +kernel)) dX12_init_76 ?_
    refine al_lW (i := 10) hC hh hI (by decide) rfl rfl dX12_init_79 (fun σ hI => ?_)
    refine jg_dup hC dX12_init_80 rfl ?_
    refine jg_bipush (v := 11) hC dX12_init_81 (by decide) ?_
    refine jg_ldc2 (v := 28530) hC (n_a6 142 (by decide +kernel) (by decide +kernel)) dX12_init_83 ?_
    refine al_lW (i := 11) hC hh hI (by decide) rfl rfl dX12_init_86 (fun σ hI => ?_)
    refine jg_dup hC dX12_init_87 rfl ?_
    refine jg_bipush (v := 12) hC dX12_init_88 (by decide) ?_
    refine jg_ldc2 (v := 7892850) hC (n_a6 143 (by decide +kernel) (by decide +kernel)) dX12_init_90 ?_
    refine al_lW (i := 12) hC hh hI (by decide) rfl rfl dX12_init_93 (fun σ hI => ?_)
    refine jg_dup hC dX12_init_94 rfl ?_
    refine jg_bipush (v := 13) hC dX12_init_95 (by decide) ?_
    refine jg_ldc2 (v := 7237492) hC (n_a6 144 (by decide +kernel) (by decide +kernel)) dX12_init_97 ?_
    refine al_lW (i := 13) hC hh hI (by decide) rfl rfl dX12_init_100 (fun σ hI => ?_)
    refine jg_dup hC dX12_init_101 rfl ?_
    refine jg_bipush (v := 14) hC dX12_init_102 (by decide) ?_
    refine jg_ldc2 (v := 1818584692) hC (n_a6 145 (by decide +kernel) (by decide +kernel)) dX12_init_104 ?_
    refine al_lW (i := 14) hC hh hI (by decide) rfl rfl dX12_init_107 (fun σ hI => ?_)
    refine jg_dup hC dX12_init_108 rfl ?_
    refine jg_bipush (v := 15) hC dX12_init_109 (by decide) ?_
    refine jg_ldc2 (v := 491394656372) hC (n_a6 146 (by decide +kernel) (by decide +kernel)) dX12_init_111 ?_
    refine al_lW (i := 15) hC hh hI (by decide) rfl rfl dX12_init_114 (fun σ hI => ?_)
    refine jg_dup hC dX12_init_115 rfl ?_
    refine jg_bipush (v := 16) hC dX12_init_116 (by decide) ?_
    refine jg_ldc2 (v := 61) hC (n_a6 147 (by decide +kernel) (by decide +kernel)) dX12_init_118 ?_
    refine al_lW (i := 16) hC hh hI (by decide) rfl rfl dX12_init_121 (fun σ hI => ?_)
    refine jg_dup hC dX12_init_122 rfl ?_
    refine jg_bipush (v := 17) hC dX12_init_123 (by decide) ?_
    refine jg_ldc2 (v := 60) hC (n_a6 148 (by decide +kernel) (by decide +kernel)) dX12_init_125 ?_
    refine al_lW (i := 17) hC hh hI (by decide) rfl rfl dX12_init_128 (fun σ hI => ?_)
    refine jg_dup hC dX12_init_129 rfl ?_
    refine jg_bipush (v := 18) hC dX12_init_130 (by decide) ?_
    refine jg_ldc2 (v := 62) hC (n_a6 149 (by decide +kernel) (by decide +kernel)) dX12_init_132 ?_
    refine al_lW (i := 18) hC hh hI (by decide) rfl rfl dX12_init_135 (fun σ hI => ?_)
    refine jg_dup hC dX12_init_136 rfl ?_
    refine jg_bipush (v := 19) hC dX12_init_137 (by decide) ?_
    refine jg_ldc2 (v := 64) hC (n_a6 150 (by decide +kernel) (by decide +kernel)) dX12_init_139 ?_
    refine al_lW (i := 19) hC hh hI (by decide) rfl rfl dX12_init_142 (fun σ hI => ?_)
    refine jg_dup hC dX12_init_143 rfl ?_
    refine jg_bipush (v := 20) hC dX12_init_144 (by decide) ?_
    refine jg_ldc2 (v := 33) hC (n_a6 151 (by decide +kernel) (by decide +kernel)) dX12_init_146 ?_
    refine al_lW (i := 20) hC hh hI (by decide) rfl rfl dX12_init_149 (fun σ hI => ?_)
    refine jg_dup hC dX12_init_150 rfl ?_
    refine jg_bipush (v := 21) hC dX12_init_151 (by decide) ?_
    refine jg_ldc2 (v := 125780071117422) hC (n_a6 152 (by decide +kernel) (by decide +kernel)) dX12_init_153 ?_
    refine al_lW (i := 21) hC hh hI (by decide) rfl rfl dX12_init_156 (fun σ hI => ?_)
    refine jg_dup hC dX12_init_157 rfl ?_
    refine jg_bipush (v := 22) hC dX12_init_158 (by decide) ?_
    refine jg_ldc2 (v := 418430873443) hC (n_a6 153 (by decide +kernel) (by decide +kernel)) dX12_init_160 ?_
    refine al_lW (i := 22) hC hh hI (by decide) rfl rfl dX12_init_163 (fun σ hI => ?_)
    refine jg_dup hC dX12_init_164 rfl ?_
    refine jg_bipush (v := 23) hC dX12_init_165 (by decide) ?_
    refine jg_ldc2 (v := 1718773093) hC (n_a6 154 (by decide +kernel) (by decide +kernel)) dX12_init_167 ?_
    refine al_lW (i := 23) hC hh hI (by decide) rfl rfl dX12_init_170 (fun σ hI => ?_)
    refine jg_dup hC dX12_init_171 rfl ?_
    refine jg_bipush (v := 24) hC dX12_init_172 (by decide) ?_
    refine jg_ldc2 (v := 1734964837) hC (n_a6 155 (by decide +kernel) (by decide +kernel)) dX12_init_174 ?_
    refine al_lW (i := 24) hC hh hI (by decide) rfl rfl dX12_init_177 (fun σ hI => ?_)
    refine jg_dup hC dX12_init_178 rfl ?_
    refine jg_bipush (v := 25) hC dX12_init_179 (by decide) ?_
    refine jg_ldc2 (v := 1936027236) hC (n_a6 156 (by decide +kernel) (by decide +kernel)) dX12_init_181 ?_
    refine al_lW (i := 25) hC hh hI (by decide) rfl rfl dX12_init_184 (fun σ hI => ?_)
    refine jg_dup hC dX12_init_185 rfl ?_
    refine jg_bipush (v := 26) hC dX12_init_186 (by decide) ?_
    refine jg_ldc2 (v := 1919247222) hC (n_a6 157 (by decide +kernel) (by decide +kernel)) dX12_init_188 ?_
    refine al_lW (i := 26) hC hh hI (by decide) rfl rfl dX12_init_191 (fun σ hI => ?_)
    refine jg_dup hC dX12_init_192 rfl ?_
    refine jg_bipush (v := 27) hC dX12_init_193 (by decide) ?_
    refine jg_ldc2 (v := 2002872692) hC (n_a6 158 (by decide +kernel) (by decide +kernel)) dX12_init_195 ?_
    refine al_lW (i := 27) hC hh hI (by decide) rfl rfl dX12_init_198 (fun σ hI => ?_)
    refine jg_dup hC dX12_init_199 rfl ?_
    refine jg_bipush (v := 28) hC dX12_init_200 (by decide) ?_
    refine jg_ldc2 (v := 1802071148) hC (n_a6 159 (by decide +kernel) (by decide +kernel)) dX12_init_202 ?_
    refine al_lW (i := 28) hC hh hI (by decide) rfl rfl dX12_init_205 (fun σ hI => ?_)
    refine jg_dup hC dX12_init_206 rfl ?_
    refine jg_bipush (v := 29) hC dX12_init_207 (by decide) ?_
    refine jg_ldc2 (v := 1936026726) hC (n_a6 160 (by decide +kernel) (by decide +kernel)) dX12_init_209 ?_
    refine al_lW (i := 29) hC hh hI (by decide) rfl rfl dX12_init_212 (fun σ hI => ?_)
    refine jg_dup hC dX12_init_213 rfl ?_
    refine jg_bipush (v := 30) hC dX12_init_214 (by decide) ?_
    refine jg_ldc2 (v := 465558725996) hC (n_a6 161 (by decide +kernel) (by decide +kernel)) dX12_init_216 ?_
    refine al_lW (i := 30) hC hh hI (by decide) rfl rfl dX12_init_219 (fun σ hI => ?_)
    refine jg_dup hC dX12_init_220 rfl ?_
    refine jg_bipush (v := 31) hC dX12_init_221 (by decide) ?_
    refine jg_ldc2 (v := 521459297380) hC (n_a6 162 (by decide +kernel) (by decide +kernel)) dX12_init_223 ?_
    refine al_lW (i := 31) hC hh hI (by decide) rfl rfl dX12_init_226 (fun σ hI => ?_)
    refine jg_dup hC dX12_init_227 rfl ?_
    refine jg_bipush (v := 32) hC dX12_init_228 (by decide) ?_
    refine jg_ldc2 (v := 495739823472) hC (n_a6 163 (by decide +kernel) (by decide +kernel)) dX12_init_230 ?_
    refine al_lW (i := 32) hC hh hI (by decide) rfl rfl dX12_init_233 (fun σ hI => ?_)
    refine jg_dup hC dX12_init_234 rfl ?_
    refine jg_bipush (v := 33) hC dX12_init_235 (by decide) ?_
    refine jg_ldc2 (v := 1685026670) hC (n_a6 164 (by decide +kernel) (by decide +kernel)) dX12_init_237 ?_
    refine al_lW (i := 33) hC hh hI (by decide) rfl rfl dX12_init_240 (fun σ hI => ?_)
    refine jg_dup hC dX12_init_241 rfl ?_
    refine jg_bipush (v := 34) hC dX12_init_242 (by decide) ?_
    refine jg_ldc2 (v := 30064) hC (n_a6 165 (by decide +kernel) (by decide +kernel)) dX12_init_244 ?_
    refine al_lW (i := 34) hC hh hI (by decide) rfl rfl dX12_init_247 (fun σ hI => ?_)
    refine jg_dup hC dX12_init_248 rfl ?_
    refine jg_bipush (v := 35) hC dX12_init_249 (by decide) ?_
    refine jg_ldc2 (v := 1701669236) hC (n_a6 166 (by decide +kernel) (by decide +kernel)) dX12_init_251 ?_
    refine al_lW (i := 35) hC hh hI (by decide) rfl rfl dX12_init_254 (fun σ hI => ?_)
    refine jg_dup hC dX12_init_255 rfl ?_
    refine jg_bipush (v := 36) hC dX12_init_256 (by decide) ?_
    refine jg_ldc2 (v := 32199616316007801) hC (n_a6 167 (by decide +kernel) (by decide +kernel)) dX12_init_258 ?_
    refine al_lW (i := 36) hC hh hI (by decide) rfl rfl dX12_init_261 (fun σ hI => ?_)
    refine jg_dup hC dX12_init_262 rfl ?_
    refine jg_bipush (v := 37) hC dX12_init_263 (by decide) ?_
    refine jg_ldc2 (v := 1702390132) hC (n_a6 168 (by decide +kernel) (by decide +kernel)) dX12_init_265 ?_
    refine al_lW (i := 37) hC hh hI (by decide) rfl rfl dX12_init_268 (fun σ hI => ?_)
    refine jg_dup hC dX12_init_269 rfl ?_
    refine jg_bipush (v := 38) hC dX12_init_270 (by decide) ?_
    refine jg_ldc2 (v := 1786080624) hC (n_a6 169 (by decide +kernel) (by decide +kernel)) dX12_init_272 ?_
    refine al_lW (i := 38) hC hh hI (by decide) rfl rfl dX12_init_275 (fun σ hI => ?_)
    refine jg_dup hC dX12_init_276 rfl ?_
    refine jg_bipush (v := 39) hC dX12_init_277 (by decide) ?_
    refine jg_ldc2 (v := 2053468783) hC (n_a6 170 (by decide +kernel) (by decide +kernel)) dX12_init_279 ?_
    refine al_lW (i := 39) hC hh hI (by decide) rfl rfl dX12_init_282 (fun σ hI => ?_)
    refine jg_dup hC dX12_init_283 rfl ?_
    refine jg_bipush (v := 40) hC dX12_init_284 (by decide) ?_
    refine jg_ldc2 (v := 1667329132) hC (n_a6 171 (by decide +kernel) (by decide +kernel)) dX12_init_286 ?_
    refine al_lW (i := 40) hC hh hI (by decide) rfl rfl dX12_init_289 (fun σ hI => ?_)
    refine jg_dup hC dX12_init_290 rfl ?_
    refine jg_bipush (v := 41) hC dX12_init_291 (by decide) ?_
    refine jg_ldc2 (v := 495806674798) hC (n_a6 172 (by decide +kernel) (by decide +kernel)) dX12_init_293 ?_
    refine al_lW (i := 41) hC hh hI (by decide) rfl rfl dX12_init_296 (fun σ hI => ?_)
    refine al_PF (j := 0) (ty := .array .long) hC hin hh hI rfl (by decide) wfX12_97 (Nat.le_of_ble_eq_true rfl) rfl rfl (by decide +kernel) rfl rfl dX12_init_297 (fun σ hI => ?_)
    replace hI : a_I _ h0 z 1 _ σ (.inr (10, [.ref (z + 0), .null, .int 0, .null, .int 0, .int 0, .int 0, .null, .null, .null, .null, .null, .null, .null, .int 0, .null, .null, .int 0, .int 0, .null, .null, .null, .null, .null, .null, .null, .null, .null, .null, .null, .null, .null, .null, .null, .null, .null, .null, .null, .null, .int 0, .int 0, .null, .null, .null, .null, .null, .null, .null, .int 0, .null, .int 0, .int 0, .int 0])) := hI
    refine jg_aload_n hC dX12_init_300 rfl rfl ?_
    refine jg_bipush (v := 43) hC dX12_init_301 (by decide) ?_
    refine al_N1 (atype := .int) (t0 := 0) (N := 43) (ty := .int) hC hh hI ⟨by decide, by decide⟩ aM_n0 (fun _ => rfl) wa_int rfl (fun _ h => by cases h) rfl (by decide) (Nat.le_of_ble_eq_true rfl) (Nat.le_of_ble_eq_true rfl) dX12_init_303 (fun σ hI => ?_)
    refine jg_dup hC dX12_init_305 rfl ?_
    refine jg_iconst (v := 0) hC dX12_init_306 (by decide) ?_
    refine jg_iconst (v := 0) hC dX12_init_307 (by decide) ?_
    refine al_lN (i := 0) hC hh hI (by decide) rfl rfl dX12_init_308 (fun σ hI => ?_)
    refine jg_dup hC dX12_init_309 rfl ?_
    refine jg_iconst (v := 1) hC dX12_init_310 (by decide) ?_
    refine jg_iconst (v := 1) hC dX12_init_311 (by decide) ?_
    refine al_lN (i := 1) hC hh hI (by decide) rfl rfl dX12_init_312 (fun σ hI => ?_)
    refine jg_dup hC dX12_init_313 rfl ?_
    refine jg_iconst (v := 2) hC dX12_init_314 (by decide) ?_
    refine jg_iconst (v := 1) hC dX12_init_315 (by decide) ?_
    refine al_lN (i := 2) hC hh hI (by decide) rfl rfl dX12_init_316 (fun σ hI => ?_)
    refine jg_dup hC dX12_init_317 rfl ?_
    refine jg_iconst (v := 3) hC dX12_init_318 (by decide) ?_
    refine jg_iconst (v := 2) hC dX12_init_319 (by decide) ?_
    refine al_lN (i := 3) hC hh hI (by decide) rfl rfl dX12_init_320 (fun σ hI => ?_)
    refine jg_dup hC dX12_init_321 rfl ?_
    refine jg_iconst (v := 4) hC dX12_init_322 (by decide) ?_
    refine jg_iconst (v := 2) hC dX12_init_323 (by decide) ?_
    refine al_lN (i := 4) hC hh hI (by decide) rfl rfl dX12_init_324 (fun σ hI => ?_)
    refine jg_dup hC dX12_init_325 rfl ?_
    refine jg_iconst (v := 5) hC dX12_init_326 (by decide) ?_
    refine jg_iconst (v := 3) hC dX12_init_327 (by decide) ?_
    refine al_lN (i := 5) hC hh hI (by decide) rfl rfl dX12_init_328 (fun σ hI => ?_)
    refine jg_dup hC dX12_init_329 rfl ?_
    refine jg_bipush (v := 6) hC dX12_init_330 (by decide) ?_
    refine jg_iconst (v := 2) hC dX12_init_332 (by decide) ?_
    refine al_lN (i := 6) hC hh hI (by decide) rfl rfl dX12_init_333 (fun σ hI => ?_)
    refine jg_dup hC dX12_init_334 rfl ?_
    refine jg_bipush (v := 7) hC dX12_init_335 (by decide) ?_
    refine jg_iconst (v := 2) hC dX12_init_337 (by decide) ?_
    refine al_lN (i := 7) hC hh hI (by decide) rfl rfl dX12_init_338 (fun σ hI => ?_)
    refine jg_dup hC dX12_init_339 rfl ?_
    refine jg_bipush (v := 8) hC dX12_init_340 (by decide) ?_
    refine jg_iconst (v := 2) hC dX12_init_342 (by decide) ?_
    refine al_lN (i := 8) hC hh hI (by decide) rfl rfl dX12_init_343 (fun σ hI => ?_)
    refine jg_dup hC dX12_init_344 rfl ?_
    refine jg_bipush (v := 9) hC dX12_init_345 (by decide) ?_
    refine jg_iconst (v := 2) hC dX12_init_347 (by decide) ?_
    refine al_lN (i := 9) hC hh hI (by decide) rfl rfl dX12_init_348 (fun σ hI => ?_)
    refine jg_dup hC dX12_init_349 rfl ?_
    refine jg_bipush (v := 10) hC dX12_init_350 (by decide) ?_
    refine jg_iconst (v := 2) hC dX12_init_352 (by decide) ?_
    refine al_lN (i := 10) hC hh hI (by decide) rfl rfl dX12_init_353 (fun σ hI => ?_)
    refine jg_dup hC dX12_init_354 rfl ?_
    refine jg_bipush (v := 11) hC dX12_init_355 (by decide) ?_
    refine jg_iconst (v := 2) hC dX12_init_357 (by decide) ?_
    refine al_lN (i := 11) hC hh hI (by decide) rfl rfl dX12_init_358 (fun σ hI => ?_)
    refine jg_dup hC dX12_init_359 rfl ?_
    refine jg_bipush (v := 12) hC dX12_init_360 (by decide) ?_
    refine jg_iconst (v := 2) hC dX12_init_362 (by decide) ?_
    refine al_lN (i := 12) hC hh hI (by decide) rfl rfl dX12_init_363 (fun σ hI => ?_)
    refine jg_dup hC dX12_init_364 rfl ?_
    refine jg_bipush (v := 13) hC dX12_init_365 (by decide) ?_
    refine jg_iconst (v := 2) hC dX12_init_367 (by decide) ?_
    refine al_lN (i := 13) hC hh hI (by decide) rfl rfl dX12_init_368 (fun σ hI => ?_)
    refine jg_dup hC dX12_init_369 rfl ?_
    refine jg_bipush (v := 14) hC dX12_init_370 (by decide) ?_
    refine jg_iconst (v := 1) hC dX12_init_372 (by decide) ?_
    refine al_lN (i := 14) hC hh hI (by decide) rfl rfl dX12_init_373 (fun σ hI => ?_)
    refine jg_dup hC dX12_init_374 rfl ?_
    refine jg_bipush (v := 15) hC dX12_init_375 (by decide) ?_
    refine jg_iconst (v := 2) hC dX12_init_377 (by decide) ?_
    refine al_lN (i := 15) hC hh hI (by decide) rfl rfl dX12_init_378 (fun σ hI => ?_)
    refine jg_dup hC dX12_init_379 rfl ?_
    refine jg_bipush (v := 16) hC dX12_init_380 (by decide) ?_
    refine jg_iconst (v := 2) hC dX12_init_382 (by decide) ?_
    refine al_lN (i := 16) hC hh hI (by decide) rfl rfl dX12_init_383 (fun σ hI => ?_)
    refine jg_dup hC dX12_init_384 rfl ?_
    refine jg_bipush (v := 17) hC dX12_init_385 (by decide) ?_
    refine jg_iconst (v := 2) hC dX12_init_387 (by decide) ?_
    refine al_lN (i := 17) hC hh hI (by decide) rfl rfl dX12_init_388 (fun σ hI => ?_)
    refine jg_dup hC dX12_init_389 rfl ?_
    refine jg_bipush (v := 18) hC dX12_init_390 (by decide) ?_
    refine jg_iconst (v := 2) hC dX12_init_392 (by decide) ?_
    refine al_lN (i := 18) hC hh hI (by decide) rfl rfl dX12_init_393 (fun σ hI => ?_)
    refine jg_dup hC dX12_init_394 rfl ?_
    refine jg_bipush (v := 19) hC dX12_init_395 (by decide) ?_
    refine jg_iconst (v := 2) hC dX12_init_397 (by decide) ?_
    refine al_lN (i := 19) hC hh hI (by decide) rfl rfl dX12_init_398 (fun σ hI => ?_)
    refine jg_dup hC dX12_init_399 rfl ?_
    refine jg_bipush (v := 20) hC dX12_init_400 (by decide) ?_
    refine jg_iconst (v := 1) hC dX12_init_402 (by decide) ?_
    refine al_lN (i := 20) hC hh hI (by decide) rfl rfl dX12_init_403 (fun σ hI => ?_)
    refine jg_dup hC dX12_init_404 rfl ?_
    refine jg_bipush (v := 21) hC dX12_init_405 (by decide) ?_
    refine jg_iconst (v := 2) hC dX12_init_407 (by decide) ?_
    refine al_lN (i := 21) hC hh hI (by decide) rfl rfl dX12_init_408 (fun σ hI => ?_)
    refine jg_dup hC dX12_init_409 rfl ?_
    refine jg_bipush (v := 22) hC dX12_init_410 (by decide) ?_
    refine jg_iconst (v := 0) hC dX12_init_412 (by decide) ?_
    refine al_lN (i := 22) hC hh hI (by decide) rfl rfl dX12_init_413 (fun σ hI => ?_)
    refine jg_dup hC dX12_init_414 rfl ?_
    refine jg_bipush (v := 23) hC dX12_init_415 (by decide) ?_
    refine jg_iconst (v := 1) hC dX12_init_417 (by decide) ?_
    refine al_lN (i := 23) hC hh hI (by decide) rfl rfl dX12_init_418 (fun σ hI => ?_)
    refine jg_dup hC dX12_init_419 rfl ?_
    refine jg_bipush (v := 24) hC dX12_init_420 (by decide) ?_
    refine jg_iconst (v := 1) hC dX12_init_422 (by decide) ?_
    refine al_lN (i := 24) hC hh hI (by decide) rfl rfl dX12_init_423 (fun σ hI => ?_)
    refine jg_dup hC dX12_init_424 rfl ?_
    refine jg_bipush (v := 25) hC dX12_init_425 (by decide) ?_
    refine jg_iconst (v := 2) hC dX12_init_427 (by decide) ?_
    refine al_lN (i := 25) hC hh hI (by decide) rfl rfl dX12_init_428 (fun σ hI => ?_)
    refine jg_dup hC dX12_init_429 rfl ?_
    refine jg_bipush (v := 26) hC dX12_init_430 (by decide) ?_
    refine jg_iconst (v := 2) hC dX12_init_432 (by decide) ?_
    refine al_lN (i := 26) hC hh hI (by decide) rfl rfl dX12_init_433 (fun σ hI => ?_)
    refine jg_dup hC dX12_init_434 rfl ?_
    refine jg_bipush (v := 27) hC dX12_init_435 (by decide) ?_
    refine jg_iconst (v := 0) hC dX12_init_437 (by decide) ?_
    refine al_lN (i := 27) hC hh hI (by decide) rfl rfl dX12_init_438 (fun σ hI => ?_)
    refine jg_dup hC dX12_init_439 rfl ?_
    refine jg_bipush (v := 28) hC dX12_init_440 (by decide) ?_
    refine jg_iconst (v := 1) hC dX12_init_442 (by decide) ?_
    refine al_lN (i := 28) hC hh hI (by decide) rfl rfl dX12_init_443 (fun σ hI => ?_)
    refine jg_dup hC dX12_init_444 rfl ?_
    refine jg_bipush (v := 29) hC dX12_init_445 (by decide) ?_
    refine jg_iconst (v := 1) hC dX12_init_447 (by decide) ?_
    refine al_lN (i := 29) hC hh hI (by decide) rfl rfl dX12_init_448 (fun σ hI => ?_)
    refine jg_dup hC dX12_init_449 rfl ?_
    refine jg_bipush (v := 30) hC dX12_init_450 (by decide) ?_
    refine jg_iconst (v := 0) hC dX12_init_452 (by decide) ?_
    refine al_lN (i := 30) hC hh hI (by decide) rfl rfl dX12_init_453 (fun σ hI => ?_)
    refine jg_dup hC dX12_init_454 rfl ?_
    refine jg_bipush (v := 31) hC dX12_init_455 (by decide) ?_
    refine jg_iconst (v := 1) hC dX12_init_457 (by decide) ?_
    refine al_lN (i := 31) hC hh hI (by decide) rfl rfl dX12_init_458 (fun σ hI => ?_)
    refine jg_dup hC dX12_init_459 rfl ?_
    refine jg_bipush (v := 32) hC dX12_init_460 (by decide) ?_
    refine jg_iconst (v := 0) hC dX12_init_462 (by decide) ?_
    refine al_lN (i := 32) hC hh hI (by decide) rfl rfl dX12_init_463 (fun σ hI => ?_)
    refine jg_dup hC dX12_init_464 rfl ?_
    refine jg_bipush (v := 33) hC dX12_init_465 (by decide) ?_
    refine jg_iconst (v := 1) hC dX12_init_467 (by decide) ?_
    refine al_lN (i := 33) hC hh hI (by decide) rfl rfl dX12_init_468 (fun σ hI => ?_)
    refine jg_dup hC dX12_init_469 rfl ?_
    refine jg_bipush (v := 34) hC dX12_init_470 (by decide) ?_
    refine jg_iconst (v := 1) hC dX12_init_472 (by decide) ?_
    refine al_lN (i := 34) hC hh hI (by decide) rfl rfl dX12_init_473 (fun σ hI => ?_)
    refine jg_dup hC dX12_init_474 rfl ?_
    refine jg_bipush (v := 35) hC dX12_init_475 (by decide) ?_
    refine jg_iconst (v := 1) hC dX12_init_477 (by decide) ?_
    refine al_lN (i := 35) hC hh hI (by decide) rfl rfl dX12_init_478 (fun σ hI => ?_)
    refine jg_dup hC dX12_init_479 rfl ?_
    refine jg_bipush (v := 36) hC dX12_init_480 (by decide) ?_
    refine jg_iconst (v := 1) hC dX12_init_482 (by decide) ?_
    refine al_lN (i := 36) hC hh hI (by decide) rfl rfl dX12_init_483 (fun σ hI => ?_)
    refine jg_dup hC dX12_init_484 rfl ?_
    refine jg_bipush (v := 37) hC dX12_init_485 (by decide) ?_
    refine jg_iconst (v := 0) hC dX12_init_487 (by decide) ?_
    refine al_lN (i := 37) hC hh hI (by decide) rfl rfl dX12_init_488 (fun σ hI => ?_)
    refine jg_dup hC dX12_init_489 rfl ?_
    refine jg_bipush (v := 38) hC dX12_init_490 (by decide) ?_
    refine jg_iconst (v := 1) hC dX12_init_492 (by decide) ?_
    refine al_lN (i := 38) hC hh hI (by decide) rfl rfl dX12_init_493 (fun σ hI => ?_)
    refine jg_dup hC dX12_init_494 rfl ?_
    refine jg_bipush (v := 39) hC dX12_init_495 (by decide) ?_
    refine jg_iconst (v := 0) hC dX12_init_497 (by decide) ?_
    refine al_lN (i := 39) hC hh hI (by decide) rfl rfl dX12_init_498 (fun σ hI => ?_)
    refine jg_dup hC dX12_init_499 rfl ?_
    refine jg_bipush (v := 40) hC dX12_init_500 (by decide) ?_
    refine jg_iconst (v := 1) hC dX12_init_502 (by decide) ?_
    refine al_lN (i := 40) hC hh hI (by decide) rfl rfl dX12_init_503 (fun σ hI => ?_)
    refine jg_dup hC dX12_init_504 rfl ?_
    refine jg_bipush (v := 41) hC dX12_init_505 (by decide) ?_
    refine jg_iconst (v := 0) hC dX12_init_507 (by decide) ?_
    refine al_lN (i := 41) hC hh hI (by decide) rfl rfl dX12_init_508 (fun σ hI => ?_)
    refine jg_dup hC dX12_init_509 rfl ?_
    refine jg_bipush (v := 42) hC dX12_init_510 (by decide) ?_
    refine jg_iconst (v := 0) hC dX12_init_512 (by decide) ?_
    refine al_lN (i := 42) hC hh hI (by decide) rfl rfl dX12_init_513 (fun σ hI => ?_)
    refine al_PF (j := 1) (ty := .array .int) hC hin hh hI rfl (by decide) wfX12_101 (Nat.le_of_ble_eq_true rfl) rfl rfl (by decide +kernel) rfl rfl dX12_init_514 (fun σ hI => ?_)
    replace hI : a_I _ h0 z 2 _ σ (.inr (10, [.ref (z + 0), .ref (z + 1), .int 0, .null, .int 0, .int 0, .int 0, .null, .null, .null, .null, .null, .null, .null, .int 0, .null, .null, .int 0, .int 0, .null, .null, .null, .null, .null, .null, .null, .null, .null, .null, .null, .null, .null, .null, .null, .null, .null, .null, .null, .null, .int 0, .int 0, .null, .null, .null, .null, .null, .null, .null, .int 0, .null, .int 0, .int 0, .int 0])) := hI
    refine jg_aload_n hC dX12_init_517 rfl rfl ?_
    refine jg_sipush (v := 8192) hC dX12_init_518 (by decide) ?_
    refine al_NA (atype := .byte) (t0 := 1) (N := 8192) (j := 3) (ty := .byte) (ty2 := .array .byte) hC hin hh hI ⟨by decide, by decide⟩ rfl (fun _ => rfl) wa_byte rfl (fun _ h => by cases h) rfl (by decide) (Nat.le_of_ble_eq_true rfl) (Nat.le_of_ble_eq_true rfl) dX12_init_521 rfl (by decide) wfX12_105 (Nat.le_of_ble_eq_true rfl) rfl rfl (by decide +kernel) rfl rfl dX12_init_523 (fun σ hI => ?_)
    replace hI : a_I _ h0 z 3 _ σ (.inr (10, [.ref (z + 0), .ref (z + 1), .int 0, .ref (z + 2), .int 0, .int 0, .int 0, .null, .null, .null, .null, .null, .null, .null, .int 0, .null, .null, .int 0, .int 0, .null, .null, .null, .null, .null, .null, .null, .null, .null, .null, .null, .null, .null, .null, .null, .null, .null, .null, .null, .null, .int 0, .int 0, .null, .null, .null, .null, .null, .null, .null, .int 0, .null, .int 0, .int 0, .int 0])) := hI
    refine jg_aload_n hC dX12_init_526 rfl rfl ?_
    refine jg_sipush (v := 3328) hC dX12_init_527 (by decide) ?_
    refine al_NA (atype := .int) (t0 := 0) (N := 3328) (j := 7) (ty := .int) (ty2 := .array .int) hC hin hh hI ⟨by decide, by decide⟩ rfl (fun _ => rfl) wa_int rfl (fun _ h => by cases h) rfl (by decide) (Nat.le_of_ble_eq_true rfl) (Nat.le_of_ble_eq_true rfl) dX12_init_530 rfl (by decide) wfX12_109 (Nat.le_of_ble_eq_true rfl) rfl rfl (by decide +kernel) rfl rfl dX12_init_532 (fun σ hI => ?_)
    replace hI : a_I _ h0 z 4 _ σ (.inr (10, [.ref (z + 0), .ref (z + 1), .int 0, .ref (z + 2), .int 0, .int 0, .int 0, .ref (z + 3), .null, .null, .null, .null, .null, .null, .int 0, .null, .null, .int 0, .int 0, .null, .null, .null, .null, .null, .null, .null, .null, .null, .null, .null, .null, .null, .null, .null, .null, .null, .null, .null, .null, .int 0, .int 0, .null, .null, .null, .null, .null, .null, .null, .int 0, .null, .int 0, .int 0, .int 0])) := hI
    refine jg_aload_n hC dX12_init_535 rfl rfl ?_
    refine jg_sipush (v := 3328) hC dX12_init_536 (by decide) ?_
    refine al_NA (atype := .int) (t0 := 0) (N := 3328) (j := 8) (ty := .int) (ty2 := .array .int) hC hin hh hI ⟨by decide, by decide⟩ rfl (fun _ => rfl) wa_int rfl (fun _ h => by cases h) rfl (by decide) (Nat.le_of_ble_eq_true rfl) (Nat.le_of_ble_eq_true rfl) dX12_init_539 rfl (by decide) wfX12_112 (Nat.le_of_ble_eq_true rfl) rfl rfl (by decide +kernel) rfl rfl dX12_init_541 (fun σ hI => ?_)
    replace hI : a_I _ h0 z 5 _ σ (.inr (10, [.ref (z + 0), .ref (z + 1), .int 0, .ref (z + 2), .int 0, .int 0, .int 0, .ref (z + 3), .ref (z + 4), .null, .null, .null, .null, .null, .int 0, .null, .null, .int 0, .int 0, .null, .null, .null, .null, .null, .null, .null, .null, .null, .null, .null, .null, .null, .null, .null, .null, .null, .null, .null, .null, .int 0, .int 0, .null, .null, .null, .null, .null, .null, .null, .int 0, .null, .int 0, .int 0, .int 0])) := hI
    refine jg_aload_n hC dX12_init_544 rfl rfl ?_
    refine jg_bipush (v := 13) hC dX12_init_545 (by decide) ?_
    refine al_NA (atype := .int) (t0 := 0) (N := 13) (j := 9) (ty := .int) (ty2 := .array .int) hC hin hh hI ⟨by decide, by decide⟩ rfl (fun _ => rfl) wa_int rfl (fun _ h => by cases h) rfl (by decide) (Nat.le_of_ble_eq_true rfl) (Nat.le_of_ble_eq_true rfl) dX12_init_547 rfl (by decide) wfX12_115 (Nat.le_of_ble_eq_true rfl) rfl rfl (by decide +kernel) rfl rfl dX12_init_549 (fun σ hI => ?_)
    replace hI : a_I _ h0 z 6 _ σ (.inr (10, [.ref (z + 0), .ref (z + 1), .int 0, .ref (z + 2), .int 0, .int 0, .int 0, .ref (z + 3), .ref (z + 4), .ref (z + 5), .null, .null, .null, .null, .int 0, .null, .null, .int 0, .int 0, .null, .null, .null, .null, .null, .null, .null, .null, .null, .null, .null, .null, .null, .null, .null, .null, .null, .null, .null, .null, .int 0, .int 0, .null, .null, .null, .null, .null, .null, .null, .int 0, .null, .int 0, .int 0, .int 0])) := hI
    refine jg_aload_n hC dX12_init_552 rfl rfl ?_
    refine jg_bipush (v := 13) hC dX12_init_553 (by decide) ?_
    refine al_NA (atype := .boolean) (t0 := 3) (N := 13) (j := 10) (ty := .boolean) (ty2 := .array .boolean) hC hin hh hI ⟨by decide, by decide⟩ rfl (fun _ => rfl) wa_boolean rfl (fun _ h => by cases h) rfl (by decide) (Nat.le_of_ble_eq_true rfl) (Nat.le_of_ble_eq_true rfl) dX12_init_555 rfl (by decide) wfX12_118 (Nat.le_of_ble_eq_true rfl) rfl rfl (by decide +kernel) rfl rfl dX12_init_557 (fun σ hI => ?_)
    replace hI : a_I _ h0 z 7 _ σ (.inr (10, [.ref (z + 0), .ref (z + 1), .int 0, .ref (z + 2), .int 0, .int 0, .int 0, .ref (z + 3), .ref (z + 4), .ref (z + 5), .ref (z + 6), .null, .null, .null, .int 0, .null, .null, .int 0, .int 0, .null, .null, .null, .null, .null, .null, .null, .null, .null, .null, .null, .null, .null, .null, .null, .null, .null, .null, .null, .null, .int 0, .int 0, .null, .null, .null, .null, .null, .null, .null, .int 0, .null, .int 0, .int 0, .int 0])) := hI
    refine jg_aload_n hC dX12_init_560 rfl rfl ?_
    refine jg_bipush (v := 32) hC dX12_init_561 (by decide) ?_
    refine al_NA (atype := .int) (t0 := 0) (N := 32) (j := 11) (ty := .int) (ty2 := .array .int) hC hin hh hI ⟨by decide, by decide⟩ rfl (fun _ => rfl) wa_int rfl (fun _ h => by cases h) rfl (by decide) (Nat.le_of_ble_eq_true rfl) (Nat.le_of_ble_eq_true rfl) dX12_init_563 rfl (by decide) wfX12_122 (Nat.le_of_ble_eq_true rfl) rfl rfl (by decide +kernel) rfl rfl dX12_init_565 (fun σ hI => ?_)
    replace hI : a_I _ h0 z 8 _ σ (.inr (10, [.ref (z + 0), .ref (z + 1), .int 0, .ref (z + 2), .int 0, .int 0, .int 0, .ref (z + 3), .ref (z + 4), .ref (z + 5), .ref (z + 6), .ref (z + 7), .null, .null, .int 0, .null, .null, .int 0, .int 0, .null, .null, .null, .null, .null, .null, .null, .null, .null, .null, .null, .null, .null, .null, .null, .null, .null, .null, .null, .null, .int 0, .int 0, .null, .null, .null, .null, .null, .null, .null, .int 0, .null, .int 0, .int 0, .int 0])) := hI
    refine jg_aload_n hC dX12_init_568 rfl rfl ?_
    refine jg_bipush (v := 32) hC dX12_init_569 (by decide) ?_
    refine al_NA (atype := .int) (t0 := 0) (N := 32) (j := 12) (ty := .int) (ty2 := .array .int) hC hin hh hI ⟨by decide, by decide⟩ rfl (fun _ => rfl) wa_int rfl (fun _ h => by cases h) rfl (by decide) (Nat.le_of_ble_eq_true rfl) (Nat.le_of_ble_eq_true rfl) dX12_init_571 rfl (by decide) wfX12_125 (Nat.le_of_ble_eq_true rfl) rfl rfl (by decide +kernel) rfl rfl dX12_init_573 (fun σ hI => ?_)
    replace hI : a_I _ h0 z 9 _ σ (.inr (10, [.ref (z + 0), .ref (z + 1), .int 0, .ref (z + 2), .int 0, .int 0, .int 0, .ref (z + 3), .ref (z + 4), .ref (z + 5), .ref (z + 6), .ref (z + 7), .ref (z + 8), .null, .int 0, .null, .null, .int 0, .int 0, .null, .null, .null, .null, .null, .null, .null, .null, .null, .null, .null, .null, .null, .null, .null, .null, .null, .null, .null, .null, .int 0, .int 0, .null, .null, .null, .null, .null, .null, .null, .int 0, .null, .int 0, .int 0, .int 0])) := hI
    refine jg_aload_n hC dX12_init_576 rfl rfl ?_
    refine jg_bipush (v := 32) hC dX12_init_577 (by decide) ?_
    refine al_NA (atype := .int) (t0 := 0) (N := 32) (j := 13) (ty := .int) (ty2 := .array .int) hC hin hh hI ⟨by decide, by decide⟩ rfl (fun _ => rfl) wa_int rfl (fun _ h => by cases h) rfl (by decide) (Nat.le_of_ble_eq_true rfl) (Nat.le_of_ble_eq_true rfl) dX12_init_579 rfl (by decide) wfX12_128 (Nat.le_of_ble_eq_true rfl) rfl rfl (by decide +kernel) rfl rfl dX12_init_581 (fun σ hI => ?_)
    replace hI : a_I _ h0 z 10 _ σ (.inr (10, [.ref (z + 0), .ref (z + 1), .int 0, .ref (z + 2), .int 0, .int 0, .int 0, .ref (z + 3), .ref (z + 4), .ref (z + 5), .ref (z + 6), .ref (z + 7), .ref (z + 8), .ref (z + 9), .int 0, .null, .null, .int 0, .int 0, .null, .null, .null, .null, .null, .null, .null, .null, .null, .null, .null, .null, .null, .null, .null, .null, .null, .null, .null, .null, .int 0, .int 0, .null, .null, .null, .null, .null, .null, .null, .int 0, .null, .int 0, .int 0, .int 0])) := hI
    refine jg_aload_n hC dX12_init_584 rfl rfl ?_
    refine jg_sipush (v := 256) hC dX12_init_585 (by decide) ?_
    refine al_NA (atype := .int) (t0 := 0) (N := 256) (j := 15) (ty := .int) (ty2 := .array .int) hC hin hh hI ⟨by decide, by decide⟩ rfl (fun _ => rfl) wa_int rfl (fun _ h => by cases h) rfl (by decide) (Nat.le_of_ble_eq_true rfl) (Nat.le_of_ble_eq_true rfl) dX12_init_588 rfl (by decide) wfX12_131 (Nat.le_of_ble_eq_true rfl) rfl rfl (by decide +kernel) rfl rfl dX12_init_590 (fun σ hI => ?_)
    replace hI : a_I _ h0 z 11 _ σ (.inr (10, [.ref (z + 0), .ref (z + 1), .int 0, .ref (z + 2), .int 0, .int 0, .int 0, .ref (z + 3), .ref (z + 4), .ref (z + 5), .ref (z + 6), .ref (z + 7), .ref (z + 8), .ref (z + 9), .int 0, .ref (z + 10), .null, .int 0, .int 0, .null, .null, .null, .null, .null, .null, .null, .null, .null, .null, .null, .null, .null, .null, .null, .null, .null, .null, .null, .null, .int 0, .int 0, .null, .null, .null, .null, .null, .null, .null, .int 0, .null, .int 0, .int 0, .int 0])) := hI
    refine jg_aload_n hC dX12_init_593 rfl rfl ?_
    refine jg_sipush (v := 256) hC dX12_init_594 (by decide) ?_
    refine al_NA (atype := .int) (t0 := 0) (N := 256) (j := 16) (ty := .int) (ty2 := .array .int) hC hin hh hI ⟨by decide, by decide⟩ rfl (fun _ => rfl) wa_int rfl (fun _ h => by cases h) rfl (by decide) (Nat.le_of_ble_eq_true rfl) (Nat.le_of_ble_eq_true rfl) dX12_init_597 rfl (by decide) wfX12_134 (Nat.le_of_ble_eq_true rfl) rfl rfl (by decide +kernel) rfl rfl dX12_init_599 (fun σ hI => ?_)
    replace hI : a_I _ h0 z 12 _ σ (.inr (10, [.ref (z + 0), .ref (z + 1), .int 0, .ref (z + 2), .int 0, .int 0, .int 0, .ref (z + 3), .ref (z + 4), .ref (z + 5), .ref (z + 6), .ref (z + 7), .ref (z + 8), .ref (z + 9), .int 0, .ref (z + 10), .ref (z + 11), .int 0, .int 0, .null, .null, .null, .null, .null, .null, .null, .null, .null, .null, .null, .null, .null, .null, .null, .null, .null, .null, .null, .null, .int 0, .int 0, .null, .null, .null, .null, .null, .null, .null, .int 0, .null, .int 0, .int 0, .int 0])) := hI
    refine jg_aload_n hC dX12_init_602 rfl rfl ?_
    refine jg_bipush (v := 13) hC dX12_init_603 (by decide) ?_
    refine al_NA (atype := .int) (t0 := 0) (N := 13) (j := 19) (ty := .int) (ty2 := .array .int) hC hin hh hI ⟨by decide, by decide⟩ rfl (fun _ => rfl) wa_int rfl (fun _ h => by cases h) rfl (by decide) (Nat.le_of_ble_eq_true rfl) (Nat.le_of_ble_eq_true rfl) dX12_init_605 rfl (by decide) wfX12_137 (Nat.le_of_ble_eq_true rfl) rfl rfl (by decide +kernel) rfl rfl dX12_init_607 (fun σ hI => ?_)
    replace hI : a_I _ h0 z 13 _ σ (.inr (10, [.ref (z + 0), .ref (z + 1), .int 0, .ref (z + 2), .int 0, .int 0, .int 0, .ref (z + 3), .ref (z + 4), .ref (z + 5), .ref (z + 6), .ref (z + 7), .ref (z + 8), .ref (z + 9), .int 0, .ref (z + 10), .ref (z + 11), .int 0, .int 0, .ref (z + 12), .null, .null, .null, .null, .null, .null, .null, .null, .null, .null, .null, .null, .null, .null, .null, .null, .null, .null, .null, .int 0, .int 0, .null, .null, .null, .null, .null, .null, .null, .int 0, .null, .int 0, .int 0, .int 0])) := hI
    refine jg_aload_n hC dX12_init_610 rfl rfl ?_
    refine jg_bipush (v := 13) hC dX12_init_611 (by decide) ?_
    refine al_NA (atype := .int) (t0 := 0) (N := 13) (j := 20) (ty := .int) (ty2 := .array .int) hC hin hh hI ⟨by decide, by decide⟩ rfl (fun _ => rfl) wa_int rfl (fun _ h => by cases h) rfl (by decide) (Nat.le_of_ble_eq_true rfl) (Nat.le_of_ble_eq_true rfl) dX12_init_613 rfl (by decide) wfX12_140 (Nat.le_of_ble_eq_true rfl) rfl rfl (by decide +kernel) rfl rfl dX12_init_615 (fun σ hI => ?_)
    replace hI : a_I _ h0 z 14 _ σ (.inr (10, [.ref (z + 0), .ref (z + 1), .int 0, .ref (z + 2), .int 0, .int 0, .int 0, .ref (z + 3), .ref (z + 4), .ref (z + 5), .ref (z + 6), .ref (z + 7), .ref (z + 8), .ref (z + 9), .int 0, .ref (z + 10), .ref (z + 11), .int 0, .int 0, .ref (z + 12), .ref (z + 13), .null, .null, .null, .null, .null, .null, .null, .null, .null, .null, .null, .null, .null, .null, .null, .null, .null, .null, .int 0, .int 0, .null, .null, .null, .null, .null, .null, .null, .int 0, .null, .int 0, .int 0, .int 0])) := hI
    refine jg_aload_n hC dX12_init_618 rfl rfl ?_
    refine jg_bipush (v := 13) hC dX12_init_619 (by decide) ?_
    refine al_NA (atype := .int) (t0 := 0) (N := 13) (j := 21) (ty := .int) (ty2 := .array .int) hC hin hh hI ⟨by decide, by decide⟩ rfl (fun _ => rfl) wa_int rfl (fun _ h => by cases h) rfl (by decide) (Nat.le_of_ble_eq_true rfl) (Nat.le_of_ble_eq_true rfl) dX12_init_621 rfl (by decide) wfX12_143 (Nat.le_of_ble_eq_true rfl) rfl rfl (by decide +kernel) rfl rfl dX12_init_623 (fun σ hI => ?_)
    replace hI : a_I _ h0 z 15 _ σ (.inr (10, [.ref (z + 0), .ref (z + 1), .int 0, .ref (z + 2), .int 0, .int 0, .int 0, .ref (z + 3), .ref (z + 4), .ref (z + 5), .ref (z + 6), .ref (z + 7), .ref (z + 8), .ref (z + 9), .int 0, .ref (z + 10), .ref (z + 11), .int 0, .int 0, .ref (z + 12), .ref (z + 13), .ref (z + 14), .null, .null, .null, .null, .null, .null, .null, .null, .null, .null, .null, .null, .null, .null, .null, .null, .null, .int 0, .int 0, .null, .null, .null, .null, .null, .null, .null, .int 0, .null, .int 0, .int 0, .int 0])) := hI
    refine jg_aload_n hC dX12_init_626 rfl rfl ?_
    refine jg_bipush (v := 13) hC dX12_init_627 (by decide) ?_
    refine al_NA (atype := .int) (t0 := 0) (N := 13) (j := 22) (ty := .int) (ty2 := .array .int) hC hin hh hI ⟨by decide, by decide⟩ rfl (fun _ => rfl) wa_int rfl (fun _ h => by cases h) rfl (by decide) (Nat.le_of_ble_eq_true rfl) (Nat.le_of_ble_eq_true rfl) dX12_init_629 rfl (by decide) wfX12_146 (Nat.le_of_ble_eq_true rfl) rfl rfl (by decide +kernel) rfl rfl dX12_init_631 (fun σ hI => ?_)
    replace hI : a_I _ h0 z 16 _ σ (.inr (10, [.ref (z + 0), .ref (z + 1), .int 0, .ref (z + 2), .int 0, .int 0, .int 0, .ref (z + 3), .ref (z + 4), .ref (z + 5), .ref (z + 6), .ref (z + 7), .ref (z + 8), .ref (z + 9), .int 0, .ref (z + 10), .ref (z + 11), .int 0, .int 0, .ref (z + 12), .ref (z + 13), .ref (z + 14), .ref (z + 15), .null, .null, .null, .null, .null, .null, .null, .null, .null, .null, .null, .null, .null, .null, .null, .null, .int 0, .int 0, .null, .null, .null, .null, .null, .null, .null, .int 0, .null, .int 0, .int 0, .int 0])) := hI
    refine jg_aload_n hC dX12_init_634 rfl rfl ?_
    refine jg_bipush (v := 13) hC dX12_init_635 (by decide) ?_
    refine al_NA (atype := .int) (t0 := 0) (N := 13) (j := 23) (ty := .int) (ty2 := .array .int) hC hin hh hI ⟨by decide, by decide⟩ rfl (fun _ => rfl) wa_int rfl (fun _ h => by cases h) rfl (by decide) (Nat.le_of_ble_eq_true rfl) (Nat.le_of_ble_eq_true rfl) dX12_init_637 rfl (by decide) wfX12_149 (Nat.le_of_ble_eq_true rfl) rfl rfl (by decide +kernel) rfl rfl dX12_init_639 (fun σ hI => ?_)
    replace hI : a_I _ h0 z 17 _ σ (.inr (10, [.ref (z + 0), .ref (z + 1), .int 0, .ref (z + 2), .int 0, .int 0, .int 0, .ref (z + 3), .ref (z + 4), .ref (z + 5), .ref (z + 6), .ref (z + 7), .ref (z + 8), .ref (z + 9), .int 0, .ref (z + 10), .ref (z + 11), .int 0, .int 0, .ref (z + 12), .ref (z + 13), .ref (z + 14), .ref (z + 15), .ref (z + 16), .null, .null, .null, .null, .null, .null, .null, .null, .null, .null, .null, .null, .null, .null, .null, .int 0, .int 0, .null, .null, .null, .null, .null, .null, .null, .int 0, .null, .int 0, .int 0, .int 0])) := hI
    refine jg_aload_n hC dX12_init_642 rfl rfl ?_
    refine jg_bipush (v := 13) hC dX12_init_643 (by decide) ?_
    refine al_NA (atype := .int) (t0 := 0) (N := 13) (j := 24) (ty := .int) (ty2 := .array .int) hC hin hh hI ⟨by decide, by decide⟩ rfl (fun _ => rfl) wa_int rfl (fun _ h => by cases h) rfl (by decide) (Nat.le_of_ble_eq_true rfl) (Nat.le_of_ble_eq_true rfl) dX12_init_645 rfl (by decide) wfX12_152 (Nat.le_of_ble_eq_true rfl) rfl rfl (by decide +kernel) rfl rfl dX12_init_647 (fun σ hI => ?_)
    replace hI : a_I _ h0 z 18 _ σ (.inr (10, [.ref (z + 0), .ref (z + 1), .int 0, .ref (z + 2), .int 0, .int 0, .int 0, .ref (z + 3), .ref (z + 4), .ref (z + 5), .ref (z + 6), .ref (z + 7), .ref (z + 8), .ref (z + 9), .int 0, .ref (z + 10), .ref (z + 11), .int 0, .int 0, .ref (z + 12), .ref (z + 13), .ref (z + 14), .ref (z + 15), .ref (z + 16), .ref (z + 17), .null, .null, .null, .null, .null, .null, .null, .null, .null, .null, .null, .null, .null, .null, .int 0, .int 0, .null, .null, .null, .null, .null, .null, .null, .int 0, .null, .int 0, .int 0, .int 0])) := hI
    refine jg_aload_n hC dX12_init_650 rfl rfl ?_
    refine jg_bipush (v := 13) hC dX12_init_651 (by decide) ?_
    refine al_NA (atype := .int) (t0 := 0) (N := 13) (j := 25) (ty := .int) (ty2 := .array .int) hC hin hh hI ⟨by decide, by decide⟩ rfl (fun _ => rfl) wa_int rfl (fun _ h => by cases h) rfl (by decide) (Nat.le_of_ble_eq_true rfl) (Nat.le_of_ble_eq_true rfl) dX12_init_653 rfl (by decide) wfX12_155 (Nat.le_of_ble_eq_true rfl) rfl rfl (by decide +kernel) rfl rfl dX12_init_655 (fun σ hI => ?_)
    replace hI : a_I _ h0 z 19 _ σ (.inr (10, [.ref (z + 0), .ref (z + 1), .int 0, .ref (z + 2), .int 0, .int 0, .int 0, .ref (z + 3), .ref (z + 4), .ref (z + 5), .ref (z + 6), .ref (z + 7), .ref (z + 8), .ref (z + 9), .int 0, .ref (z + 10), .ref (z + 11), .int 0, .int 0, .ref (z + 12), .ref (z + 13), .ref (z + 14), .ref (z + 15), .ref (z + 16), .ref (z + 17), .ref (z + 18), .null, .null, .null, .null, .null, .null, .null, .null, .null, .null, .null, .null, .null, .int 0, .int 0, .null, .null, .null, .null, .null, .null, .null, .int 0, .null, .int 0, .int 0, .int 0])) := hI
    refine jg_aload_n hC dX12_init_658 rfl rfl ?_
    refine jg_sipush (v := 520) hC dX12_init_659 (by decide) ?_
    refine al_NA (atype := .int) (t0 := 0) (N := 520) (j := 26) (ty := .int) (ty2 := .array .int) hC hin hh hI ⟨by decide, by decide⟩ rfl (fun _ => rfl) wa_int rfl (fun _ h => by cases h) rfl (by decide) (Nat.le_of_ble_eq_true rfl) (Nat.le_of_ble_eq_true rfl) dX12_init_662 rfl (by decide) wfX12_158 (Nat.le_of_ble_eq_true rfl) rfl rfl (by decide +kernel) rfl rfl dX12_init_664 (fun σ hI => ?_)
    replace hI : a_I _ h0 z 20 _ σ (.inr (10, [.ref (z + 0), .ref (z + 1), .int 0, .ref (z + 2), .int 0, .int 0, .int 0, .ref (z + 3), .ref (z + 4), .ref (z + 5), .ref (z + 6), .ref (z + 7), .ref (z + 8), .ref (z + 9), .int 0, .ref (z + 10), .ref (z + 11), .int 0, .int 0, .ref (z + 12), .ref (z + 13), .ref (z + 14), .ref (z + 15), .ref (z + 16), .ref (z + 17), .ref (z + 18), .ref (z + 19), .null, .null, .null, .null, .null, .null, .null, .null, .null, .null, .null, .null, .int 0, .int 0, .null, .null, .null, .null, .null, .null, .null, .int 0, .null, .int 0, .int 0, .int 0])) := hI
    refine jg_aload_n hC dX12_init_667 rfl rfl ?_
    refine jg_bipush (v := 13) hC dX12_init_668 (by decide) ?_
    refine al_NA (atype := .int) (t0 := 0) (N := 13) (j := 27) (ty := .int) (ty2 := .array .int) hC hin hh hI ⟨by decide, by decide⟩ rfl (fun _ => rfl) wa_int rfl (fun _ h => by cases h) rfl (by decide) (Nat.le_of_ble_eq_true rfl) (Nat.le_of_ble_eq_true rfl) dX12_init_670 rfl (by decide) wfX12_161 (Nat.le_of_ble_eq_true rfl) rfl rfl (by decide +kernel) rfl rfl dX12_init_672 (fun σ hI => ?_)
    replace hI : a_I _ h0 z 21 _ σ (.inr (10, [.ref (z + 0), .ref (z + 1), .int 0, .ref (z + 2), .int 0, .int 0, .int 0, .ref (z + 3), .ref (z + 4), .ref (z + 5), .ref (z + 6), .ref (z + 7), .ref (z + 8), .ref (z + 9), .int 0, .ref (z + 10), .ref (z + 11), .int 0, .int 0, .ref (z + 12), .ref (z + 13), .ref (z + 14), .ref (z + 15), .ref (z + 16), .ref (z + 17), .ref (z + 18), .ref (z + 19), .ref (z + 20), .null, .null, .null, .null, .null, .null, .null, .null, .null, .null, .null, .int 0, .int 0, .null, .null, .null, .null, .null, .null, .null, .int 0, .null, .int 0, .int 0, .int 0])) := hI
    refine jg_aload_n hC dX12_init_675 rfl rfl ?_
    refine jg_sipush (v := 260) hC dX12_init_676 (by decide) ?_
    refine al_NA (atype := .int) (t0 := 0) (N := 260) (j := 28) (ty := .int) (ty2 := .array .int) hC hin hh hI ⟨by decide, by decide⟩ rfl (fun _ => rfl) wa_int rfl (fun _ h => by cases h) rfl (by decide) (Nat.le_of_ble_eq_true rfl) (Nat.le_of_ble_eq_true rfl) dX12_init_679 rfl (by decide) wfX12_164 (Nat.le_of_ble_eq_true rfl) rfl rfl (by decide +kernel) rfl rfl dX12_init_681 (fun σ hI => ?_)
    replace hI : a_I _ h0 z 22 _ σ (.inr (10, [.ref (z + 0), .ref (z + 1), .int 0, .ref (z + 2), .int 0, .int 0, .int 0, .ref (z + 3), .ref (z + 4), .ref (z + 5), .ref (z + 6), .ref (z + 7), .ref (z + 8), .ref (z + 9), .int 0, .ref (z + 10), .ref (z + 11), .int 0, .int 0, .ref (z + 12), .ref (z + 13), .ref (z + 14), .ref (z + 15), .ref (z + 16), .ref (z + 17), .ref (z + 18), .ref (z + 19), .ref (z + 20), .ref (z + 21), .null, .null, .null, .null, .null, .null, .null, .null, .null, .null, .int 0, .int 0, .null, .null, .null, .null, .null, .null, .null, .int 0, .null, .int 0, .int 0, .int 0])) := hI
    refine jg_aload_n hC dX12_init_684 rfl rfl ?_
    refine jg_bipush (v := 13) hC dX12_init_685 (by decide) ?_
    refine al_NA (atype := .int) (t0 := 0) (N := 13) (j := 29) (ty := .int) (ty2 := .array .int) hC hin hh hI ⟨by decide, by decide⟩ rfl (fun _ => rfl) wa_int rfl (fun _ h => by cases h) rfl (by decide) (Nat.le_of_ble_eq_true rfl) (Nat.le_of_ble_eq_true rfl) dX12_init_687 rfl (by decide) wfX12_167 (Nat.le_of_ble_eq_true rfl) rfl rfl (by decide +kernel) rfl rfl dX12_init_689 (fun σ hI => ?_)
    replace hI : a_I _ h0 z 23 _ σ (.inr (10, [.ref (z + 0), .ref (z + 1), .int 0, .ref (z + 2), .int 0, .int 0, .int 0, .ref (z + 3), .ref (z + 4), .ref (z + 5), .ref (z + 6), .ref (z + 7), .ref (z + 8), .ref (z + 9), .int 0, .ref (z + 10), .ref (z + 11), .int 0, .int 0, .ref (z + 12), .ref (z + 13), .ref (z + 14), .ref (z + 15), .ref (z + 16), .ref (z + 17), .ref (z + 18), .ref (z + 19), .ref (z + 20), .ref (z + 21), .ref (z + 22), .null, .null, .null, .null, .null, .null, .null, .null, .null, .int 0, .int 0, .null, .null, .null, .null, .null, .null, .null, .int 0, .null, .int 0, .int 0, .int 0])) := hI
    refine jg_aload_n hC dX12_init_692 rfl rfl ?_
    refine jg_bipush (v := 104) hC dX12_init_693 (by decide) ?_
    refine al_NA (atype := .int) (t0 := 0) (N := 104) (j := 30) (ty := .int) (ty2 := .array .int) hC hin hh hI ⟨by decide, by decide⟩ rfl (fun _ => rfl) wa_int rfl (fun _ h => by cases h) rfl (by decide) (Nat.le_of_ble_eq_true rfl) (Nat.le_of_ble_eq_true rfl) dX12_init_695 rfl (by decide) wfX12_170 (Nat.le_of_ble_eq_true rfl) rfl rfl (by decide +kernel) rfl rfl dX12_init_697 (fun σ hI => ?_)
    replace hI : a_I _ h0 z 24 _ σ (.inr (10, [.ref (z + 0), .ref (z + 1), .int 0, .ref (z + 2), .int 0, .int 0, .int 0, .ref (z + 3), .ref (z + 4), .ref (z + 5), .ref (z + 6), .ref (z + 7), .ref (z + 8), .ref (z + 9), .int 0, .ref (z + 10), .ref (z + 11), .int 0, .int 0, .ref (z + 12), .ref (z + 13), .ref (z + 14), .ref (z + 15), .ref (z + 16), .ref (z + 17), .ref (z + 18), .ref (z + 19), .ref (z + 20), .ref (z + 21), .ref (z + 22), .ref (z + 23), .null, .null, .null, .null, .null, .null, .null, .null, .int 0, .int 0, .null, .null, .null, .null, .null, .null, .null, .int 0, .null, .int 0, .int 0, .int 0])) := hI
    refine jg_aload_n hC dX12_init_700 rfl rfl ?_
    refine jg_bipush (v := 104) hC dX12_init_701 (by decide) ?_
    refine al_NA (atype := .int) (t0 := 0) (N := 104) (j := 31) (ty := .int) (ty2 := .array .int) hC hin hh hI ⟨by decide, by decide⟩ rfl (fun _ => rfl) wa_int rfl (fun _ h => by cases h) rfl (by decide) (Nat.le_of_ble_eq_true rfl) (Nat.le_of_ble_eq_true rfl) dX12_init_703 rfl (by decide) wfX12_173 (Nat.le_of_ble_eq_true rfl) rfl rfl (by decide +kernel) rfl rfl dX12_init_705 (fun σ hI => ?_)
    replace hI : a_I _ h0 z 25 _ σ (.inr (10, [.ref (z + 0), .ref (z + 1), .int 0, .ref (z + 2), .int 0, .int 0, .int 0, .ref (z + 3), .ref (z + 4), .ref (z + 5), .ref (z + 6), .ref (z + 7), .ref (z + 8), .ref (z + 9), .int 0, .ref (z + 10), .ref (z + 11), .int 0, .int 0, .ref (z + 12), .ref (z + 13), .ref (z + 14), .ref (z + 15), .ref (z + 16), .ref (z + 17), .ref (z + 18), .ref (z + 19), .ref (z + 20), .ref (z + 21), .ref (z + 22), .ref (z + 23), .ref (z + 24), .null, .null, .null, .null, .null, .null, .null, .int 0, .int 0, .null, .null, .null, .null, .null, .null, .null, .int 0, .null, .int 0, .int 0, .int 0])) := hI
    refine jg_aload_n hC dX12_init_708 rfl rfl ?_
    refine jg_bipush (v := 13) hC dX12_init_709 (by decide) ?_
    refine al_NA (atype := .int) (t0 := 0) (N := 13) (j := 32) (ty := .int) (ty2 := .array .int) hC hin hh hI ⟨by decide, by decide⟩ rfl (fun _ => rfl) wa_int rfl (fun _ h => by cases h) rfl (by decide) (Nat.le_of_ble_eq_true rfl) (Nat.le_of_ble_eq_true rfl) dX12_init_711 rfl (by decide) wfX12_176 (Nat.le_of_ble_eq_true rfl) rfl rfl (by decide +kernel) rfl rfl dX12_init_713 (fun σ hI => ?_)
    replace hI : a_I _ h0 z 26 _ σ (.inr (10, [.ref (z + 0), .ref (z + 1), .int 0, .ref (z + 2), .int 0, .int 0, .int 0, .ref (z + 3), .ref (z + 4), .ref (z + 5), .ref (z + 6), .ref (z + 7), .ref (z + 8), .ref (z + 9), .int 0, .ref (z + 10), .ref (z + 11), .int 0, .int 0, .ref (z + 12), .ref (z + 13), .ref (z + 14), .ref (z + 15), .ref (z + 16), .ref (z + 17), .ref (z + 18), .ref (z + 19), .ref (z + 20), .ref (z + 21), .ref (z + 22), .ref (z + 23), .ref (z + 24), .ref (z + 25), .null, .null, .null, .null, .null, .null, .int 0, .int 0, .null, .null, .null, .null, .null, .null, .null, .int 0, .null, .int 0, .int 0, .int 0])) := hI
    refine jg_aload_n hC dX12_init_716 rfl rfl ?_
    refine jg_bipush (v := 104) hC dX12_init_717 (by decide) ?_
    refine al_NA (atype := .int) (t0 := 0) (N := 104) (j := 33) (ty := .int) (ty2 := .array .int) hC hin hh hI ⟨by decide, by decide⟩ rfl (fun _ => rfl) wa_int rfl (fun _ h => by cases h) rfl (by decide) (Nat.le_of_ble_eq_true rfl) (Nat.le_of_ble_eq_true rfl) dX12_init_719 rfl (by decide) wfX12_179 (Nat.le_of_ble_eq_true rfl) rfl rfl (by decide +kernel) rfl rfl dX12_init_721 (fun σ hI => ?_)
    replace hI : a_I _ h0 z 27 _ σ (.inr (10, [.ref (z + 0), .ref (z + 1), .int 0, .ref (z + 2), .int 0, .int 0, .int 0, .ref (z + 3), .ref (z + 4), .ref (z + 5), .ref (z + 6), .ref (z + 7), .ref (z + 8), .ref (z + 9), .int 0, .ref (z + 10), .ref (z + 11), .int 0, .int 0, .ref (z + 12), .ref (z + 13), .ref (z + 14), .ref (z + 15), .ref (z + 16), .ref (z + 17), .ref (z + 18), .ref (z + 19), .ref (z + 20), .ref (z + 21), .ref (z + 22), .ref (z + 23), .ref (z + 24), .ref (z + 25), .ref (z + 26), .null, .null, .null, .null, .null, .int 0, .int 0, .null, .null, .null, .null, .null, .null, .null, .int 0, .null, .int 0, .int 0, .int 0])) := hI
    refine jg_aload_n hC dX12_init_724 rfl rfl ?_
    refine jg_bipush (v := 13) hC dX12_init_725 (by decide) ?_
    refine al_NA (atype := .int) (t0 := 0) (N := 13) (j := 34) (ty := .int) (ty2 := .array .int) hC hin hh hI ⟨by decide, by decide⟩ rfl (fun _ => rfl) wa_int rfl (fun _ h => by cases h) rfl (by decide) (Nat.le_of_ble_eq_true rfl) (Nat.le_of_ble_eq_true rfl) dX12_init_727 rfl (by decide) wfX12_182 (Nat.le_of_ble_eq_true rfl) rfl rfl (by decide +kernel) rfl rfl dX12_init_729 (fun σ hI => ?_)
    replace hI : a_I _ h0 z 28 _ σ (.inr (10, [.ref (z + 0), .ref (z + 1), .int 0, .ref (z + 2), .int 0, .int 0, .int 0, .ref (z + 3), .ref (z + 4), .ref (z + 5), .ref (z + 6), .ref (z + 7), .ref (z + 8), .ref (z + 9), .int 0, .ref (z + 10), .ref (z + 11), .int 0, .int 0, .ref (z + 12), .ref (z + 13), .ref (z + 14), .ref (z + 15), .ref (z + 16), .ref (z + 17), .ref (z + 18), .ref (z + 19), .ref (z + 20), .ref (z + 21), .ref (z + 22), .ref (z + 23), .ref (z + 24), .ref (z + 25), .ref (z + 26), .ref (z + 27), .null, .null, .null, .null, .int 0, .int 0, .null, .null, .null, .null, .null, .null, .null, .int 0, .null, .int 0, .int 0, .int 0])) := hI
    refine jg_aload_n hC dX12_init_732 rfl rfl ?_
    refine jg_bipush (v := 13) hC dX12_init_733 (by decide) ?_
    refine al_NA (atype := .int) (t0 := 0) (N := 13) (j := 35) (ty := .int) (ty2 := .array .int) hC hin hh hI ⟨by decide, by decide⟩ rfl (fun _ => rfl) wa_int rfl (fun _ h => by cases h) rfl (by decide) (Nat.le_of_ble_eq_true rfl) (Nat.le_of_ble_eq_true rfl) dX12_init_735 rfl (by decide) wfX12_185 (Nat.le_of_ble_eq_true rfl) rfl rfl (by decide +kernel) rfl rfl dX12_init_737 (fun σ hI => ?_)
    replace hI : a_I _ h0 z 29 _ σ (.inr (10, [.ref (z + 0), .ref (z + 1), .int 0, .ref (z + 2), .int 0, .int 0, .int 0, .ref (z + 3), .ref (z + 4), .ref (z + 5), .ref (z + 6), .ref (z + 7), .ref (z + 8), .ref (z + 9), .int 0, .ref (z + 10), .ref (z + 11), .int 0, .int 0, .ref (z + 12), .ref (z + 13), .ref (z + 14), .ref (z + 15), .ref (z + 16), .ref (z + 17), .ref (z + 18), .ref (z + 19), .ref (z + 20), .ref (z + 21), .ref (z + 22), .ref (z + 23), .ref (z + 24), .ref (z + 25), .ref (z + 26), .ref (z + 27), .ref (z + 28), .null, .null, .null, .int 0, .int 0, .null, .null, .null, .null, .null, .null, .null, .int 0, .null, .int 0, .int 0, .int 0])) := hI
    refine jg_aload_n hC dX12_init_740 rfl rfl ?_
    refine jg_bipush (v := 13) hC dX12_init_741 (by decide) ?_
    refine al_NA (atype := .int) (t0 := 0) (N := 13) (j := 36) (ty := .int) (ty2 := .array .int) hC hin hh hI ⟨by decide, by decide⟩ rfl (fun _ => rfl) wa_int rfl (fun _ h => by cases h) rfl (by decide) (Nat.le_of_ble_eq_true rfl) (Nat.le_of_ble_eq_true rfl) dX12_init_743 rfl (by decide) wfX12_188 (Nat.le_of_ble_eq_true rfl) rfl rfl (by decide +kernel) rfl rfl dX12_init_745 (fun σ hI => ?_)
    replace hI : a_I _ h0 z 30 _ σ (.inr (10, [.ref (z + 0), .ref (z + 1), .int 0, .ref (z + 2), .int 0, .int 0, .int 0, .ref (z + 3), .ref (z + 4), .ref (z + 5), .ref (z + 6), .ref (z + 7), .ref (z + 8), .ref (z + 9), .int 0, .ref (z + 10), .ref (z + 11), .int 0, .int 0, .ref (z + 12), .ref (z + 13), .ref (z + 14), .ref (z + 15), .ref (z + 16), .ref (z + 17), .ref (z + 18), .ref (z + 19), .ref (z + 20), .ref (z + 21), .ref (z + 22), .ref (z + 23), .ref (z + 24), .ref (z + 25), .ref (z + 26), .ref (z + 27), .ref (z + 28), .ref (z + 29), .null, .null, .int 0, .int 0, .null, .null, .null, .null, .null, .null, .null, .int 0, .null, .int 0, .int 0, .int 0])) := hI
    refine jg_aload_n hC dX12_init_748 rfl rfl ?_
    refine jg_bipush (v := 39) hC dX12_init_749 (by decide) ?_
    refine al_NA (atype := .int) (t0 := 0) (N := 39) (j := 37) (ty := .int) (ty2 := .array .int) hC hin hh hI ⟨by decide, by decide⟩ rfl (fun _ => rfl) wa_int rfl (fun _ h => by cases h) rfl (by decide) (Nat.le_of_ble_eq_true rfl) (Nat.le_of_ble_eq_true rfl) dX12_init_751 rfl (by decide) wfX12_191 (Nat.le_of_ble_eq_true rfl) rfl rfl (by decide +kernel) rfl rfl dX12_init_753 (fun σ hI => ?_)
    replace hI : a_I _ h0 z 31 _ σ (.inr (10, [.ref (z + 0), .ref (z + 1), .int 0, .ref (z + 2), .int 0, .int 0, .int 0, .ref (z + 3), .ref (z + 4), .ref (z + 5), .ref (z + 6), .ref (z + 7), .ref (z + 8), .ref (z + 9), .int 0, .ref (z + 10), .ref (z + 11), .int 0, .int 0, .ref (z + 12), .ref (z + 13), .ref (z + 14), .ref (z + 15), .ref (z + 16), .ref (z + 17), .ref (z + 18), .ref (z + 19), .ref (z + 20), .ref (z + 21), .ref (z + 22), .ref (z + 23), .ref (z + 24), .ref (z + 25), .ref (z + 26), .ref (z + 27), .ref (z + 28), .ref (z + 29), .ref (z + 30), .null, .int 0, .int 0, .null, .null, .null, .null, .null, .null, .null, .int 0, .null, .int 0, .int 0, .int 0])) := hI
    refine jg_aload_n hC dX12_init_756 rfl rfl ?_
    refine jg_iconst (v := 3) hC dX12_init_757 (by decide) ?_
    refine al_NA (atype := .int) (t0 := 0) (N := 3) (j := 38) (ty := .int) (ty2 := .array .int) hC hin hh hI ⟨by decide, by decide⟩ rfl (fun _ => rfl) wa_int rfl (fun _ h => by cases h) rfl (by decide) (Nat.le_of_ble_eq_true rfl) (Nat.le_of_ble_eq_true rfl) dX12_init_758 rfl (by decide) wfX12_194 (Nat.le_of_ble_eq_true rfl) rfl rfl (by decide +kernel) rfl rfl dX12_init_760 (fun σ hI => ?_)
    replace hI : a_I _ h0 z 32 _ σ (.inr (10, [.ref (z + 0), .ref (z + 1), .int 0, .ref (z + 2), .int 0, .int 0, .int 0, .ref (z + 3), .ref (z + 4), .ref (z + 5), .ref (z + 6), .ref (z + 7), .ref (z + 8), .ref (z + 9), .int 0, .ref (z + 10), .ref (z + 11), .int 0, .int 0, .ref (z + 12), .ref (z + 13), .ref (z + 14), .ref (z + 15), .ref (z + 16), .ref (z + 17), .ref (z + 18), .ref (z + 19), .ref (z + 20), .ref (z + 21), .ref (z + 22), .ref (z + 23), .ref (z + 24), .ref (z + 25), .ref (z + 26), .ref (z + 27), .ref (z + 28), .ref (z + 29), .ref (z + 30), .ref (z + 31), .int 0, .int 0, .null, .null, .null, .null, .null, .null, .null, .int 0, .null, .int 0, .int 0, .int 0])) := hI
    refine jg_aload_n hC dX12_init_763 rfl rfl ?_
    refine jg_iconst (v := 4) hC dX12_init_764 (by decide) ?_
    refine al_PN (j := 40) (ty := .int) hC hh hI rfl (by decide) wfX12_197 (Nat.le_of_ble_eq_true rfl) rfl (by decide +kernel) rfl rfl dX12_init_765 (fun σ hI => ?_)
    replace hI : a_I _ h0 z 32 _ σ (.inr (10, [.ref (z + 0), .ref (z + 1), .int 0, .ref (z + 2), .int 0, .int 0, .int 0, .ref (z + 3), .ref (z + 4), .ref (z + 5), .ref (z + 6), .ref (z + 7), .ref (z + 8), .ref (z + 9), .int 0, .ref (z + 10), .ref (z + 11), .int 0, .int 0, .ref (z + 12), .ref (z + 13), .ref (z + 14), .ref (z + 15), .ref (z + 16), .ref (z + 17), .ref (z + 18), .ref (z + 19), .ref (z + 20), .ref (z + 21), .ref (z + 22), .ref (z + 23), .ref (z + 24), .ref (z + 25), .ref (z + 26), .ref (z + 27), .ref (z + 28), .ref (z + 29), .ref (z + 30), .ref (z + 31), .int 0, .int 4, .null, .null, .null, .null, .null, .null, .null, .int 0, .null, .int 0, .int 0, .int 0])) := hI
    refine jg_aload_n hC dX12_init_768 rfl rfl ?_
    refine jg_bipush (v := 8) hC dX12_init_769 (by decide) ?_
    refine al_NA (atype := .int) (t0 := 0) (N := 8) (j := 41) (ty := .int) (ty2 := .array .int) hC hin hh hI ⟨by decide, by decide⟩ rfl (fun _ => rfl) wa_int rfl (fun _ h => by cases h) rfl (by decide) (Nat.le_of_ble_eq_true rfl) (Nat.le_of_ble_eq_true rfl) dX12_init_771 rfl (by decide) wfX12_200 (Nat.le_of_ble_eq_true rfl) rfl rfl (by decide +kernel) rfl rfl dX12_init_773 (fun σ hI => ?_)
    replace hI : a_I _ h0 z 33 _ σ (.inr (10, [.ref (z + 0), .ref (z + 1), .int 0, .ref (z + 2), .int 0, .int 0, .int 0, .ref (z + 3), .ref (z + 4), .ref (z + 5), .ref (z + 6), .ref (z + 7), .ref (z + 8), .ref (z + 9), .int 0, .ref (z + 10), .ref (z + 11), .int 0, .int 0, .ref (z + 12), .ref (z + 13), .ref (z + 14), .ref (z + 15), .ref (z + 16), .ref (z + 17), .ref (z + 18), .ref (z + 19), .ref (z + 20), .ref (z + 21), .ref (z + 22), .ref (z + 23), .ref (z + 24), .ref (z + 25), .ref (z + 26), .ref (z + 27), .ref (z + 28), .ref (z + 29), .ref (z + 30), .ref (z + 31), .int 0, .int 4, .ref (z + 32), .null, .null, .null, .null, .null, .null, .int 0, .null, .int 0, .int 0, .int 0])) := hI
    refine jg_aload_n hC dX12_init_776 rfl rfl ?_
    refine jg_bipush (v := 104) hC dX12_init_777 (by decide) ?_
    refine al_NA (atype := .int) (t0 := 0) (N := 104) (j := 42) (ty := .int) (ty2 := .array .int) hC hin hh hI ⟨by decide, by decide⟩ rfl (fun _ => rfl) wa_int rfl (fun _ h => by cases h) rfl (by decide) (Nat.le_of_ble_eq_true rfl) (Nat.le_of_ble_eq_true rfl) dX12_init_779 rfl (by decide) wfX12_203 (Nat.le_of_ble_eq_true rfl) rfl rfl (by decide +kernel) rfl rfl dX12_init_781 (fun σ hI => ?_)
    replace hI : a_I _ h0 z 34 _ σ (.inr (10, [.ref (z + 0), .ref (z + 1), .int 0, .ref (z + 2), .int 0, .int 0, .int 0, .ref (z + 3), .ref (z + 4), .ref (z + 5), .ref (z + 6), .ref (z + 7), .ref (z + 8), .ref (z + 9), .int 0, .ref (z + 10), .ref (z + 11), .int 0, .int 0, .ref (z + 12), .ref (z + 13), .ref (z + 14), .ref (z + 15), .ref (z + 16), .ref (z + 17), .ref (z + 18), .ref (z + 19), .ref (z + 20), .ref (z + 21), .ref (z + 22), .ref (z + 23), .ref (z + 24), .ref (z + 25), .ref (z + 26), .ref (z + 27), .ref (z + 28), .ref (z + 29), .ref (z + 30), .ref (z + 31), .int 0, .int 4, .ref (z + 32), .ref (z + 33), .null, .null, .null, .null, .null, .int 0, .null, .int 0, .int 0, .int 0])) := hI
    refine jg_aload_n hC dX12_init_784 rfl rfl ?_
    refine jg_bipush (v := 8) hC dX12_init_785 (by decide) ?_
    refine al_NA (atype := .int) (t0 := 0) (N := 8) (j := 43) (ty := .int) (ty2 := .array .int) hC hin hh hI ⟨by decide, by decide⟩ rfl (fun _ => rfl) wa_int rfl (fun _ h => by cases h) rfl (by decide) (Nat.le_of_ble_eq_true rfl) (Nat.le_of_ble_eq_true rfl) dX12_init_787 rfl (by decide) wfX12_206 (Nat.le_of_ble_eq_true rfl) rfl rfl (by decide +kernel) rfl rfl dX12_init_789 (fun σ hI => ?_)
    replace hI : a_I _ h0 z 35 _ σ (.inr (10, [.ref (z + 0), .ref (z + 1), .int 0, .ref (z + 2), .int 0, .int 0, .int 0, .ref (z + 3), .ref (z + 4), .ref (z + 5), .ref (z + 6), .ref (z + 7), .ref (z + 8), .ref (z + 9), .int 0, .ref (z + 10), .ref (z + 11), .int 0, .int 0, .ref (z + 12), .ref (z + 13), .ref (z + 14), .ref (z + 15), .ref (z + 16), .ref (z + 17), .ref (z + 18), .ref (z + 19), .ref (z + 20), .ref (z + 21), .ref (z + 22), .ref (z + 23), .ref (z + 24), .ref (z + 25), .ref (z + 26), .ref (z + 27), .ref (z + 28), .ref (z + 29), .ref (z + 30), .ref (z + 31), .int 0, .int 4, .ref (z + 32), .ref (z + 33), .ref (z + 34), .null, .null, .null, .null, .int 0, .null, .int 0, .int 0, .int 0])) := hI
    refine jg_aload_n hC dX12_init_792 rfl rfl ?_
    refine jg_sipush (v := 1024) hC dX12_init_793 (by decide) ?_
    refine al_NA (atype := .int) (t0 := 0) (N := 1024) (j := 44) (ty := .int) (ty2 := .array .int) hC hin hh hI ⟨by decide, by decide⟩ rfl (fun _ => rfl) wa_int rfl (fun _ h => by cases h) rfl (by decide) (Nat.le_of_ble_eq_true rfl) (Nat.le_of_ble_eq_true rfl) dX12_init_796 rfl (by decide) wfX12_209 (Nat.le_of_ble_eq_true rfl) rfl rfl (by decide +kernel) rfl rfl dX12_init_798 (fun σ hI => ?_)
    replace hI : a_I _ h0 z 36 _ σ (.inr (10, [.ref (z + 0), .ref (z + 1), .int 0, .ref (z + 2), .int 0, .int 0, .int 0, .ref (z + 3), .ref (z + 4), .ref (z + 5), .ref (z + 6), .ref (z + 7), .ref (z + 8), .ref (z + 9), .int 0, .ref (z + 10), .ref (z + 11), .int 0, .int 0, .ref (z + 12), .ref (z + 13), .ref (z + 14), .ref (z + 15), .ref (z + 16), .ref (z + 17), .ref (z + 18), .ref (z + 19), .ref (z + 20), .ref (z + 21), .ref (z + 22), .ref (z + 23), .ref (z + 24), .ref (z + 25), .ref (z + 26), .ref (z + 27), .ref (z + 28), .ref (z + 29), .ref (z + 30), .ref (z + 31), .int 0, .int 4, .ref (z + 32), .ref (z + 33), .ref (z + 34), .ref (z + 35), .null, .null, .null, .int 0, .null, .int 0, .int 0, .int 0])) := hI
    refine jg_aload_n hC dX12_init_801 rfl rfl ?_
    refine jg_sipush (v := 1025) hC dX12_init_802 (by decide) ?_
    refine al_NA (atype := .int) (t0 := 0) (N := 1025) (j := 45) (ty := .int) (ty2 := .array .int) hC hin hh hI ⟨by decide, by decide⟩ rfl (fun _ => rfl) wa_int rfl (fun _ h => by cases h) rfl (by decide) (Nat.le_of_ble_eq_true rfl) (Nat.le_of_ble_eq_true rfl) dX12_init_805 rfl (by decide) wfX12_212 (Nat.le_of_ble_eq_true rfl) rfl rfl (by decide +kernel) rfl rfl dX12_init_807 (fun σ hI => ?_)
    replace hI : a_I _ h0 z 37 _ σ (.inr (10, [.ref (z + 0), .ref (z + 1), .int 0, .ref (z + 2), .int 0, .int 0, .int 0, .ref (z + 3), .ref (z + 4), .ref (z + 5), .ref (z + 6), .ref (z + 7), .ref (z + 8), .ref (z + 9), .int 0, .ref (z + 10), .ref (z + 11), .int 0, .int 0, .ref (z + 12), .ref (z + 13), .ref (z + 14), .ref (z + 15), .ref (z + 16), .ref (z + 17), .ref (z + 18), .ref (z + 19), .ref (z + 20), .ref (z + 21), .ref (z + 22), .ref (z + 23), .ref (z + 24), .ref (z + 25), .ref (z + 26), .ref (z + 27), .ref (z + 28), .ref (z + 29), .ref (z + 30), .ref (z + 31), .int 0, .int 4, .ref (z + 32), .ref (z + 33), .ref (z + 34), .ref (z + 35), .ref (z + 36), .null, .null, .int 0, .null, .int 0, .int 0, .int 0])) := hI
    refine jg_aload_n hC dX12_init_810 rfl rfl ?_
    refine jg_sipush (v := 1025) hC dX12_init_811 (by decide) ?_
    refine al_NA (atype := .int) (t0 := 0) (N := 1025) (j := 46) (ty := .int) (ty2 := .array .int) hC hin hh hI ⟨by decide, by decide⟩ rfl (fun _ => rfl) wa_int rfl (fun _ h => by cases h) rfl (by decide) (Nat.le_of_ble_eq_true rfl) (Nat.le_of_ble_eq_true rfl) dX12_init_814 rfl (by decide) wfX12_215 (Nat.le_of_ble_eq_true rfl) rfl rfl (by decide +kernel) rfl rfl dX12_init_816 (fun σ hI => ?_)
    replace hI : a_I _ h0 z 38 _ σ (.inr (10, [.ref (z + 0), .ref (z + 1), .int 0, .ref (z + 2), .int 0, .int 0, .int 0, .ref (z + 3), .ref (z + 4), .ref (z + 5), .ref (z + 6), .ref (z + 7), .ref (z + 8), .ref (z + 9), .int 0, .ref (z + 10), .ref (z + 11), .int 0, .int 0, .ref (z + 12), .ref (z + 13), .ref (z + 14), .ref (z + 15), .ref (z + 16), .ref (z + 17), .ref (z + 18), .ref (z + 19), .ref (z + 20), .ref (z + 21), .ref (z + 22), .ref (z + 23), .ref (z + 24), .ref (z + 25), .ref (z + 26), .ref (z + 27), .ref (z + 28), .ref (z + 29), .ref (z + 30), .ref (z + 31), .int 0, .int 4, .ref (z + 32), .ref (z + 33), .ref (z + 34), .ref (z + 35), .ref (z + 36), .ref (z + 37), .null, .int 0, .null, .int 0, .int 0, .int 0])) := hI
    refine jg_aload_n hC dX12_init_819 rfl rfl ?_
    refine jg_sipush (v := 1025) hC dX12_init_820 (by decide) ?_
    refine al_NA (atype := .int) (t0 := 0) (N := 1025) (j := 47) (ty := .int) (ty2 := .array .int) hC hin hh hI ⟨by decide, by decide⟩ rfl (fun _ => rfl) wa_int rfl (fun _ h => by cases h) rfl (by decide) (Nat.le_of_ble_eq_true rfl) (Nat.le_of_ble_eq_true rfl) dX12_init_823 rfl (by decide) wfX12_218 (Nat.le_of_ble_eq_true rfl) rfl rfl (by decide +kernel) rfl rfl dX12_init_825 (fun σ hI => ?_)
    replace hI : a_I _ h0 z 39 _ σ (.inr (10, [.ref (z + 0), .ref (z + 1), .int 0, .ref (z + 2), .int 0, .int 0, .int 0, .ref (z + 3), .ref (z + 4), .ref (z + 5), .ref (z + 6), .ref (z + 7), .ref (z + 8), .ref (z + 9), .int 0, .ref (z + 10), .ref (z + 11), .int 0, .int 0, .ref (z + 12), .ref (z + 13), .ref (z + 14), .ref (z + 15), .ref (z + 16), .ref (z + 17), .ref (z + 18), .ref (z + 19), .ref (z + 20), .ref (z + 21), .ref (z + 22), .ref (z + 23), .ref (z + 24), .ref (z + 25), .ref (z + 26), .ref (z + 27), .ref (z + 28), .ref (z + 29), .ref (z + 30), .ref (z + 31), .int 0, .int 4, .ref (z + 32), .ref (z + 33), .ref (z + 34), .ref (z + 35), .ref (z + 36), .ref (z + 37), .ref (z + 38), .int 0, .null, .int 0, .int 0, .int 0])) := hI
    refine jg_aload_n hC dX12_init_828 rfl rfl ?_
    refine jg_iconst (v := 1) hC dX12_init_829 (by decide) ?_
    refine al_PN (j := 48) (ty := .int) hC hh hI rfl (by decide) wfX12_221 (Nat.le_of_ble_eq_true rfl) rfl (by decide +kernel) rfl rfl dX12_init_830 (fun σ hI => ?_)
    replace hI : a_I _ h0 z 39 _ σ (.inr (10, [.ref (z + 0), .ref (z + 1), .int 0, .ref (z + 2), .int 0, .int 0, .int 0, .ref (z + 3), .ref (z + 4), .ref (z + 5), .ref (z + 6), .ref (z + 7), .ref (z + 8), .ref (z + 9), .int 0, .ref (z + 10), .ref (z + 11), .int 0, .int 0, .ref (z + 12), .ref (z + 13), .ref (z + 14), .ref (z + 15), .ref (z + 16), .ref (z + 17), .ref (z + 18), .ref (z + 19), .ref (z + 20), .ref (z + 21), .ref (z + 22), .ref (z + 23), .ref (z + 24), .ref (z + 25), .ref (z + 26), .ref (z + 27), .ref (z + 28), .ref (z + 29), .ref (z + 30), .ref (z + 31), .int 0, .int 4, .ref (z + 32), .ref (z + 33), .ref (z + 34), .ref (z + 35), .ref (z + 36), .ref (z + 37), .ref (z + 38), .int 1, .null, .int 0, .int 0, .int 0])) := hI
    refine jg_aload_n hC dX12_init_833 rfl rfl ?_
    refine jg_sipush (v := 2000) hC dX12_init_834 (by decide) ?_
    refine al_NA (atype := .int) (t0 := 0) (N := 2000) (j := 49) (ty := .int) (ty2 := .array .int) hC hin hh hI ⟨by decide, by decide⟩ rfl (fun _ => rfl) wa_int rfl (fun _ h => by cases h) rfl (by decide) (Nat.le_of_ble_eq_true rfl) (Nat.le_of_ble_eq_true rfl) dX12_init_837 rfl (by decide) wfX12_224 (Nat.le_of_ble_eq_true rfl) rfl rfl (by decide +kernel) rfl rfl dX12_init_839 (fun σ hI => ?_)
    replace hI : a_I _ h0 z 40 _ σ (.inr (10, [.ref (z + 0), .ref (z + 1), .int 0, .ref (z + 2), .int 0, .int 0, .int 0, .ref (z + 3), .ref (z + 4), .ref (z + 5), .ref (z + 6), .ref (z + 7), .ref (z + 8), .ref (z + 9), .int 0, .ref (z + 10), .ref (z + 11), .int 0, .int 0, .ref (z + 12), .ref (z + 13), .ref (z + 14), .ref (z + 15), .ref (z + 16), .ref (z + 17), .ref (z + 18), .ref (z + 19), .ref (z + 20), .ref (z + 21), .ref (z + 22), .ref (z + 23), .ref (z + 24), .ref (z + 25), .ref (z + 26), .ref (z + 27), .ref (z + 28), .ref (z + 29), .ref (z + 30), .ref (z + 31), .int 0, .int 4, .ref (z + 32), .ref (z + 33), .ref (z + 34), .ref (z + 35), .ref (z + 36), .ref (z + 37), .ref (z + 38), .int 1, .ref (z + 39), .int 0, .int 0, .int 0])) := hI
    refine jg_aload_n hC dX12_init_842 rfl rfl ?_
    refine al_get (j := 46) hC hI.1 rfl (by decide) wfX12_215 rfl dX12_init_843 ?_
    refine jg_iconst (v := 0) hC dX12_init_846 (by decide) ?_
    refine jg_sipush (v := 1024) hC dX12_init_847 (by decide) ?_
    refine al_IA (J := 37) (t0 := 0) (N := 1025) (f := fun _ => 0) hC hh hI (by decide) rfl rfl (vp_in_nI (n := 0) (N := 1025) (by decide) (by decide)) dX12_init_850 (fun σ hI => ?_)
    exact al_ret hC dX12_init_851 hI
  exact key σ hI
