theorem cw_pg_0 (ad : Nat → Nat → Nat) : va_rf (cw_pg ad 0) = .null := by simp [cw_pg, va_rf]
theorem cw_pg_i (ad : Nat → Nat → Nat) {i : Nat} (hi : i < 12) : va_rf (cw_pg ad (nI (i + 1))) = .ref (ad 28 i) := by
  have h0 : ¬ nI (i + 1) = 0 := nI_ne0 (by omega) (by omega)
  have h1 : (nI (i + 1)).toNatClampNeg = i + 1 := nI_clamp (by omega)
  simp [cw_pg, h0, h1, va_rf]
theorem rf_or (o : Option Nat) : va_rf o = .null ∨ ∃ a, va_rf o = .ref a := by
  cases o with
  | none => exact Or.inl rfl
  | some a => exact Or.inr ⟨a, rfl⟩
def m_pi (M : n_M) (p : Nat) : Nat := (M.1 4 p).toNatClampNeg - 1
def m_pok (M : n_M) (p : Nat) : Prop := M.1 4 p = 0 ∨ ∃ i, i < 12 ∧ M.1 4 p = nI (i + 1)
theorem m_pi_i {M : n_M} {p i : Nat} (hi : i < 12) (h : M.1 4 p = nI (i + 1)) : m_pi M p = i := by
  unfold m_pi
  rw [h, nI_clamp (by omega)]
  omega
def m_nop (M : n_M) (p : Nat) : Int32 := if M.1 4 p = 0 then 0 else if M.1 5 p < 0 then 0 else if nI (M.2 12 (m_pi M p)).length ≤ M.1 5 p then 0 else (M.2 12 (m_pi M p)).getD (M.1 5 p).toNatClampNeg 0
def m_emp (M : n_M) (p : Nat) : n_M := m_s (m_s (m_s (m_l (m_l (m_l (m_l (m_l (m_l M 0 p []) 1 p []) 2 (2 * p) []) 3 (2 * p) []) 2 (2 * p + 1) []) 3 (2 * p + 1) []) 5 p 0) 8 p 0) 7 p 0
def m_usr (M : n_M) (p : Nat) : n_M := if M.1 4 p = 0 then M else m_s M 12 (m_pi M p) (M.1 12 (m_pi M p) - 1)
def m_van (M : n_M) (p : Nat) : n_M := m_s (m_s (m_s (m_s (m_s (m_s (m_usr (m_emp M p) p) 4 p 0) 0 p 0) 1 p 0) 2 p 0) 3 p 0) 6 p 0
def m_al (M : n_M) (p : Nat) : Prop := 1 ≤ M.1 0 p ∧ M.1 0 p ≤ 6
theorem ce_0 {M : n_M} {σ : n_S} (h : RepC M σ) {p : Nat} (hp : 1 ≤ p ∧ p ≤ 12) : RepC (m_l M 0 p []) (n_up σ 21 p 5 0) := by
  refine cl_0 h hp (fun κ i k a b => ?_) ?_ (by simp) (by intro i hi; simp at hi)
  · simp only [n_up_k]
    repeat (first | rfl | rw [if_neg (by omega)])
  · rw [n_up_k, if_pos ⟨rfl, rfl, rfl⟩]; rfl
theorem ce_1 {M : n_M} {σ : n_S} (h : RepC M σ) {p : Nat} (hp : 1 ≤ p ∧ p ≤ 12) : RepC (m_l M 1 p []) (n_up σ 21 p 6 0) := by
  refine cl_1 h hp (fun κ i k a b => ?_) ?_ (by simp) (by intro i hi; simp at hi)
  · simp only [n_up_k]
    repeat (first | rfl | rw [if_neg (by omega)])
  · rw [n_up_k, if_pos ⟨rfl, rfl, rfl⟩]; rfl
theorem ce_2 {M : n_M} {σ : n_S} (h : RepC M σ) {p : Nat} (hp : 2 ≤ p ∧ p ≤ 25) : RepC (m_l (m_l M 2 p []) 3 p []) (n_up σ 24 p 2 0) := by
  refine cl_2 h hp (fun κ i k a b c => ?_) ?_ (by simp) (by intro i hi; simp at hi) (by simp) (by intro i hi; simp at hi) rfl
  · simp only [n_up_k]
    repeat (first | rfl | rw [if_neg (by omega)])
  · rw [n_up_k, if_pos ⟨rfl, rfl, rfl⟩]; rfl
section UP0
variable {p : Program} {l : Launch} {e : Env} {s : State} {m : MethodId} {args : Array Value} {below : List Frame} {meth : Method} {c : Code} {D : va_G} {ca : Nat → ClassId} {ad : Nat → Nat → Nat} {ae : Nat → Nat} {Ex : State → Heap → Prop} {d : Nat} {Po : Option Value → n_S → Prop} {cc : ByteArray} {nL : Nat} {own : String} {ret : Option FieldType}
variable {pc : Nat} {ls : List (Option Value)} {rest : List Value} {σ : n_S} {ix i : Nat}
theorem p21_program (hC : n_C p s m args meth c (cw D ca ad ae Ex) cc nL own ret) {x : Int32} {v : Value} (hv : v = va_rf (cw_pg ad x)) (hi : cw_dom 21 i) (hw : Cond.fieldLink own ix "ShareMonitor$UserProcess" "program" "LShareMonitor$Program;" ∈ n_tb) (hdg : decode cc pc = .ok (.putfield ix, 3)) (kk : n_W p l e s m args below meth c (cw D ca ad ae Ex) d Po (pc + 3) ls rest (n_up σ 21 i 11 x)) : n_W p l e s m args below meth c (cw D ca ad ae Ex) d Po pc ls (v :: .ref (ad 21 i) :: rest) σ := by
  subst hv
  exact n_putf hC (κ := 21) (i := i) (ci := 7) (k := 11) (q := (RX9, TX9, 16)) (ty := .object "ShareMonitor$Program") (n_up σ 21 i 11 x) hi rfl rfl (by decide) hw (Nat.le_of_ble_eq_true rfl) rfl (by decide +kernel) (by cases cw_pg ad x <;> rfl) (by cases cw_pg ad x <;> rfl) (congrArg (cw_eL ca ad ae 21 i) (n_up_at σ 21 i 11 x)) (fun κ' i' _ h => cw_ho 21 i 11 x κ' i' h) hdg kk
end UP0
section UP1
variable {l : Launch} {D : va_G} {ca : Nat → ClassId} {ad : Nat → Nat → Nat} {ae : Nat → Nat} {Ex : State → Heap → Prop}
theorem c_alive (d q : Nat) (M : n_M) (σ : n_S) (hM : RepC M σ) (hq : 1 ≤ q ∧ q ≤ 12) : n_Ct l (cw D ca ad ae Ex) d yX9_isAlive cX9_isAlive 1 (some .boolean) [.ref (ad 21 q)] σ (fun rv σ' => ((m_al M q ∧ rv = some (.int 1)) ∨ (¬ m_al M q ∧ rv = some (.int 0))) ∧ σ' = σ) := by
  have e1 : σ 21 q 7 = M.1 0 q := hM.1 0 q hq
  refine n_ofW (by decide) (Nat.le_of_ble_eq_true rfl) ?_
  intro p e s m below meth c hC
  have hd : cw_dom 21 q := hq
  refine n_aload_n hC dX9_isAlive_0 rfl rfl ?_
  refine g21_status hC (by first | assumption | exact rfl) wfX9_32 dX9_isAlive_1 ?_
  refine n_iconst (v := 1) hC dX9_isAlive_4 (by decide) ?_
  refine n_icmp_lt (tgt := 21) hC dX9_isAlive_5 (by decide) (fun h => ?_) (fun h => ?_)
  · refine n_iconst (v := 0) hC dX9_isAlive_21 (by decide) ?_
    refine n_zret hC dX9_isAlive_22 rfl ?_
    rw [e1] at h
    exact ⟨Or.inr ⟨fun z => absurd z.1 (Int32.not_le.mpr h), rfl⟩, rfl⟩
  · refine n_aload_n hC dX9_isAlive_8 rfl rfl ?_
    refine g21_status hC (by first | assumption | exact rfl) wfX9_32 dX9_isAlive_9 ?_
    refine n_bipush (v := 6) hC dX9_isAlive_12 (by decide) ?_
    refine n_icmp_gt (tgt := 21) hC dX9_isAlive_14 (by decide) (fun h => ?_) (fun h => ?_)
    · refine n_iconst (v := 0) hC dX9_isAlive_21 (by decide) ?_
      refine n_zret hC dX9_isAlive_22 rfl ?_
      rw [e1] at h
      exact ⟨Or.inr ⟨fun z => absurd z.2 (Int32.not_le.mpr h), rfl⟩, rfl⟩
    · rename_i h0
      refine n_iconst (v := 1) hC dX9_isAlive_17 (by decide) ?_
      refine n_goto (tgt := 22) hC dX9_isAlive_18 (by decide) ?_
      refine n_zret hC dX9_isAlive_22 rfl ?_
      rw [e1] at h h0
      exact ⟨Or.inl ⟨⟨Int32.not_lt.mp h0, Int32.not_lt.mp h⟩, rfl⟩, rfl⟩
theorem c_nextOp (d q : Nat) (M : n_M) (σ : n_S) (hM : RepC M σ) (hq : 1 ≤ q ∧ q ≤ 12) (hp : m_pok M q) : n_Ct l (cw D ca ad ae Ex) d yX9_nextOp cX9_nextOp 1 (some (.object "ShareMonitor$Op")) [.ref (ad 21 q)] σ (fun rv σ' => rv = some (va_rf (cw_op ae (m_nop M q))) ∧ σ' = σ) := by
  have e1 : σ 21 q 11 = M.1 4 q := hM.1 4 q hq
  have e2 : σ 21 q 12 = M.1 5 q := hM.1 5 q hq
  refine n_ofW (by decide) (Nat.le_of_ble_eq_true rfl) ?_
  intro p e s m below meth c hC
  have hd : cw_dom 21 q := hq
  have e0 : va_rf (cw_op ae 0) = .null := by simp [cw_op, va_rf]
  rcases hp with h0 | ⟨i, hi, hp⟩
  · have hn : m_nop M q = 0 := by unfold m_nop; rw [if_pos h0]
    refine n_aload_n hC dX9_nextOp_0 rfl rfl ?_
    refine g21_program hC (by first | assumption | exact rfl) wfX9_35 dX9_nextOp_1 ?_
    rw [e1, h0, cw_pg_0]
    refine n_ifnullN (tgt := 38) hC dX9_nextOp_4 (by decide) ?_
    refine n_null hC dX9_nextOp_38 ?_
    refine n_aret hC (by first | exact Or.inl rfl | exact Or.inr ⟨_, rfl⟩) dX9_nextOp_39 ?_
    exact ⟨by rw [hn, e0], rfl⟩
  · have hn0 : ¬ M.1 4 q = 0 := by rw [hp]; exact nI_ne0 (by omega) (by omega)
    obtain ⟨a1, a2, a3⟩ := hM.2 12 i hi
    have a1 : (M.2 12 i).length ≤ 256 := a1
    have a2 : σ 28 i 2 = nI (M.2 12 i).length := a2
    have hpi := m_pi_i hi hp
    have hd2 : cw_dom 28 i := hi
    have hd3 : cw_dom 29 i := hi
    refine n_aload_n hC dX9_nextOp_0 rfl rfl ?_
    refine g21_program hC (by first | assumption | exact rfl) wfX9_35 dX9_nextOp_1 ?_
    rw [e1, hp, cw_pg_i ad hi]
    first | refine n_ifnull hC dX9_nextOp_4 ?_ | refine n_ifnullN (tgt := 38) hC dX9_nextOp_4 (by decide) ?_
    refine n_aload_n hC dX9_nextOp_7 rfl rfl ?_
    refine g21_next hC (by first | assumption | exact rfl) wfX9_39 dX9_nextOp_8 ?_
    refine n_if_lt (tgt := 38) hC dX9_nextOp_11 (by decide) (fun h => ?_) (fun h => ?_)
    · refine n_null hC dX9_nextOp_38 ?_
      refine n_aret hC (by first | exact Or.inl rfl | exact Or.inr ⟨_, rfl⟩) dX9_nextOp_39 ?_
      rw [e2] at h
      have hn : m_nop M q = 0 := by unfold m_nop; rw [if_neg hn0, if_pos h]
      exact ⟨by rw [hn, e0], rfl⟩
    · rw [e2] at h
      refine n_aload_n hC dX9_nextOp_14 rfl rfl ?_
      refine g21_next hC (by first | assumption | exact rfl) wfX9_39 dX9_nextOp_15 ?_
      refine n_aload_n hC dX9_nextOp_18 rfl rfl ?_
      refine g21_program hC (by first | assumption | exact rfl) wfX9_35 dX9_nextOp_19 ?_
      rw [e1, hp, cw_pg_i ad hi]
      have h5 : ¬ M.1 5 q < 0 := h
      clear h
      refine g28_size hC (by first | assumption | exact rfl) wfX9_42 dX9_nextOp_22 ?_
      refine n_icmp_ge (tgt := 38) hC dX9_nextOp_25 (by decide) (fun h => ?_) (fun h => ?_)
      · refine n_null hC dX9_nextOp_38 ?_
        refine n_aret hC (by first | exact Or.inl rfl | exact Or.inr ⟨_, rfl⟩) dX9_nextOp_39 ?_
        rw [e2, a2] at h
        have hn : m_nop M q = 0 := by unfold m_nop; rw [if_neg hn0, if_neg h5, hpi, if_pos h]
        exact ⟨by rw [hn, e0], rfl⟩
      · rw [e2, a2] at h
        have h6 : ¬ nI (M.2 12 i).length ≤ M.1 5 q := h
        obtain ⟨j, hj, ej⟩ := nI_of h5
        have hjl : j < (M.2 12 i).length := Nat.lt_of_not_le fun z => h6 (by rw [ej]; exact nI_le z hj)
        clear h
        refine n_aload_n hC dX9_nextOp_28 rfl rfl ?_
        refine g21_next hC (by first | assumption | exact rfl) wfX9_39 dX9_nextOp_29 ?_
        refine n_sipush (v := 256) hC dX9_nextOp_32 (by decide) ?_
        refine n_icmp_lt (tgt := 40) hC dX9_nextOp_35 (by decide) (fun h => ?_) (fun h => ?_)
        · refine n_aload_n hC dX9_nextOp_40 rfl rfl ?_
          refine g21_program hC (by first | assumption | exact rfl) wfX9_35 dX9_nextOp_41 ?_
          rw [e1, hp, cw_pg_i ad hi]
          refine g28_ops hC (by first | assumption | exact rfl) wfX9_47 dX9_nextOp_44 ?_
          refine n_aload_n hC dX9_nextOp_47 rfl rfl ?_
          refine g21_next hC (by first | assumption | exact rfl) wfX9_39 dX9_nextOp_48 ?_
          rw [e2, ej]
          refine c_aald hC hd3 rfl rfl (vp_in_nI (by omega) (by decide)) dX9_nextOp_51 ?_
          have hjc : (nI j).toNatClampNeg = j := nI_clamp hj
          refine n_aret hC (rf_or _) dX9_nextOp_52 ?_
          refine ⟨?_, rfl⟩
          have hn : m_nop M q = (M.2 12 i).getD j 0 := by unfold m_nop; rw [if_neg hn0, if_neg h5, hpi, if_neg h6, ej, hjc]
          have a4 : σ 29 i j = (M.2 12 i).getD j 0 := a3 j hjl
          rw [hn, hjc, a4]
        · rw [e2, ej] at h
          exact absurd (nI_lt (b := 256) (by omega) (by decide)) h
theorem c_nextNumber (d q i n : Nat) (M : n_M) (σ : n_S) (hM : RepC M σ) (hq : 1 ≤ q ∧ q ≤ 12) (hi : i < 12) (hp : M.1 4 q = nI (i + 1)) (hn : M.1 5 q = nI n) (hnl : n < (M.2 13 i).length) : n_Ct l (cw D ca ad ae Ex) d yX9_nextNumber cX9_nextNumber 1 (some .int) [.ref (ad 21 q)] σ (fun rv σ' => rv = some (.int ((M.2 13 i).getD n 0)) ∧ σ' = σ) := by
  have e1 : σ 21 q 11 = M.1 4 q := hM.1 4 q hq
  have e2 : σ 21 q 12 = M.1 5 q := hM.1 5 q hq
  obtain ⟨a1, a2, a3⟩ := hM.2 13 i hi
  have a1 : (M.2 13 i).length ≤ 256 := a1
  refine n_ofW (by decide) (Nat.le_of_ble_eq_true rfl) ?_
  intro p e s m below meth c hC
  have hd : cw_dom 21 q := hq
  have hd2 : cw_dom 28 i := hi
  have hd3 : cw_dom 30 i := hi
  refine n_aload_n hC dX9_nextNumber_0 rfl rfl ?_
  refine g21_program hC (by first | assumption | exact rfl) wfX9_35 dX9_nextNumber_1 ?_
  rw [e1, hp, cw_pg_i ad hi]
  first | refine n_ifnull hC dX9_nextNumber_4 ?_ | refine n_ifnullN (tgt := 24) hC dX9_nextNumber_4 (by decide) ?_
  refine n_aload_n hC dX9_nextNumber_7 rfl rfl ?_
  refine g21_next hC (by first | assumption | exact rfl) wfX9_39 dX9_nextNumber_8 ?_
  refine n_if_lt (tgt := 24) hC dX9_nextNumber_11 (by decide) (fun h => ?_) (fun h => ?_)
  · rw [e2, hn] at h
    exact absurd h (nI_pos (by omega))
  · clear h
    refine n_aload_n hC dX9_nextNumber_14 rfl rfl ?_
    refine g21_next hC (by first | assumption | exact rfl) wfX9_39 dX9_nextNumber_15 ?_
    refine n_sipush (v := 256) hC dX9_nextNumber_18 (by decide) ?_
    refine n_icmp_lt (tgt := 28) hC dX9_nextNumber_21 (by decide) (fun h => ?_) (fun h => ?_)
    · clear h
      refine n_aload_n hC dX9_nextNumber_28 rfl rfl ?_
      refine g21_program hC (by first | assumption | exact rfl) wfX9_35 dX9_nextNumber_29 ?_
      rw [e1, hp, cw_pg_i ad hi]
      refine g28_numbers hC (by first | assumption | exact rfl) wfX9_51 dX9_nextNumber_32 ?_
      refine n_aload_n hC dX9_nextNumber_35 rfl rfl ?_
      refine g21_next hC (by first | assumption | exact rfl) wfX9_39 dX9_nextNumber_36 ?_
      rw [e2, hn]
      refine c_iald hC (by first | assumption | exact rfl) (fun _ => rfl) (by first | assumption | exact vp_in_nI (by omega) (by decide)) dX9_nextNumber_39 ?_
      refine n_iret hC dX9_nextNumber_40 ?_
      have hjc : (nI n).toNatClampNeg = n := nI_clamp (by omega)
      rw [hjc]
      exact ⟨congrArg (fun z => some (Value.int z)) (a3 n hnl), rfl⟩
    · rw [e2, hn] at h
      exact absurd (nI_lt (b := 256) (by omega) (by decide)) h
theorem c_push (d q : Nat) (x : Int32) (M : n_M) (σ : n_S) (hM : RepC M σ) (hq : 1 ≤ q ∧ q ≤ 12) (hl : (M.2 0 q).length < 40) : n_Ct l (cw D ca ad ae Ex) d yX9_push cX9_push 2 none [.ref (ad 21 q), .int x] σ (fun rv σ' => rv = none ∧ RepC (m_l M 0 q (M.2 0 q ++ [x])) σ') := by
  obtain ⟨h1, h2, h3⟩ := hM.2 0 q hq
  have e1 : σ 21 q 5 = nI (M.2 0 q).length := h2
  refine n_ofW (by decide) (Nat.le_of_ble_eq_true rfl) ?_
  intro p e s m below meth c hC
  have hd : cw_dom 21 q := hq
  have hd2 : cw_dom 22 q := hq
  refine n_aload_n hC dX9_push_0 rfl rfl ?_
  refine g21_depth hC (by first | assumption | exact rfl) wfX9_52 dX9_push_1 ?_
  refine n_bipush (v := 40) hC dX9_push_4 (by decide) ?_
  refine n_icmp_ge (tgt := 29) hC dX9_push_6 (by decide) (fun h => ?_) (fun h => ?_)
  · rw [e1] at h
    exact absurd h (nI_ge hl (by decide))
  · refine n_aload_n hC dX9_push_9 rfl rfl ?_
    refine g21_numbers hC (by first | assumption | exact rfl) wfX9_9 dX9_push_10 ?_
    refine n_aload_n hC dX9_push_13 rfl rfl ?_
    refine g21_depth hC (by first | assumption | exact rfl) wfX9_52 dX9_push_14 ?_
    refine n_iload_n hC dX9_push_17 rfl rfl ?_
    rw [e1]
    refine c_iast hC (by first | assumption | exact rfl) (fun _ => rfl) (by first | assumption | exact vp_in_nI (by omega) (by decide)) dX9_push_18 ?_
    refine n_aload_n hC dX9_push_19 rfl rfl ?_
    refine n_dup hC dX9_push_20 rfl ?_
    refine g21_depth hC (by first | assumption | exact rfl) wfX9_52 dX9_push_21 ?_
    refine n_iconst (v := 1) hC dX9_push_24 (by decide) ?_
    refine n_iadd hC dX9_push_25 ?_
    refine p21_depth hC (by first | assumption | exact rfl) wfX9_52 dX9_push_26 ?_
    refine n_vret hC dX9_push_29 ?_
    refine ⟨rfl, ?_⟩
    have e2 : (nI (M.2 0 q).length).toNatClampNeg = (M.2 0 q).length := nI_clamp (by omega)
    rw [e2]
    refine cl_0 hM hq (fun κ i k a b => ?_) ?_ ?_ ?_
    · simp only [n_up_k]
      repeat (first | rfl | rw [if_neg (by omega)])
    · simp only [n_up_k]
      simp [e1, nI_succ]
    · simp; omega
    · simp only [n_up]
      simp
      exact n_h_push h3
theorem c_pop (d q : Nat) (x : Int32) (t : List Int32) (M : n_M) (σ : n_S) (hM : RepC M σ) (hq : 1 ≤ q ∧ q ≤ 12) (hl : M.2 0 q = t ++ [x]) : n_Ct l (cw D ca ad ae Ex) d yX9_pop cX9_pop 1 (some .int) [.ref (ad 21 q)] σ (fun rv σ' => rv = some (.int x) ∧ RepC (m_l M 0 q t) σ') := by
  obtain ⟨h1, h2, h3⟩ := hM.2 0 q hq
  have h1 : (M.2 0 q).length ≤ 40 := h1
  have h3 : n_h (σ 22 q) (M.2 0 q) := h3
  have e1 : σ 21 q 5 = nI (M.2 0 q).length := h2
  have e3 : (M.2 0 q).length = t.length + 1 := by rw [hl]; simp
  rw [e3] at e1 h1
  refine n_ofW (by decide) (Nat.le_of_ble_eq_true rfl) ?_
  intro p e s m below meth c hC
  have hd : cw_dom 21 q := hq
  have hd2 : cw_dom 22 q := hq
  refine n_aload_n hC dX9_pop_0 rfl rfl ?_
  refine g21_depth hC (by first | assumption | exact rfl) wfX9_52 dX9_pop_1 ?_
  refine n_iconst (v := 1) hC dX9_pop_4 (by decide) ?_
  refine n_icmp_ge (tgt := 10) hC dX9_pop_5 (by decide) (fun h => ?_) (fun h => ?_)
  · clear h
    refine n_aload_n hC dX9_pop_10 rfl rfl ?_
    refine n_dup hC dX9_pop_11 rfl ?_
    refine g21_depth hC (by first | assumption | exact rfl) wfX9_52 dX9_pop_12 ?_
    refine n_iconst (v := 1) hC dX9_pop_15 (by decide) ?_
    refine n_isub hC dX9_pop_16 ?_
    rw [e1, nI_pred]
    refine p21_depth hC (by first | assumption | exact rfl) wfX9_52 dX9_pop_17 ?_
    refine n_aload_n hC dX9_pop_20 rfl rfl ?_
    refine g21_numbers hC (by first | assumption | exact rfl) wfX9_9 dX9_pop_21 ?_
    refine n_aload_n hC dX9_pop_24 rfl rfl ?_
    refine g21_depth hC (by first | assumption | exact rfl) wfX9_52 dX9_pop_25 ?_
    rw [n_up_k, if_pos ⟨rfl, rfl, rfl⟩]
    refine c_iald hC (by first | assumption | exact rfl) (fun _ => rfl) (by first | assumption | exact vp_in_nI (by omega) (by decide)) dX9_pop_28 ?_
    refine n_iret hC dX9_pop_29 ?_
    have e2 : (nI t.length).toNatClampNeg = t.length := nI_clamp (by omega)
    have e4 : σ 22 q t.length = x := by
      have := h3 t.length (by omega)
      rw [hl] at this
      simpa using this
    refine ⟨by rw [e2, n_up_k, if_neg (by omega), e4], ?_⟩
    refine cl_0 hM hq (fun κ i k a b => ?_) ?_ ?_ ?_
    · simp only [n_up_k]
      repeat (first | rfl | rw [if_neg (by omega)])
    · rw [n_up_k, if_pos ⟨rfl, rfl, rfl⟩]
    · omega
    · rw [n_up_ne (by omega)]
      intro i hi
      have := h3 i (by omega)
      rw [hl] at this
      rw [List.getD_eq_getElem?_getD, List.getElem?_append_left hi] at this
      rw [List.getD_eq_getElem?_getD]
      exact this
  · rw [e1] at h
    exact absurd (nI_le (a := 1) (by omega) (by omega)) h
theorem c_top (d q : Nat) (x : Int32) (t : List Int32) (M : n_M) (σ : n_S) (hM : RepC M σ) (hq : 1 ≤ q ∧ q ≤ 12) (hl : M.2 0 q = t ++ [x]) : n_Ct l (cw D ca ad ae Ex) d yX9_top cX9_top 1 (some .int) [.ref (ad 21 q)] σ (fun rv σ' => rv = some (.int x) ∧ σ' = σ) := by
  obtain ⟨h1, h2, h3⟩ := hM.2 0 q hq
  have h1 : (M.2 0 q).length ≤ 40 := h1
  have h3 : n_h (σ 22 q) (M.2 0 q) := h3
  have e1 : σ 21 q 5 = nI (M.2 0 q).length := h2
  have e3 : (M.2 0 q).length = t.length + 1 := by rw [hl]; simp
  rw [e3] at e1 h1
  refine n_ofW (by decide) (Nat.le_of_ble_eq_true rfl) ?_
  intro p e s m below meth c hC
  have hd : cw_dom 21 q := hq
  have hd2 : cw_dom 22 q := hq
  refine n_aload_n hC dX9_top_0 rfl rfl ?_
  refine g21_depth hC (by first | assumption | exact rfl) wfX9_52 dX9_top_1 ?_
  refine n_if_le (tgt := 21) hC dX9_top_4 (by decide) (fun h => ?_) (fun h => ?_)
  · rw [e1] at h
    exact absurd h (nI_nle (by omega) (by omega))
  · clear h
    refine n_aload_n hC dX9_top_7 rfl rfl ?_
    refine g21_numbers hC (by first | assumption | exact rfl) wfX9_9 dX9_top_8 ?_
    refine n_aload_n hC dX9_top_11 rfl rfl ?_
    refine g21_depth hC (by first | assumption | exact rfl) wfX9_52 dX9_top_12 ?_
    refine n_iconst (v := 1) hC dX9_top_15 (by decide) ?_
    refine n_isub hC dX9_top_16 ?_
    rw [e1, nI_pred]
    refine c_iald hC (by first | assumption | exact rfl) (fun _ => rfl) (by first | assumption | exact vp_in_nI (by omega) (by decide)) dX9_top_17 ?_
    refine n_goto (tgt := 22) hC dX9_top_18 (by decide) ?_
    refine n_iret hC dX9_top_22 ?_
    have e2 : (nI t.length).toNatClampNeg = t.length := nI_clamp (by omega)
    have e4 : σ 22 q t.length = x := by
      have := h3 t.length (by omega)
      rw [hl] at this
      simpa using this
    exact ⟨by rw [e2, e4], rfl⟩
theorem c_empty (d q : Nat) (M : n_M) (σ : n_S) (hM : RepC M σ) (hq : 1 ≤ q ∧ q ≤ 12) : n_Ct l (cw D ca ad ae Ex) d yX9_empty cX9_empty 1 none [.ref (ad 21 q)] σ (fun rv σ' => rv = none ∧ RepC (m_emp M q) σ') := by
  refine n_ofW (by decide) (Nat.le_of_ble_eq_true rfl) ?_
  intro p e s m below meth c hC
  have hd : cw_dom 21 q := hq
  have hb : cw_dom 24 (2 * q) := ⟨by omega, by omega⟩
  have hb2 : cw_dom 24 (2 * q + 1) := ⟨by omega, by omega⟩
  refine n_aload_n hC dX9_empty_0 rfl rfl ?_
  refine n_iconst (v := 0) hC dX9_empty_1 (by decide) ?_
  refine p21_depth hC (by first | assumption | exact rfl) wfX9_52 dX9_empty_2 ?_
  refine n_aload_n hC dX9_empty_5 rfl rfl ?_
  refine n_iconst (v := 0) hC dX9_empty_6 (by decide) ?_
  refine p21_returnDepth hC (by first | assumption | exact rfl) wfX9_55 dX9_empty_7 ?_
  refine n_aload_n hC dX9_empty_10 rfl rfl ?_
  refine g21_box hC (by first | assumption | exact rfl) wfX9_21 dX9_empty_11 ?_
  refine n_iconst (v := 0) hC dX9_empty_14 (by decide) ?_
  refine p24_size hC (by first | assumption | exact rfl) wfX9_58 dX9_empty_15 ?_
  refine n_aload_n hC dX9_empty_18 rfl rfl ?_
  refine g21_keys hC (by first | assumption | exact rfl) wfX9_25 dX9_empty_19 ?_
  refine n_iconst (v := 0) hC dX9_empty_22 (by decide) ?_
  refine p24_size hC (by first | assumption | exact rfl) wfX9_58 dX9_empty_23 ?_
  refine n_aload_n hC dX9_empty_26 rfl rfl ?_
  refine n_iconst (v := 0) hC dX9_empty_27 (by decide) ?_
  refine p21_next hC (by first | assumption | exact rfl) wfX9_39 dX9_empty_28 ?_
  refine n_aload_n hC dX9_empty_31 rfl rfl ?_
  refine n_iconst (v := 0) hC dX9_empty_32 (by decide) ?_
  refine p21_streak hC (by first | assumption | exact rfl) wfX9_59 dX9_empty_33 ?_
  refine n_aload_n hC dX9_empty_36 rfl rfl ?_
  refine n_iconst (v := 0) hC dX9_empty_37 (by decide) ?_
  refine p21_awaited hC (by first | assumption | exact rfl) wfX9_62 dX9_empty_38 ?_
  refine n_vret hC dX9_empty_41 ?_
  refine ⟨rfl, ?_⟩
  exact cu_7 (cu_8 (cu_5 (ce_2 (ce_2 (ce_1 (ce_0 hM hq) hq) hb) hb2) hq) hq) hq
theorem c_vanish (d q : Nat) (M : n_M) (σ : n_S) (hM : RepC M σ) (hq : 1 ≤ q ∧ q ≤ 12) (hp : m_pok M q) : n_Ct l (cw D ca ad ae Ex) (d + 1) yX9_vanish cX9_vanish 1 none [.ref (ad 21 q)] σ (fun rv σ' => rv = none ∧ RepC (m_van M q) σ') := by
  refine n_ofW (by decide) (Nat.le_of_ble_eq_true rfl) ?_
  intro p e s m below meth c hC
  have hd : cw_dom 21 q := hq
  refine n_aload_n hC dX9_vanish_0 rfl rfl ?_
  refine n_callV hC (c_empty d q M σ hM hq) (Nat.le_refl _) (by decide) (by first | assumption | exact rfl) rfl rfl rfl ⟨wmX9_65, wi_yX9_empty, wv_yX9_empty, wzX9, wc_yX9_empty⟩ hy_yX9_empty rfl (Nat.le_of_ble_eq_true rfl) dX9_vanish_1 (fun rv σ' hpo => ?_)
  obtain ⟨rfl, hM1⟩ := hpo
  have e1 : σ' 21 q 11 = M.1 4 q := hM1.1 4 q hq
  refine n_aload_n hC dX9_vanish_4 rfl rfl ?_
  refine g21_program hC (by first | assumption | exact rfl) wfX9_35 dX9_vanish_5 ?_
  rw [e1]
  have fin : ∀ (M2 : n_M) (σ2 : n_S), RepC M2 σ2 → n_W p l e s m [Value.ref (ad 21 q)].toArray below meth c (cw D ca ad ae Ex) (d + 1) (fun rv σ' => rv = none ∧ RepC (m_s (m_s (m_s (m_s (m_s (m_s M2 4 q 0) 0 q 0) 1 q 0) 2 q 0) 3 q 0) 6 q 0) σ') 24 [some (.ref (ad 21 q))] [] σ2 := by
    intro M2 σ2 h2
    refine n_aload_n hC dX9_vanish_24 rfl rfl ?_
    refine n_null hC dX9_vanish_25 ?_
    refine p21_program hC (x := 0) (cw_pg_0 ad).symm hd wfX9_35 dX9_vanish_26 ?_
    refine n_aload_n hC dX9_vanish_29 rfl rfl ?_
    refine n_iconst (v := 0) hC dX9_vanish_30 (by decide) ?_
    refine p21_status hC (by first | assumption | exact rfl) wfX9_32 dX9_vanish_31 ?_
    refine n_aload_n hC dX9_vanish_34 rfl rfl ?_
    refine n_iconst (v := 0) hC dX9_vanish_35 (by decide) ?_
    refine p21_code hC (by first | assumption | exact rfl) wfX9_71 dX9_vanish_36 ?_
    refine n_aload_n hC dX9_vanish_39 rfl rfl ?_
    refine n_iconst (v := 0) hC dX9_vanish_40 (by decide) ?_
    refine p21_level hC (by first | assumption | exact rfl) wfX9_74 dX9_vanish_41 ?_
    refine n_aload_n hC dX9_vanish_44 rfl rfl ?_
    refine n_iconst (v := 0) hC dX9_vanish_45 (by decide) ?_
    refine p21_parent hC (by first | assumption | exact rfl) wfX9_77 dX9_vanish_46 ?_
    refine n_aload_n hC dX9_vanish_49 rfl rfl ?_
    refine n_iconst (v := 0) hC dX9_vanish_50 (by decide) ?_
    refine p21_done hC (by first | assumption | exact rfl) wfX9_80 dX9_vanish_51 ?_
    refine n_vret hC dX9_vanish_54 ?_
    exact ⟨rfl, cu_6 (cu_3 (cu_2 (cu_1 (cu_0 (cu_4 h2 hq) hq) hq) hq) hq) hq⟩
  rcases hp with h0 | ⟨i, hi, hp⟩
  · rw [h0, cw_pg_0]
    refine n_ifnullN (tgt := 24) hC dX9_vanish_8 (by decide) ?_
    have := fin (m_emp M q) σ' hM1
    unfold m_van m_usr
    rw [if_pos (show (m_emp M q).1 4 q = 0 from h0)]
    exact this
  · rw [hp, cw_pg_i ad hi]
    have hd2 : cw_dom 28 i := hi
    first | refine n_ifnull hC dX9_vanish_8 ?_ | refine n_ifnullN (tgt := 24) hC dX9_vanish_8 (by decide) ?_
    refine n_aload_n hC dX9_vanish_11 rfl rfl ?_
    refine g21_program hC (by first | assumption | exact rfl) wfX9_35 dX9_vanish_12 ?_
    rw [e1, hp, cw_pg_i ad hi]
    refine n_dup hC dX9_vanish_15 rfl ?_
    refine g28_users hC (by first | assumption | exact rfl) wfX9_68 dX9_vanish_16 ?_
    refine n_iconst (v := 1) hC dX9_vanish_19 (by decide) ?_
    refine n_isub hC dX9_vanish_20 ?_
    refine p28_users hC (by first | assumption | exact rfl) wfX9_68 dX9_vanish_21 ?_
    have hn0 : ¬ (m_emp M q).1 4 q = 0 := by
      show ¬ M.1 4 q = 0
      rw [hp]; exact nI_ne0 (by omega) (by omega)
    have hpi : m_pi (m_emp M q) q = i := m_pi_i (M := m_emp M q) hi hp
    have := fin (m_s (m_emp M q) 12 i ((m_emp M q).1 12 i - 1)) (n_up σ' 28 i 3 (σ' 28 i 3 - 1)) (by
      have e9 : σ' 28 i 3 = (m_emp M q).1 12 i := hM1.1 12 i hi
      rw [e9]
      exact cu_12 hM1 hi)
    unfold m_van m_usr
    rw [if_neg hn0, hpi]
    exact this
end UP1
