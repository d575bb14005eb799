def CT (B : List Int32) (σ : n_S) : Prop := σ 1 0 1 = nI B.length ∧ B.length ≤ 8192 ∧ ∀ j, j < B.length → σ 2 0 j = B.getD j 0
def BY (B : List Int32) : Prop := ∀ j, j < B.length → (B.getD j 0).toInt8.toInt32 = B.getD j 0
theorem i8_all (y : Int8) : ∃ n, n < 256 ∧ y = Int8.ofNat n := by
  refine ⟨y.toBitVec.toNat, y.toBitVec.isLt, ?_⟩
  apply Int8.toBitVec_inj.mp
  rw [Int8.toBitVec_ofNat']
  simp
theorem i8_and : ∀ n, n < 256 → ((Int8.ofNat n).toInt32 &&& 255 < 128 → (Int8.ofNat n).toInt32 = (Int8.ofNat n).toInt32 &&& 255) := by decide +kernel
theorem by_eq {x : Int32} (h : x.toInt8.toInt32 = x) {t : Nat} (ht : t < 128) : x = nI t ↔ x &&& 255 = nI t := by
  constructor
  · intro e
    rw [e]
    exact (ch_and t ht).1
  · intro e
    obtain ⟨n, hn, e2⟩ := i8_all x.toInt8
    rw [e2] at h
    rw [← h] at e ⊢
    rw [i8_and n hn (by rw [e]; exact nI_lt (b := 128) ht (by omega)), e]
section CT9
variable {St : Type} {p : Program} {l : Launch} {e : Env} {s : State} {m : MethodId} {args : Array Value} {below : List Frame} {meth : Method} {c : Code} {w : n_Wd St} {d : Nat} {Po : Option Value → St → Prop} {cc : ByteArray} {nL : Nat} {own : String} {ret : Option FieldType}
variable {pc : Nat} {ls : List (Option Value)} {rest : List Value} {σ : St}
theorem n_aast (hC : n_C p s m args meth c w cc nL own ret) {κ i t0 n v : Nat} {cA : ClassId} {C : String} {f : Nat → Option Nat} {j : Int32} (σ' : St) (hi : n_cnt w κ i) (he : n_en w κ i σ = .inl (cA, n, .inr (.inr (.inr (.inr f))))) (ht : (n_ty w)[t0]? = some (cA, .object C)) (hin : vp_in j n) (hr : ∀ (H : Heap) (locs : List Loc), va_S (n_A w) s.heap H locs → ∃ cell : Cell, H[v]? = some cell ∧ cell.vm.isStatics = false ∧ s.vm.findClass C = some cell.cls)
    (he' : n_en w κ i σ' = .inl (cA, n, .inr (.inr (.inr (.inr (va_up f j.toNatClampNeg (some v))))))) (ho : ∀ κ' i', n_cnt w κ' i' → ¬ (κ' = κ ∧ i' = i) → n_en w κ' i' σ' = n_en w κ' i' σ) (hdg : decode cc pc = .ok (.aastore, 1))
    (kk : n_W p l e s m args below meth c w d Po (pc + 1) ls rest σ') : n_W p l e s m args below meth c w d Po pc ls (.ref v :: .int j :: .ref (n_ad w κ i) :: rest) σ := by
  intro H locs la z1 z2 z3
  have hlt : j.toNatClampNeg < n := Nat.not_le.mp fun q => hin (Or.inr q)
  have h0 : ¬ j < 0 := fun q => hin (Or.inl q)
  have hat := z2 κ i hi
  rw [he] at hat
  obtain ⟨cellV, g1, g3, g2⟩ := hr H locs z3
  obtain ⟨kA, comp, k1, k2, k3, -⟩ := (hC.2.2.2.2.2.2.2.1.2 t0 _ ht).2
  obtain ⟨kE, hkE, -⟩ := Vm.findClass_spec k3
  obtain ⟨kC, hkC, -⟩ := Vm.findClass_spec g2
  refine W.aast hC.1 hC.2.1 hat (fun q h => by cases h) (fun h => by cases h) k1 k2 rfl hkE ⟨h0, by show _ < (arrV _ _ _).slots.size; rw [arrV_size]; exact hlt⟩ g1 (fun q h => by rw [h] at g3; cases g3) hkC (vb_asgS _ _ k3 g2) rfl rfl hdg fun H1 e1 z oq => ?_
  refine kk H1 _ la z1 (z2.set hC.2.2.2.2.2.2.2.2.2.1 hi ?_ oq ho) (z3.put z oq (n_A.in hi))
  rw [he']
  show H1[n_ad w κ i]? = some (vp_cell _ _)
  rw [e1, vp_cell_q, vp_cell_q, arrV_store]
  congr 2
  funext q
  by_cases hq : q = j.toNatClampNeg
  · subst hq
    simp [updV, va_up, va_rf]
  · simp [updV, va_up, hq]
end CT9
section CT0
variable {p : Program} {l : Launch} {e : Env} {s : State} {m : MethodId} {args : Array Value} {below : List Frame} {meth : Method} {c : Code} {D : va_G} {ca : Nat → ClassId} {ad : Nat → Nat → Nat} {ae : Nat → Nat} {ts : Nat} {Ex : State → Heap → Prop} {d : Nat} {Po : Option Value → n_S → Prop} {cc : ByteArray} {nL : Nat} {own : String} {ret : Option FieldType}
variable {pc : Nat} {ls : List (Option Value)} {rest : List Value} {σ : n_S} {i j k : Nat}
theorem c_aast (hC : n_C p s m args meth c (cw D ca ad ae Ex) cc nL own ret) (hX : ∀ U H, Ex U H → cE ad ae ts U H) (hi : i < 12) (hk : k < 43) (hj : j < 256) (hdg : decode cc pc = .ok (.aastore, 1)) (kk : n_W p l e s m args below meth c (cw D ca ad ae Ex) d Po (pc + 1) ls rest (n_up σ 29 i j (nI (k + 1)))) : n_W p l e s m args below meth c (cw D ca ad ae Ex) d Po pc ls (.ref (ae k) :: .int (nI j) :: .ref (ad 29 i) :: rest) σ := by
  have hE := hX _ _ hC.2.2.2.2.2.2.2.2.1
  have e2 : cw_op ae (nI (k + 1)) = some (ae k) := by
    unfold cw_op
    rw [if_neg (nI_ne0 (by omega) (by omega)), nI_clamp (by omega)]
    rfl
  refine n_aast hC (κ := 29) (i := i) (t0 := 7) (C := "ShareMonitor$Op") (n := 256) (f := fun j => cw_op ae (σ 29 i j)) (n_up σ 29 i j (nI (k + 1))) hi rfl rfl (vp_in_nI hj (by decide)) (fun H locs z => va_recvE hE.1 (show k < cE_nm.length from hk) z) ?_ (fun κ' i' _ h => cw_ho 29 i _ _ κ' i' h) hdg kk
  rw [nI_clamp (by omega)]
  have e3 : (fun j' => cw_op ae (n_up σ 29 i j (nI (k + 1)) 29 i j')) = va_up (fun j => cw_op ae (σ 29 i j)) j (some (ae k)) := by
    funext q
    rw [n_up_at]
    by_cases hq : q = j
    · subst hq
      simp [upd, va_up, e2]
    · simp [upd, va_up, hq]
  exact congrArg (fun f => (.inl (ca 7, 256, .inr (.inr (.inr (.inr f)))) : va_E)) e3
end CT0
section CT1
variable {l : Launch} {D : va_G} {ca : Nat → ClassId} {ad : Nat → Nat → Nat} {ae sk sv : Nat → Nat} {ta sf ts : Nat} {Ex : State → Heap → Prop}
theorem c_at (d k : Nat) (B : List Int32) (σ : n_S) (hB : CT B σ) (hk : k < 2 ^ 31) : n_Ct l (cw D ca ad ae Ex) d yX8_at cX8_at 2 (some .int) [.ref (ad 1 0), .int (nI k)] σ (fun rv σ' => rv = some (.int (b_at B k)) ∧ σ' = σ) := by
  obtain ⟨e1, h1, h3⟩ := hB
  refine n_ofW (by decide) (Nat.le_of_ble_eq_true rfl) ?_
  intro p e s m below meth c hC
  refine n_iload_n hC dX8_at_0 rfl rfl ?_
  refine n_if_lt (tgt := 25) hC dX8_at_1 (by decide) (fun h => ?_) (fun h => ?_)
  · exact absurd h (nI_pos hk)
  · clear h
    refine n_iload_n hC dX8_at_4 rfl rfl ?_
    refine n_aload_n hC dX8_at_5 rfl rfl ?_
    refine g1_length hC (by first | exact rfl | with_reducible assumption) wfX8_15 dX8_at_6 ?_
    rw [e1]
    refine n_icmp_ge (tgt := 25) hC dX8_at_9 (by decide) (fun h => ?_) (fun h => ?_)
    · have hge : ¬ k < B.length := by
        have := (nI_leI (by omega) hk).mp h
        omega
      rw [b_at_ge hge]
      refine n_iconst (v := -1) hC dX8_at_25 (by decide) ?_
      refine n_iret hC dX8_at_26 ?_
      exact ⟨rfl, rfl⟩
    · have hlt : k < B.length := by
        rcases Nat.lt_or_ge k B.length with z | z
        · exact z
        · exact absurd (nI_le z hk) h
      rw [b_at_lt hlt]
      refine n_aload_n hC dX8_at_12 rfl rfl ?_
      refine g1_bytes hC (by first | exact rfl | with_reducible assumption) wfX8_9 dX8_at_13 ?_
      refine n_iload_n hC dX8_at_16 rfl rfl ?_
      refine c_bald hC (by first | exact rfl | with_reducible assumption) (fun _ => rfl) (by first | exact vp_in_nI (by omega) (by decide) | with_reducible assumption) dX8_at_17 ?_
      rw [nI_clamp (by omega), h3 k hlt]
      refine n_sipush (v := 255) hC dX8_at_18 (by decide) ?_
      refine n_iand hC dX8_at_21 ?_
      refine n_goto (tgt := 26) hC dX8_at_22 (by decide) ?_
      refine n_iret hC dX8_at_26 ?_
      exact ⟨rfl, rfl⟩
theorem c_repeats (d a a' n : Nat) (B : List Int32) (σ : n_S) (hB : CT B σ) (h1 : a + n < 2 ^ 31) (h2 : a' + n < 2 ^ 31) : n_Ct l (cw D ca ad ae Ex) (d + 1) yX8_repeats cX8_repeats 5 (some .boolean) [.ref (ad 1 0), .int (nI a), .int (nI a'), .int (nI n)] σ (fun rv σ' => (((∀ i, i < n → b_at B (a + i) = b_at B (a' + i)) ∧ rv = some (.int 1)) ∨ ((¬ ∀ i, i < n → b_at B (a + i) = b_at B (a' + i)) ∧ rv = some (.int 0))) ∧ σ' = σ) := by
  refine n_ofW (by decide) (Nat.le_of_ble_eq_true rfl) ?_
  intro p e s m below meth c hC
  have loop : ∀ (t i : Nat), t + i = n → (∀ i', i' < i → b_at B (a + i') = b_at B (a' + i')) → n_W p l e s m [Value.ref (ad 1 0), Value.int (nI a), Value.int (nI a'), Value.int (nI n)].toArray below meth c (cw D ca ad ae Ex) (d + 1) (fun rv σ' => (((∀ i, i < n → b_at B (a + i) = b_at B (a' + i)) ∧ rv = some (.int 1)) ∨ ((¬ ∀ i, i < n → b_at B (a + i) = b_at B (a' + i)) ∧ rv = some (.int 0))) ∧ σ' = σ) 3 [some (.ref (ad 1 0)), some (.int (nI a)), some (.int (nI a')), some (.int (nI n)), some (.int (nI i))] [] σ := by
    intro t
    induction t with
    | zero =>
      intro i hi hall
      have : i = n := by omega
      subst this
      refine n_iload hC dX8_repeats_3 rfl ?_
      refine n_iload_n hC dX8_repeats_5 rfl rfl ?_
      refine n_icmp_ge (tgt := 36) hC dX8_repeats_6 (by decide) (fun h => ?_) (fun h => ?_)
      · refine n_iconst (v := 1) hC dX8_repeats_36 (by decide) ?_
        refine n_zret hC dX8_repeats_37 rfl ?_
        exact ⟨Or.inl ⟨hall, rfl⟩, rfl⟩
      · exact absurd (Int32.le_refl _) h
    | succ t ih =>
      intro i hi hall
      refine n_iload hC dX8_repeats_3 rfl ?_
      refine n_iload_n hC dX8_repeats_5 rfl rfl ?_
      refine n_icmp_ge (tgt := 36) hC dX8_repeats_6 (by decide) (fun h => ?_) (fun h => ?_)
      · exact absurd h (nI_ge (by omega) (by omega))
      · clear h
        refine n_aload_n hC dX8_repeats_9 rfl rfl ?_
        refine n_iload_n hC dX8_repeats_10 rfl rfl ?_
        refine n_iload hC dX8_repeats_11 rfl ?_
        refine n_iadd hC dX8_repeats_13 ?_
        rw [nI_add]
        refine n_callV hC (c_at d (a + i) B σ hB (by omega)) (Nat.le_refl _) (by decide) (by first | exact rfl | with_reducible assumption) rfl rfl rfl ⟨wmX8_28, wi_yX8_at, wv_yX8_at, wzX8, wc_yX8_at⟩ hy_yX8_at rfl (Nat.le_of_ble_eq_true rfl) dX8_repeats_14 (fun rv σ' hpo => ?_)
        obtain ⟨rfl, hσ⟩ := hpo
        rw [hσ]
        refine n_aload_n hC dX8_repeats_17 rfl rfl ?_
        refine n_iload_n hC dX8_repeats_18 rfl rfl ?_
        refine n_iload hC dX8_repeats_19 rfl ?_
        refine n_iadd hC dX8_repeats_21 ?_
        rw [nI_add]
        refine n_callV hC (c_at d (a' + i) B σ hB (by omega)) (Nat.le_refl _) (by decide) (by first | exact rfl | with_reducible assumption) rfl rfl rfl ⟨wmX8_28, wi_yX8_at, wv_yX8_at, wzX8, wc_yX8_at⟩ hy_yX8_at rfl (Nat.le_of_ble_eq_true rfl) dX8_repeats_22 (fun rv σ' hpo => ?_)
        obtain ⟨rfl, hσ⟩ := hpo
        rw [hσ]
        refine n_icmp_eq (tgt := 30) hC dX8_repeats_25 (by decide) (fun h => ?_) (fun h => ?_)
        · refine n_iinc hC dX8_repeats_30 rfl (show _ + Int32.ofInt 1 = _ + 1 from rfl) ?_
          refine n_goto (tgt := 3) hC dX8_repeats_33 (by decide) ?_
          rw [nI_1]
          refine ih (i + 1) (by omega) (fun i' u => ?_)
          by_cases z : i' = i
          · rw [z]; exact h
          · exact hall i' (by omega)
        · refine n_iconst (v := 0) hC dX8_repeats_28 (by decide) ?_
          refine n_zret hC dX8_repeats_29 rfl ?_
          exact ⟨Or.inr ⟨fun z => h (z i (by omega)), rfl⟩, rfl⟩
  refine n_iconst (v := 0) hC dX8_repeats_0 (by decide) ?_
  refine n_istore hC dX8_repeats_1 (Nat.le_of_ble_eq_true rfl) ?_
  exact loop n 0 (by omega) (fun i' u => by omega)
theorem c_says (hS : ∀ U H, Ex U H → sX ad ae sk sv ta sf U H) (d k s0 e0 : Nat) (B : List Int32) (σ : n_S) (hB : CT B σ) (hY : BY B) (hk : k < 43) (hse : s0 ≤ e0) (he : e0 ≤ B.length) : n_Ct l (cw D ca ad ae Ex) (d + 4) yX8_says cX8_says 5 (some .boolean) [.ref (ad 1 0), .ref (sk k), .int (nI s0), .int (nI e0)] σ (fun rv σ' => ((p_is B s0 (e0 - s0) k ∧ rv = some (.int 1)) ∨ (¬ p_is B s0 (e0 - s0) k ∧ rv = some (.int 0))) ∧ σ' = σ) := by
  obtain ⟨e1, h1, h3⟩ := hB
  have hl8 := p_tx_l8 k hk
  refine n_ofW (by decide) (Nat.le_of_ble_eq_true rfl) ?_
  intro p e s m below meth c hC
  have hE := hS _ _ hC.2.2.2.2.2.2.2.2.1
  have no22 : ∀ w : Option Value, ¬ p_is B s0 (e0 - s0) k → n_W p l e s m [Value.ref (ad 1 0), Value.ref (sk k), Value.int (nI s0), Value.int (nI e0)].toArray below meth c (cw D ca ad ae Ex) (d + 4) (fun rv σ' => ((p_is B s0 (e0 - s0) k ∧ rv = some (.int 1)) ∨ (¬ p_is B s0 (e0 - s0) k ∧ rv = some (.int 0))) ∧ σ' = σ) 22 [some (.ref (ad 1 0)), some (.ref (sk k)), some (.int (nI s0)), some (.int (nI e0)), w] [] σ := by
    intro w hn
    refine n_iconst (v := 0) hC dX8_says_22 (by decide) ?_
    refine n_zret hC dX8_says_23 rfl ?_
    exact ⟨Or.inr ⟨hn, rfl⟩, rfl⟩
  have loop : e0 - s0 = (p_tx k).length → ∀ (t i : Nat), t + i = (p_tx k).length → (∀ i', i' < i → b_at B (s0 + i') = nI ((p_tx k).getD i' 0)) → n_W p l e s m [Value.ref (ad 1 0), Value.ref (sk k), Value.int (nI s0), Value.int (nI e0)].toArray below meth c (cw D ca ad ae Ex) (d + 4) (fun rv σ' => ((p_is B s0 (e0 - s0) k ∧ rv = some (.int 1)) ∨ (¬ p_is B s0 (e0 - s0) k ∧ rv = some (.int 0))) ∧ σ' = σ) 27 [some (.ref (ad 1 0)), some (.ref (sk k)), some (.int (nI s0)), some (.int (nI e0)), some (.int (nI i))] [] σ := by
    intro hlen t
    induction t with
    | zero =>
      intro i hi hall
      refine n_iload hC dX8_says_27 rfl ?_
      refine n_aload_n hC dX8_says_29 rfl rfl ?_
      refine n_callR hC (As := []) (c_length hS (d + 2) k σ hk) (Nat.le_refl _) (by decide) (s_rcv hE hk) ⟨wmX8_19, wi_yJ0_length_8abf5, wv_yJ0_length_8abf5, wzJ0, wc_yJ0_length_8abf5⟩ hy_yJ0_length_8abf5 rfl (Nat.le_of_ble_eq_true rfl) dX8_says_30 (fun rv σ' hpo => ?_)
      obtain ⟨rfl, hσ⟩ := hpo
      rw [hσ]
      refine n_icmp_ge (tgt := 62) hC dX8_says_33 (by decide) (fun h => ?_) (fun h => ?_)
      · refine n_iconst (v := 1) hC dX8_says_62 (by decide) ?_
        refine n_zret hC dX8_says_63 rfl ?_
        exact ⟨Or.inl ⟨⟨hlen, fun i' hi' => hall i' (by omega)⟩, rfl⟩, rfl⟩
      · exact absurd (nI_le (by omega) (by omega)) h
    | succ t ih =>
      intro i hi hall
      have hx := h3 (s0 + i) (by omega)
      have hb := p_tx_b2 hk (show i < (p_tx k).length by omega)
      have hq := by_eq (hY (s0 + i) (by omega)) hb
      refine n_iload hC dX8_says_27 rfl ?_
      refine n_aload_n hC dX8_says_29 rfl rfl ?_
      refine n_callR hC (As := []) (c_length hS (d + 2) k σ hk) (Nat.le_refl _) (by decide) (s_rcv hE hk) ⟨wmX8_19, wi_yJ0_length_8abf5, wv_yJ0_length_8abf5, wzJ0, wc_yJ0_length_8abf5⟩ hy_yJ0_length_8abf5 rfl (Nat.le_of_ble_eq_true rfl) dX8_says_30 (fun rv σ' hpo => ?_)
      obtain ⟨rfl, hσ⟩ := hpo
      rw [hσ]
      refine n_icmp_ge (tgt := 62) hC dX8_says_33 (by decide) (fun h => ?_) (fun h => ?_)
      · exact absurd h (nI_ge (by omega) (by omega))
      · clear h
        refine n_aload_n hC dX8_says_36 rfl rfl ?_
        refine g1_bytes hC (by first | exact rfl | with_reducible assumption) wfX8_9 dX8_says_37 ?_
        refine n_iload_n hC dX8_says_40 rfl rfl ?_
        refine n_iload hC dX8_says_41 rfl ?_
        refine n_iadd hC dX8_says_43 ?_
        rw [nI_add]
        refine c_bald hC (by first | exact rfl | with_reducible assumption) (fun _ => rfl) (by first | exact vp_in_nI (by omega) (by decide) | with_reducible assumption) dX8_says_44 ?_
        rw [nI_clamp (by omega), hx]
        refine n_aload_n hC dX8_says_45 rfl rfl ?_
        refine n_iload hC dX8_says_46 rfl ?_
        refine n_callR hC (As := [.int (nI i)]) (c_charAt hS d k i σ hk (by omega)) (Nat.le_refl _) (by decide) (s_rcv hE hk) ⟨wmX8_24, wi_yJ0_charAt_5068e, wv_yJ0_charAt_5068e, wzJ0, wc_yJ0_charAt_5068e⟩ hy_yJ0_charAt_5068e rfl (Nat.le_of_ble_eq_true rfl) dX8_says_48 (fun rv σ' hpo => ?_)
        obtain ⟨rfl, hσ⟩ := hpo
        rw [hσ]
        refine n_icmp_eq (tgt := 56) hC dX8_says_51 (by decide) (fun h => ?_) (fun h => ?_)
        · have hb2 : b_at B (s0 + i) = nI ((p_tx k).getD i 0) := by
            rw [b_at_lt (by omega)]
            exact hq.mp h
          refine n_iinc hC dX8_says_56 rfl (show _ + Int32.ofInt 1 = _ + 1 from rfl) ?_
          refine n_goto (tgt := 27) hC dX8_says_59 (by decide) ?_
          rw [nI_1]
          refine ih (i + 1) (by omega) (fun i' u => ?_)
          by_cases z : i' = i
          · rw [z]; exact hb2
          · exact hall i' (by omega)
        · refine n_iconst (v := 0) hC dX8_says_54 (by decide) ?_
          refine n_zret hC dX8_says_55 rfl ?_
          refine ⟨Or.inr ⟨fun z => h ?_, rfl⟩, rfl⟩
          have := z.2 i (by omega)
          rw [b_at_lt (by omega)] at this
          exact hq.mpr this
  refine n_iload_n hC dX8_says_0 rfl rfl ?_
  refine n_iload_n hC dX8_says_1 rfl rfl ?_
  refine n_isub hC dX8_says_2 ?_
  rw [nI_subL hse]
  refine n_aload_n hC dX8_says_3 rfl rfl ?_
  refine n_callR hC (As := []) (c_length hS (d + 2) k σ hk) (Nat.le_refl _) (by decide) (s_rcv hE hk) ⟨wmX8_19, wi_yJ0_length_8abf5, wv_yJ0_length_8abf5, wzJ0, wc_yJ0_length_8abf5⟩ hy_yJ0_length_8abf5 rfl (Nat.le_of_ble_eq_true rfl) dX8_says_4 (fun rv σ' hpo => ?_)
  obtain ⟨rfl, hσ⟩ := hpo
  rw [hσ]
  refine n_icmp_ne (tgt := 22) hC dX8_says_7 (by decide) (fun h => ?_) (fun h => ?_)
  · exact no22 _ (fun z => h (by rw [z.1]))
  · have hlen : e0 - s0 = (p_tx k).length := (nI_eq (by omega) (by omega)).mp h
    clear h
    refine n_iload_n hC dX8_says_10 rfl rfl ?_
    refine n_if_lt (tgt := 22) hC dX8_says_11 (by decide) (fun h => ?_) (fun h => ?_)
    · exact absurd h (nI_pos (by omega))
    · clear h
      refine n_iload_n hC dX8_says_14 rfl rfl ?_
      refine n_aload_n hC dX8_says_15 rfl rfl ?_
      refine g1_length hC (by first | exact rfl | with_reducible assumption) wfX8_15 dX8_says_16 ?_
      rw [e1]
      refine n_icmp_le (tgt := 24) hC dX8_says_19 (by decide) (fun h => ?_) (fun h => ?_)
      · refine n_iconst (v := 0) hC dX8_says_24 (by decide) ?_
        refine n_istore hC dX8_says_25 (Nat.le_of_ble_eq_true rfl) ?_
        exact loop hlen (p_tx k).length 0 (by omega) (fun i' u => by omega)
      · exact absurd (nI_le he (by omega)) h
theorem c_written (hS : ∀ U H, Ex U H → sX ad ae sk sv ta sf U H) (d s0 e0 : Nat) (B : List Int32) (σ : n_S) (hB : CT B σ) (hY : BY B) (hse : s0 < e0) (he : e0 ≤ B.length) : n_Ct l (cw D ca ad ae Ex) (d + 5) yX4_written cX4_written 4 (some (.object "ShareMonitor$Op")) [.ref (ad 1 0), .int (nI s0), .int (nI e0)] σ (fun rv σ' => ((∃ k, p_opc B s0 (e0 - s0) k ∧ rv = some (.ref (ae k))) ∨ ((¬ ∃ k, p_opc B s0 (e0 - s0) k) ∧ rv = some .null)) ∧ σ' = σ) := by
  refine n_ofW (by decide) (Nat.le_of_ble_eq_true rfl) ?_
  intro p e s m below meth c hC
  have hE := hS _ _ hC.2.2.2.2.2.2.2.2.1
  have loop : ∀ (t i : Nat), t + i = 43 → (∀ i', i' < i → ¬ p_is B s0 (e0 - s0) i') → n_W p l e s m [Value.ref (ad 1 0), Value.int (nI s0), Value.int (nI e0)].toArray below meth c (cw D ca ad ae Ex) (d + 5) (fun rv σ' => ((∃ k, p_opc B s0 (e0 - s0) k ∧ rv = some (.ref (ae k))) ∨ ((¬ ∃ k, p_opc B s0 (e0 - s0) k) ∧ rv = some .null)) ∧ σ' = σ) 2 [some (.ref (ad 1 0)), some (.int (nI s0)), some (.int (nI e0)), some (.int (nI i))] [] σ := by
    intro t
    induction t with
    | zero =>
      intro i hi hall
      have : i = 43 := by omega
      subst this
      refine n_iload_n hC dX4_written_2 rfl rfl ?_
      refine s_gs hC hE.1 wfX4_168 dX4_written_3 ?_
      refine s_len hC hE.2.1 dX4_written_6 ?_
      refine n_icmp_ge (tgt := 39) hC dX4_written_7 (by decide) (fun h => ?_) (fun h => ?_)
      · refine n_null hC dX4_written_39 ?_
        refine n_aret hC (by first | exact Or.inl rfl | exact Or.inr ⟨_, rfl⟩) dX4_written_40 ?_
        exact ⟨Or.inr ⟨fun ⟨k, k1, k2, k3⟩ => hall k k1 k3, rfl⟩, rfl⟩
      · exact absurd (Int32.le_refl _) h
    | succ t ih =>
      intro i hi hall
      have hi43 : i < 43 := by omega
      refine n_iload_n hC dX4_written_2 rfl rfl ?_
      refine s_gs hC hE.1 wfX4_168 dX4_written_3 ?_
      refine s_len hC hE.2.1 dX4_written_6 ?_
      refine n_icmp_ge (tgt := 39) hC dX4_written_7 (by decide) (fun h => ?_) (fun h => ?_)
      · exact absurd h (nI_ge (by omega) (by omega))
      · clear h
        refine n_aload_n hC dX4_written_10 rfl rfl ?_
        refine s_gs hC hE.1 wfX4_168 dX4_written_11 ?_
        refine n_iload_n hC dX4_written_14 rfl rfl ?_
        refine s_aa hC hE.2.1 hi43 (by decide) dX4_written_15 ?_
        refine s_gf hC (hE.2.2.1 i hi43) wfX4_154 dX4_written_16 ?_
        refine n_iload_n hC dX4_written_19 rfl rfl ?_
        refine n_iload_n hC dX4_written_20 rfl rfl ?_
        refine n_callV hC (c_says hS d i s0 e0 B σ hB hY hi43 (by omega) he) (Nat.le_refl _) (by decide) (by first | exact rfl | with_reducible assumption) rfl rfl rfl ⟨wmX4_171, wi_yX8_says, wv_yX8_says, wzX8, wc_yX8_says⟩ hy_yX8_says rfl (Nat.le_of_ble_eq_true rfl) dX4_written_21 (fun rv σ' hpo => ?_)
        obtain ⟨hpo, hσ⟩ := hpo
        rw [hσ]
        rcases hpo with ⟨q, rfl⟩ | ⟨q, rfl⟩
        · have hi1 : 1 ≤ i := by
            rcases Nat.eq_zero_or_pos i with z | z
            · rw [z] at q
              have := q.1
              have e0' : (p_tx 0).length = 0 := rfl
              omega
            · exact z
          refine n_if_eq (tgt := 33) hC dX4_written_24 (by decide) (fun h => ?_) (fun h => ?_)
          · exact absurd h (by decide)
          · refine s_gs hC hE.1 wfX4_168 dX4_written_27 ?_
            refine n_iload_n hC dX4_written_30 rfl rfl ?_
            refine s_aa hC hE.2.1 hi43 (by decide) dX4_written_31 ?_
            refine n_aret hC (by first | exact Or.inl rfl | exact Or.inr ⟨_, rfl⟩) dX4_written_32 ?_
            exact ⟨Or.inl ⟨i, ⟨hi43, hi1, q⟩, rfl⟩, rfl⟩
        · refine n_if_eq (tgt := 33) hC dX4_written_24 (by decide) (fun h => ?_) (fun h => ?_)
          · refine n_iinc hC dX4_written_33 rfl (show _ + Int32.ofInt 1 = _ + 1 from rfl) ?_
            refine n_goto (tgt := 2) hC dX4_written_36 (by decide) ?_
            rw [nI_1]
            refine ih (i + 1) (by omega) (fun i' u => ?_)
            by_cases z : i' = i
            · rw [z]; exact q
            · exact hall i' (by omega)
          · exact absurd rfl h
  refine n_iconst (v := 0) hC dX4_written_0 (by decide) ?_
  refine n_istore_n hC dX4_written_1 rfl (Nat.le_of_ble_eq_true rfl) ?_
  exact loop 43 0 (by omega) (fun i' u => by omega)
theorem c_hasName (hX : ∀ U H, Ex U H → cE ad ae ts U H) (d k : Nat) (hk : k < 43) (σ : n_S) : n_Ct l (cw D ca ad ae Ex) d yX4_hasName cX4_hasName 1 (some .boolean) [.ref (ae k)] σ (fun rv σ' => ((p_hn k ∧ rv = some (.int 1)) ∨ (¬ p_hn k ∧ rv = some (.int 0))) ∧ σ' = σ) := by
  refine n_ofW (by decide) (Nat.le_of_ble_eq_true rfl) ?_
  intro p e s m below meth c hC
  have yes : p_hn k → n_W p l e s m [Value.ref (ae k)].toArray below meth c (cw D ca ad ae Ex) d (fun rv σ' => ((p_hn k ∧ rv = some (.int 1)) ∨ (¬ p_hn k ∧ rv = some (.int 0))) ∧ σ' = σ) 28 [some (.ref (ae k))] [] σ := by
    intro hn
    refine n_iconst (v := 1) hC dX4_hasName_28 (by decide) ?_
    refine n_goto (tgt := 33) hC dX4_hasName_29 (by decide) ?_
    refine n_zret hC dX4_hasName_33 rfl ?_
    exact ⟨Or.inl ⟨hn, rfl⟩, rfl⟩
  by_cases z1 : k = 20
  · subst z1
    refine n_aload_n hC dX4_hasName_0 rfl rfl ?_
    refine e_gs hC hX (k := 20) (by decide) wfX4_66 dX4_hasName_1 ?_
    first | refine e_aceq_t (tgt := 28) hC dX4_hasName_4 (by decide) ?_ | refine e_aceq_f (tgt := 28) hC hX (by omega) (by omega) (by omega) dX4_hasName_4 (by decide) ?_
    exact yes (by decide)
  · by_cases z2 : k = 21
    · subst z2
      refine n_aload_n hC dX4_hasName_0 rfl rfl ?_
      refine e_gs hC hX (k := 20) (by decide) wfX4_66 dX4_hasName_1 ?_
      first | refine e_aceq_t (tgt := 28) hC dX4_hasName_4 (by decide) ?_ | refine e_aceq_f (tgt := 28) hC hX (by omega) (by omega) (by omega) dX4_hasName_4 (by decide) ?_
      refine n_aload_n hC dX4_hasName_7 rfl rfl ?_
      refine e_gs hC hX (k := 21) (by decide) wfX4_69 dX4_hasName_8 ?_
      first | refine e_aceq_t (tgt := 28) hC dX4_hasName_11 (by decide) ?_ | refine e_aceq_f (tgt := 28) hC hX (by omega) (by omega) (by omega) dX4_hasName_11 (by decide) ?_
      exact yes (by decide)
    · by_cases z3 : k = 22
      · subst z3
        refine n_aload_n hC dX4_hasName_0 rfl rfl ?_
        refine e_gs hC hX (k := 20) (by decide) wfX4_66 dX4_hasName_1 ?_
        first | refine e_aceq_t (tgt := 28) hC dX4_hasName_4 (by decide) ?_ | refine e_aceq_f (tgt := 28) hC hX (by omega) (by omega) (by omega) dX4_hasName_4 (by decide) ?_
        refine n_aload_n hC dX4_hasName_7 rfl rfl ?_
        refine e_gs hC hX (k := 21) (by decide) wfX4_69 dX4_hasName_8 ?_
        first | refine e_aceq_t (tgt := 28) hC dX4_hasName_11 (by decide) ?_ | refine e_aceq_f (tgt := 28) hC hX (by omega) (by omega) (by omega) dX4_hasName_11 (by decide) ?_
        refine n_aload_n hC dX4_hasName_14 rfl rfl ?_
        refine e_gs hC hX (k := 22) (by decide) wfX4_72 dX4_hasName_15 ?_
        first | refine e_aceq_t (tgt := 28) hC dX4_hasName_18 (by decide) ?_ | refine e_aceq_f (tgt := 28) hC hX (by omega) (by omega) (by omega) dX4_hasName_18 (by decide) ?_
        exact yes (by decide)
      · by_cases z4 : k = 34
        · subst z4
          refine n_aload_n hC dX4_hasName_0 rfl rfl ?_
          refine e_gs hC hX (k := 20) (by decide) wfX4_66 dX4_hasName_1 ?_
          first | refine e_aceq_t (tgt := 28) hC dX4_hasName_4 (by decide) ?_ | refine e_aceq_f (tgt := 28) hC hX (by omega) (by omega) (by omega) dX4_hasName_4 (by decide) ?_
          refine n_aload_n hC dX4_hasName_7 rfl rfl ?_
          refine e_gs hC hX (k := 21) (by decide) wfX4_69 dX4_hasName_8 ?_
          first | refine e_aceq_t (tgt := 28) hC dX4_hasName_11 (by decide) ?_ | refine e_aceq_f (tgt := 28) hC hX (by omega) (by omega) (by omega) dX4_hasName_11 (by decide) ?_
          refine n_aload_n hC dX4_hasName_14 rfl rfl ?_
          refine e_gs hC hX (k := 22) (by decide) wfX4_72 dX4_hasName_15 ?_
          first | refine e_aceq_t (tgt := 28) hC dX4_hasName_18 (by decide) ?_ | refine e_aceq_f (tgt := 28) hC hX (by omega) (by omega) (by omega) dX4_hasName_18 (by decide) ?_
          refine n_aload_n hC dX4_hasName_21 rfl rfl ?_
          refine e_gs hC hX (k := 34) (by decide) wfX4_108 dX4_hasName_22 ?_
          first | refine e_acne_f (tgt := 32) hC dX4_hasName_25 (by decide) ?_ | refine e_acne_t (tgt := 32) hC hX (by omega) (by omega) (by omega) dX4_hasName_25 (by decide) ?_
          exact yes (by decide)
        · refine n_aload_n hC dX4_hasName_0 rfl rfl ?_
          refine e_gs hC hX (k := 20) (by decide) wfX4_66 dX4_hasName_1 ?_
          first | refine e_aceq_t (tgt := 28) hC dX4_hasName_4 (by decide) ?_ | refine e_aceq_f (tgt := 28) hC hX (by omega) (by omega) (by omega) dX4_hasName_4 (by decide) ?_
          refine n_aload_n hC dX4_hasName_7 rfl rfl ?_
          refine e_gs hC hX (k := 21) (by decide) wfX4_69 dX4_hasName_8 ?_
          first | refine e_aceq_t (tgt := 28) hC dX4_hasName_11 (by decide) ?_ | refine e_aceq_f (tgt := 28) hC hX (by omega) (by omega) (by omega) dX4_hasName_11 (by decide) ?_
          refine n_aload_n hC dX4_hasName_14 rfl rfl ?_
          refine e_gs hC hX (k := 22) (by decide) wfX4_72 dX4_hasName_15 ?_
          first | refine e_aceq_t (tgt := 28) hC dX4_hasName_18 (by decide) ?_ | refine e_aceq_f (tgt := 28) hC hX (by omega) (by omega) (by omega) dX4_hasName_18 (by decide) ?_
          refine n_aload_n hC dX4_hasName_21 rfl rfl ?_
          refine e_gs hC hX (k := 34) (by decide) wfX4_108 dX4_hasName_22 ?_
          first | refine e_acne_f (tgt := 32) hC dX4_hasName_25 (by decide) ?_ | refine e_acne_t (tgt := 32) hC hX (by omega) (by omega) (by omega) dX4_hasName_25 (by decide) ?_
          refine n_iconst (v := 0) hC dX4_hasName_32 (by decide) ?_
          refine n_zret hC dX4_hasName_33 rfl ?_
          exact ⟨Or.inr ⟨fun z => by rcases z with z | z | z | z <;> contradiction, rfl⟩, rfl⟩
theorem c6_isBlank (d : Nat) (x : Int32) (σ : n_S) : n_Ct l (cw D ca ad ae Ex) d yX6_isBlank cX6_isBlank 1 (some .boolean) [.int x] σ (fun rv σ' => ((p_bl x ∧ rv = some (.int 1)) ∨ (¬ p_bl x ∧ rv = some (.int 0))) ∧ σ' = σ) := by
  refine n_ofW (by decide) (Nat.le_of_ble_eq_true rfl) ?_
  intro p e s m below meth c hC
  have yes : p_bl x → n_W p l e s m [Value.int x].toArray below meth c (cw D ca ad ae Ex) d (fun rv σ' => ((p_bl x ∧ rv = some (.int 1)) ∨ (¬ p_bl x ∧ rv = some (.int 0))) ∧ σ' = σ) 24 [some (.int x)] [] σ := by
    intro hb
    refine n_iconst (v := 1) hC dX6_isBlank_24 (by decide) ?_
    refine n_goto (tgt := 29) hC dX6_isBlank_25 (by decide) ?_
    refine n_zret hC dX6_isBlank_29 rfl ?_
    exact ⟨Or.inl ⟨hb, rfl⟩, rfl⟩
  refine n_iload_n hC dX6_isBlank_0 rfl rfl ?_
  refine n_bipush (v := 9) hC dX6_isBlank_1 (by decide) ?_
  refine n_icmp_eq (tgt := 24) hC dX6_isBlank_3 (by decide) (fun h => ?_) (fun h => ?_)
  · exact yes (Or.inl h)
  · have h9 := h
    clear h
    refine n_iload_n hC dX6_isBlank_6 rfl rfl ?_
    refine n_bipush (v := 10) hC dX6_isBlank_7 (by decide) ?_
    refine n_icmp_eq (tgt := 24) hC dX6_isBlank_9 (by decide) (fun h => ?_) (fun h => ?_)
    · exact yes (Or.inr (Or.inl h))
    · have h10 := h
      clear h
      refine n_iload_n hC dX6_isBlank_12 rfl rfl ?_
      refine n_bipush (v := 13) hC dX6_isBlank_13 (by decide) ?_
      refine n_icmp_eq (tgt := 24) hC dX6_isBlank_15 (by decide) (fun h => ?_) (fun h => ?_)
      · exact yes (Or.inr (Or.inr (Or.inl h)))
      · have h13 := h
        clear h
        refine n_iload_n hC dX6_isBlank_18 rfl rfl ?_
        refine n_bipush (v := 32) hC dX6_isBlank_19 (by decide) ?_
        refine n_icmp_ne (tgt := 28) hC dX6_isBlank_21 (by decide) (fun h => ?_) (fun h => ?_)
        · refine n_iconst (v := 0) hC dX6_isBlank_28 (by decide) ?_
          refine n_zret hC dX6_isBlank_29 rfl ?_
          refine ⟨Or.inr ⟨fun z => ?_, rfl⟩, rfl⟩
          rcases z with z | z | z | z
          · exact h9 z
          · exact h10 z
          · exact h13 z
          · exact h z
        · exact yes (Or.inr (Or.inr (Or.inr h)))
theorem c6_isDigit (d : Nat) (x : Int32) (σ : n_S) : n_Ct l (cw D ca ad ae Ex) d yX6_isDigit cX6_isDigit 1 (some .boolean) [.int x] σ (fun rv σ' => ((p_dg x ∧ rv = some (.int 1)) ∨ (¬ p_dg x ∧ rv = some (.int 0))) ∧ σ' = σ) := by
  refine n_ofW (by decide) (Nat.le_of_ble_eq_true rfl) ?_
  intro p e s m below meth c hC
  refine n_iload_n hC dX6_isDigit_0 rfl rfl ?_
  refine n_bipush (v := 48) hC dX6_isDigit_1 (by decide) ?_
  refine n_icmp_lt (tgt := 16) hC dX6_isDigit_3 (by decide) (fun h => ?_) (fun h => ?_)
  · refine n_iconst (v := 0) hC dX6_isDigit_16 (by decide) ?_
    refine n_zret hC dX6_isDigit_17 rfl ?_
    exact ⟨Or.inr ⟨fun z => absurd z.1 (Int32.not_le.mpr h), rfl⟩, rfl⟩
  · have h0 := Int32.not_lt.mp h
    clear h
    refine n_iload_n hC dX6_isDigit_6 rfl rfl ?_
    refine n_bipush (v := 57) hC dX6_isDigit_7 (by decide) ?_
    refine n_icmp_gt (tgt := 16) hC dX6_isDigit_9 (by decide) (fun h => ?_) (fun h => ?_)
    · refine n_iconst (v := 0) hC dX6_isDigit_16 (by decide) ?_
      refine n_zret hC dX6_isDigit_17 rfl ?_
      exact ⟨Or.inr ⟨fun z => absurd z.2 (Int32.not_le.mpr h), rfl⟩, rfl⟩
    · refine n_iconst (v := 1) hC dX6_isDigit_12 (by decide) ?_
      refine n_goto (tgt := 17) hC dX6_isDigit_13 (by decide) ?_
      refine n_zret hC dX6_isDigit_17 rfl ?_
      exact ⟨Or.inl ⟨⟨h0, Int32.not_lt.mp h⟩, rfl⟩, rfl⟩
theorem c6_isLetter (d : Nat) (x : Int32) (σ : n_S) : n_Ct l (cw D ca ad ae Ex) d yX6_isLetter cX6_isLetter 1 (some .boolean) [.int x] σ (fun rv σ' => ((p_lt x ∧ rv = some (.int 1)) ∨ (¬ p_lt x ∧ rv = some (.int 0))) ∧ σ' = σ) := by
  refine n_ofW (by decide) (Nat.le_of_ble_eq_true rfl) ?_
  intro p e s m below meth c hC
  refine n_iload_n hC dX6_isLetter_0 rfl rfl ?_
  refine n_bipush (v := 97) hC dX6_isLetter_1 (by decide) ?_
  refine n_icmp_lt (tgt := 16) hC dX6_isLetter_3 (by decide) (fun h => ?_) (fun h => ?_)
  · refine n_iconst (v := 0) hC dX6_isLetter_16 (by decide) ?_
    refine n_zret hC dX6_isLetter_17 rfl ?_
    exact ⟨Or.inr ⟨fun z => absurd z.1 (Int32.not_le.mpr h), rfl⟩, rfl⟩
  · have h0 := Int32.not_lt.mp h
    clear h
    refine n_iload_n hC dX6_isLetter_6 rfl rfl ?_
    refine n_bipush (v := 122) hC dX6_isLetter_7 (by decide) ?_
    refine n_icmp_gt (tgt := 16) hC dX6_isLetter_9 (by decide) (fun h => ?_) (fun h => ?_)
    · refine n_iconst (v := 0) hC dX6_isLetter_16 (by decide) ?_
      refine n_zret hC dX6_isLetter_17 rfl ?_
      exact ⟨Or.inr ⟨fun z => absurd z.2 (Int32.not_le.mpr h), rfl⟩, rfl⟩
    · refine n_iconst (v := 1) hC dX6_isLetter_12 (by decide) ?_
      refine n_goto (tgt := 17) hC dX6_isLetter_13 (by decide) ?_
      refine n_zret hC dX6_isLetter_17 rfl ?_
      exact ⟨Or.inl ⟨⟨h0, Int32.not_lt.mp h⟩, rfl⟩, rfl⟩
end CT1
