/-- the instructions' row and their texts, as the machine holds them -/
def s_fv (n : Nat) : Value := match n with
  | 0 => .null
  | q + 1 => .ref q
def sX (ad : Nat → Nat → Nat) (ae sk sv : Nat → Nat) (ta sf : Nat) (U : State) (H : Heap) : Prop := va_Z "ShareMonitor$Op" "ALL" "[LShareMonitor$Op;" (.ref ta) (cw_A ad) U H ∧ va_T (.object "ShareMonitor$Op") ta 43 (fun j => .ref (ae j)) (cw_A ad) U H ∧ va_Ef 43 "ShareMonitor$Op" "text" "Ljava/lang/String;" (fun k => .ref (sk k)) ae (cw_A ad) U H ∧ (∀ i : Nat, i < 43 → va_O "java/lang/String" (sk i) (cw_A ad) U H ∧ va_OF "java/lang/String" "coder" "B" (.int 0) (sk i) (cw_A ad) U H ∧ va_OF "java/lang/String" "value" "[B" (.ref (sv i)) (sk i) (cw_A ad) U H ∧ va_T .byte (sv i) (p_tx i).length (fun j => .int (nI ((p_tx i).getD j 0))) (cw_A ad) U H) ∧ va_Z "java/lang/String" "COMPACT_STRINGS" "Z" (.int 1) (cw_A ad) U H ∧ va_Z "jdk/internal/util/Preconditions" "SIOOBE_FORMATTER" "Ljava/util/function/BiFunction;" (s_fv sf) (cw_A ad) U H
theorem sX_ok {ad : Nat → Nat → Nat} {ae sk sv : Nat → Nat} {ta sf : Nat} {u U : State} {H H1 : Heap} (hW : u.WarmedH U.vm) (hq : ∀ q : Nat, q < H.size → ¬ cw_A ad q → H1[q]? = H[q]?) (h : sX ad ae sk sv ta sf u H) : sX ad ae sk sv ta sf U H1 := by
  obtain ⟨h1, h2, h3, h4, h5, h6⟩ := h
  exact ⟨(va_Z.moved hW.alike h1).kept hq, (va_T.moved hW.alike h2).kept hq, fun i hi => (va_OF.moved hW.alike (h3 i hi)).kept hq, fun i hi => ⟨(va_O.moved hW.alike (h4 i hi).1).kept hq, (va_OF.moved hW.alike (h4 i hi).2.1).kept hq, (va_OF.moved hW.alike (h4 i hi).2.2.1).kept hq, (va_T.moved hW.alike (h4 i hi).2.2.2).kept hq⟩, (va_Z.moved hW.alike h5).kept hq, (va_Z.moved hW.alike h6).kept hq⟩
section SR0
variable {St : Type} {p : Program} {l : Launch} {e : Env} {s : State} {m : MethodId} {args : Array Value} {below : List Frame} {meth : Method} {c : Code} {w : n_Wd St} {d : Nat} {Po : Option Value → St → Prop} {cc : ByteArray} {nL : Nat} {own : String} {ret : Option FieldType}
variable {pc : Nat} {ls : List (Option Value)} {rest : List Value} {σ : St}
theorem n_tret {ty : FieldType} (hC : n_C p s m args meth c w cc nL own (some ty)) {v : Int32} (hdg : decode cc pc = .ok (.ireturn, 1)) (hn : narrow ty (.int v) = .int v) (hP : Po (some (.int v)) σ) : n_W p l e s m args below meth c w d Po pc ls [.int v] σ := by
  intro H locs la z1 z2 z3
  exact W.zret hC.1 hC.2.1 hC.2.2.2.2.2.1 hn (fun t ht _ => ⟨⟨_, _, rfl, hP, by rw [ht]; exact z2⟩, z3.F ht⟩) z3.2.2 hdg hC.2.2.2.2.2.2.1
theorem n_i2c (hC : n_C p s m args meth c w cc nL own ret) {x : Int32} {v : Int32} (hdg : decode cc pc = .ok (.i2c, 1)) (hv : (x.toUInt32 % 65536).toInt32 = v) (k : n_W p l e s m args below meth c w d Po (pc + 1) ls (.int v :: rest) σ) : n_W p l e s m args below meth c w d Po pc ls (.int x :: rest) σ := fun H locs la z1 z2 z3 => lv_i2c hC.1 hC.2.1 hdg hv (k H locs la z1 z2 z3)
theorem s_gs (hC : n_C p s m args meth c w cc nL own ret) {C n t : String} {v : Value} {ix : Nat} (hZ : va_Z C n t v (n_A w) s s.heap) (hw : Cond.fieldLink own ix C n t ∈ n_tb) (hdg : decode cc pc = .ok (.getstatic ix, 3)) (kk : n_W p l e s m args below meth c w d Po (pc + 3) ls (v :: rest) σ) : n_W p l e s m args below meth c w d Po pc ls rest σ := by
  intro H locs la z1 z2 z3
  exact va_gets hC.1 hC.2.1 hZ z3 hC.2.2.2.1 (hC.2.2.2.2.1 _ hw) (fun _ h => h) hdg (kk H locs la z1 z2 z3)
theorem s_gf (hC : n_C p s m args meth c w cc nL own ret) {C n t : String} {v : Value} {ix q : Nat} (hZ : va_OF C n t v q (n_A w) s s.heap) (hw : Cond.fieldLink own ix C n t ∈ n_tb) (hdg : decode cc pc = .ok (.getfield ix, 3)) (kk : n_W p l e s m args below meth c w d Po (pc + 3) ls (v :: rest) σ) : n_W p l e s m args below meth c w d Po pc ls (.ref q :: rest) σ := by
  intro H locs la z1 z2 z3
  exact vk_getf hC.1 hC.2.1 hZ z3 hC.2.2.2.1 (hC.2.2.2.2.1 _ hw) (fun _ h => h) hdg (kk H locs la z1 z2 z3)
theorem s_len (hC : n_C p s m args meth c w cc nL own ret) {ty : FieldType} {t N : Nat} {f : Nat → Value} (hT : va_T ty t N f (n_A w) s s.heap) (hdg : decode cc pc = .ok (.arraylength, 1)) (kk : n_W p l e s m args below meth c w d Po (pc + 1) ls (.int (nI N) :: rest) σ) : n_W p l e s m args below meth c w d Po pc ls (.ref t :: rest) σ := by
  intro H locs la z1 z2 z3
  exact va_tlen hC.1 hC.2.1 hT z3 rfl hdg (kk H locs la z1 z2 z3)
theorem s_b (hC : n_C p s m args meth c w cc nL own ret) {t N j : Nat} {f : Nat → Value} (hT : va_T .byte t N f (n_A w) s s.heap) (hj : j < N) (hN : N < 2 ^ 31) (hdg : decode cc pc = .ok (.baload, 1)) (kk : n_W p l e s m args below meth c w d Po (pc + 1) ls (f j :: rest) σ) : n_W p l e s m args below meth c w d Po pc ls (.int (nI j) :: .ref t :: rest) σ := by
  intro H locs la z1 z2 z3
  exact va_tb hC.1 hC.2.1 hT z3 (vp_in_nI hj hN) (by rw [nI_clamp (by omega)]) hdg (kk H locs la z1 z2 z3)
theorem s_aa (hC : n_C p s m args meth c w cc nL own ret) {C : String} {t N j : Nat} {f : Nat → Value} (hT : va_T (.object C) t N f (n_A w) s s.heap) (hj : j < N) (hN : N < 2 ^ 31) (hdg : decode cc pc = .ok (.aaload, 1)) (kk : n_W p l e s m args below meth c w d Po (pc + 1) ls (f j :: rest) σ) : n_W p l e s m args below meth c w d Po pc ls (.int (nI j) :: .ref t :: rest) σ := by
  intro H locs la z1 z2 z3
  exact vb_tq hC.1 hC.2.1 hT z3 (vp_in_nI hj hN) (by rw [nI_clamp (by omega)]) hdg (kk H locs la z1 z2 z3)
theorem n_callR (hC : n_C p s m args meth c w cc nL own ret) {b index n d' maxL : Nat} {y : MethodName} {bytes : ByteArray} {ret' : Option FieldType} {As : List Value} {Po' : Option Value → St → Prop} (hM : n_Ct l w d' y bytes maxL ret' (.ref b :: As) σ Po') (hd : d' + 1 ≤ d) (hmx : maxL ≤ 41)
    (hrv0 : ∀ (H : Heap) (locs : List Loc), va_S (n_A w) s.heap H locs → ∃ cell : Cell, H[b]? = some cell ∧ cell.vm.isStatics = false ∧ s.vm.findClass y.cls = some cell.cls) (hw : Cond.methodLink own index y ∈ n_tb ∧ Cond.instanceMethod y ∈ n_tb ∧ Cond.selects y.cls y y ∈ n_tb ∧ Cond.initialized y.cls ∈ n_tb ∧ Cond.code y bytes maxL ret' ∈ n_tb)
    (hy : (y.cls ≠ "java/lang/invoke/MethodHandle" ∧ y.cls ≠ "java/lang/invoke/VarHandle") ∧ (parseMethodDescriptor y.desc).map (fun d => d.parameters.length) = some n) (hn : As.length = n) (hr : (rest.map fun v => v.category).sum ≤ 8) (hdg : decode cc pc = .ok (.invokevirtual index, 3))
    (kk : ∀ (rv : Option Value) (σ' : St), Po' rv σ' → n_W p l e s m args below meth c w d Po (pc + 3) ls (rv.toList ++ rest) σ') : n_W p l e s m args below meth c w d Po pc ls (As.reverse ++ .ref b :: rest) σ := by
  intro H locs la z1 z2 z3
  obtain ⟨hx, hb, hml, hown, hts, hrt, hlk, hK, hE, hok⟩ := hC
  have hrv := hrv0 H locs z3
  have cw : CallW (n_rm d) s args own y.cls index y bytes maxL ret' (.code y bytes maxL ret' :: n_tb) (n_rm d') 0 0 n := by
    refine ⟨⟨rfl, rfl, hd, ?_, n_wsok hts hw.2.2.2.2, List.mem_cons_self, hts _ hw.2.2.2.2, hts _ hw.2.2.2.1, hy.1, fun sig h => ?_, hts _ hw.1⟩, hts _ hw.2.1, hts _ hw.2.2.1⟩
    · show 8 + (maxL + 11) + 60 * d' ≤ 60 * d
      omega
    · have h2 := hy.2
      rw [h] at h2
      exact (Option.some.inj h2).symm
  have hr0 := va_runV (e := e) (below := below) (meth := meth) (locs := locs) (cells := 0) (slots := 0) (g := F0 m pc la (As.reverse ++ .ref b :: rest)) (rest := rest) (As := As) (b := b) (H := H) ⟨hx, hb, hml, hown, hts⟩ hM cw
    ⟨n_blind _ w σ, hrv, fun U hU hW => ⟨rfl, by rw [hU]; exact z2, va_K.moved hW.alike hK, hok.2.2 s U s.heap U.heap hW (fun q h1 h2 => by rw [hU]; exact z3.2.1 q h1 h2) hE, hok⟩⟩ rfl hn (z1.2.1.trans hml) rfl (lv_room hr) hdg ⟨Nat.zero_le _, Nat.zero_le _⟩
  intro T hT X
  obtain ⟨v, st0, t, T', L, g0, X', hL, e1, e2, ⟨⟨rv, σ', hv, hp, hrep⟩, hz, hk⟩, st⟩ := hr0 T hT X
  cases hv
  rw [g0] at hz hk
  obtain ⟨t2, a1, b1⟩ := kk _ σ' hp T'.heap (locs ++ L) la z1 (by rw [e1]; exact hrep)
    ⟨Nat.le_trans z3.1 (by rw [e1]; exact hz), fun q h1 h2 => by rw [e1, hk q (Nat.lt_of_lt_of_le h1 z3.1) h2]; exact z3.2.1 q h1 h2, fun q hq => by
      rcases List.mem_append.mp hq with h | h
      · exact z3.2.2 q h
      · exact hL q h⟩ T' rfl X'
  exact ⟨t2, st t2 a1, b1⟩
end SR0
theorem p_tx_l8 : ∀ k, k < 43 → (p_tx k).length < 8 := by decide +kernel
theorem p_tx_b2 {k j : Nat} (hk : k < 43) (hj : j < (p_tx k).length) : (p_tx k).getD j 0 < 128 := by
  by_cases z : 1 ≤ k
  · exact (p_tx_b hk z hj).2
  · have : k = 0 := by omega
    subst this
    exact absurd (show j < 0 from hj) (Nat.not_lt_zero _)
theorem ch_and : ∀ b, b < 128 → (nI b &&& 255 = nI b ∧ ((nI b).toUInt32 % 65536).toInt32 = nI b) := by decide +kernel
theorem ch_nar {b : Nat} (h : b < 128) : narrow .char (.int (nI b)) = .int (nI b) := by
  have h1 : ∀ b, b < 128 → (nI b).toUInt32.toUInt16.toUInt32.toInt32 = nI b := by decide +kernel
  have h2 := vp_nar_char (nI b)
  rw [h1 b h] at h2
  unfold vp_nar at h2
  show narrow .char (.int (nI b)) = .int (nI b)
  first
    | exact congrArg Value.int (h1 b h)
    | (simp only [narrow] at h2 ⊢; exact congrArg Value.int (h1 b h))
section SR1
variable {l : Launch} {D : va_G} {ca : Nat → ClassId} {ad : Nat → Nat → Nat} {ae sk sv : Nat → Nat} {ta sf : Nat} {Ex : State → Heap → Prop}
theorem c_chk3 (d k n : Nat) (q : Nat) (σ : n_S) (hk : k < n) (hn : n < 2 ^ 31) : n_Ct l (cw D ca ad ae Ex) d yJ3_checkIndex_8e157 cJ3_checkIndex_8e157 3 (some .int) [.int (nI k), .int (nI n), .ref q] σ (fun rv σ' => rv = some (.int (nI k)) ∧ σ' = σ) := by
  refine n_ofW (by decide) (Nat.le_of_ble_eq_true rfl) ?_
  intro p e s m below meth c hC
  refine n_iload_n hC dJ3_checkIndex_8e157_0 rfl rfl ?_
  refine n_if_lt (tgt := 9) hC dJ3_checkIndex_8e157_1 (by decide) (fun h => ?_) (fun h => ?_)
  · exact absurd h (nI_pos (by omega))
  · clear h
    refine n_iload_n hC dJ3_checkIndex_8e157_4 rfl rfl ?_
    refine n_iload_n hC dJ3_checkIndex_8e157_5 rfl rfl ?_
    refine n_icmp_lt (tgt := 16) hC dJ3_checkIndex_8e157_6 (by decide) (fun h => ?_) (fun h => ?_)
    · refine n_iload_n hC dJ3_checkIndex_8e157_16 rfl rfl ?_
      refine n_iret hC dJ3_checkIndex_8e157_17 ?_
      exact ⟨rfl, rfl⟩
    · exact absurd (nI_lt hk hn) h
theorem c_chk3N (d k n : Nat) (σ : n_S) (hk : k < n) (hn : n < 2 ^ 31) : n_Ct l (cw D ca ad ae Ex) d yJ3_checkIndex_8e157 cJ3_checkIndex_8e157 3 (some .int) [.int (nI k), .int (nI n), .null] σ (fun rv σ' => rv = some (.int (nI k)) ∧ σ' = σ) := by
  refine n_ofW (by decide) (Nat.le_of_ble_eq_true rfl) ?_
  intro p e s m below meth c hC
  refine n_iload_n hC dJ3_checkIndex_8e157_0 rfl rfl ?_
  refine n_if_lt (tgt := 9) hC dJ3_checkIndex_8e157_1 (by decide) (fun h => ?_) (fun h => ?_)
  · exact absurd h (nI_pos (by omega))
  · clear h
    refine n_iload_n hC dJ3_checkIndex_8e157_4 rfl rfl ?_
    refine n_iload_n hC dJ3_checkIndex_8e157_5 rfl rfl ?_
    refine n_icmp_lt (tgt := 16) hC dJ3_checkIndex_8e157_6 (by decide) (fun h => ?_) (fun h => ?_)
    · refine n_iload_n hC dJ3_checkIndex_8e157_16 rfl rfl ?_
      refine n_iret hC dJ3_checkIndex_8e157_17 ?_
      exact ⟨rfl, rfl⟩
    · exact absurd (nI_lt hk hn) h
theorem c_chk (hX : ∀ U H, Ex U H → sX ad ae sk sv ta sf U H) (d k n : Nat) (σ : n_S) (hk : k < n) (hn : n < 2 ^ 31) : n_Ct l (cw D ca ad ae Ex) (d + 1) yJ0_checkIndex_df160 cJ0_checkIndex_df160 2 none [.int (nI k), .int (nI n)] σ (fun rv σ' => rv = none ∧ σ' = σ) := by
  refine n_ofW (by decide) (Nat.le_of_ble_eq_true rfl) ?_
  intro p e s m below meth c hC
  have hE := hX _ _ hC.2.2.2.2.2.2.2.2.1
  have hZ := hE.2.2.2.2.2
  clear hX hE
  cases sf with
  | zero =>
    refine n_iload_n hC dJ0_checkIndex_df160_0 rfl rfl ?_
    refine n_iload_n hC dJ0_checkIndex_df160_1 rfl rfl ?_
    refine s_gs (v := .null) hC hZ wfJ0_1053 dJ0_checkIndex_df160_2 ?_
    refine n_callS hC (c_chk3N d k n σ hk hn) (Nat.le_refl _) (by decide) ⟨wmJ0_1059, ws_yJ3_checkIndex_8e157, wzJ3, wc_yJ3_checkIndex_8e157⟩ hy_yJ3_checkIndex_8e157 rfl (Nat.le_of_ble_eq_true rfl) dJ0_checkIndex_df160_5 (fun rv σ' hpo => ?_)
    obtain ⟨rfl, hσ⟩ := hpo
    rw [hσ]
    refine n_pop hC dJ0_checkIndex_df160_8 rfl ?_
    refine n_vret hC dJ0_checkIndex_df160_9 ?_
    exact ⟨rfl, rfl⟩
  | succ q =>
    refine n_iload_n hC dJ0_checkIndex_df160_0 rfl rfl ?_
    refine n_iload_n hC dJ0_checkIndex_df160_1 rfl rfl ?_
    refine s_gs (v := .ref q) hC hZ wfJ0_1053 dJ0_checkIndex_df160_2 ?_
    refine n_callS hC (c_chk3 d k n q σ hk hn) (Nat.le_refl _) (by decide) ⟨wmJ0_1059, ws_yJ3_checkIndex_8e157, wzJ3, wc_yJ3_checkIndex_8e157⟩ hy_yJ3_checkIndex_8e157 rfl (Nat.le_of_ble_eq_true rfl) dJ0_checkIndex_df160_5 (fun rv σ' hpo => ?_)
    obtain ⟨rfl, hσ⟩ := hpo
    rw [hσ]
    refine n_pop hC dJ0_checkIndex_df160_8 rfl ?_
    refine n_vret hC dJ0_checkIndex_df160_9 ?_
    exact ⟨rfl, rfl⟩
theorem c_lat (hX : ∀ U H, Ex U H → sX ad ae sk sv ta sf U H) (d k j : Nat) (σ : n_S) (hk : k < 43) (hj : j < (p_tx k).length) : n_Ct l (cw D ca ad ae Ex) (d + 2) yJ1_charAt_3b067 cJ1_charAt_3b067 2 (some .char) [.ref (sv k), .int (nI j)] σ (fun rv σ' => rv = some (.int (nI ((p_tx k).getD j 0))) ∧ σ' = σ) := by
  have hl8 := p_tx_l8 k hk
  have hb := p_tx_b2 hk hj
  refine n_ofW (by decide) (Nat.le_of_ble_eq_true rfl) ?_
  intro p e s m below meth c hC
  have hE := (hX _ _ hC.2.2.2.2.2.2.2.2.1).2.2.2.1 k hk
  refine n_iload_n hC dJ1_charAt_3b067_0 rfl rfl ?_
  refine n_aload_n hC dJ1_charAt_3b067_1 rfl rfl ?_
  refine s_len hC hE.2.2.2 dJ1_charAt_3b067_2 ?_
  refine n_callS hC (c_chk hX d j (p_tx k).length σ hj (by omega)) (Nat.le_refl _) (by decide) ⟨wmJ1_9, ws_yJ0_checkIndex_df160, wzJ0, wc_yJ0_checkIndex_df160⟩ hy_yJ0_checkIndex_df160 rfl (Nat.le_of_ble_eq_true rfl) dJ1_charAt_3b067_3 (fun rv σ' hpo => ?_)
  obtain ⟨rfl, hσ⟩ := hpo
  rw [hσ]
  refine n_aload_n hC dJ1_charAt_3b067_6 rfl rfl ?_
  refine n_iload_n hC dJ1_charAt_3b067_7 rfl rfl ?_
  refine s_b hC hE.2.2.2 hj (by omega) dJ1_charAt_3b067_8 ?_
  refine n_sipush (v := 255) hC dJ1_charAt_3b067_9 (by decide) ?_
  refine n_iand hC dJ1_charAt_3b067_12 ?_
  rw [(ch_and _ hb).1]
  refine n_i2c hC dJ1_charAt_3b067_13 (ch_and _ hb).2 ?_
  exact n_tret hC dJ1_charAt_3b067_14 (ch_nar hb) ⟨rfl, rfl⟩
theorem c_isLat (hX : ∀ U H, Ex U H → sX ad ae sk sv ta sf U H) (d k : Nat) (σ : n_S) (hk : k < 43) : n_Ct l (cw D ca ad ae Ex) d yJ0_isLatin1_aae02 cJ0_isLatin1_aae02 1 (some .boolean) [.ref (sk k)] σ (fun rv σ' => rv = some (.int 1) ∧ σ' = σ) := by
  refine n_ofW (by decide) (Nat.le_of_ble_eq_true rfl) ?_
  intro p e s m below meth c hC
  have hE := hX _ _ hC.2.2.2.2.2.2.2.2.1
  refine s_gs hC hE.2.2.2.2.1 wfJ0_38 dJ0_isLatin1_aae02_0 ?_
  refine n_if_eq (tgt := 17) hC dJ0_isLatin1_aae02_3 (by decide) (fun h => ?_) (fun h => ?_)
  · exact absurd h (by decide)
  · clear h
    refine n_aload_n hC dJ0_isLatin1_aae02_6 rfl rfl ?_
    refine s_gf hC (hE.2.2.2.1 k hk).2.1 wfJ0_15 dJ0_isLatin1_aae02_7 ?_
    refine n_if_ne (tgt := 17) hC dJ0_isLatin1_aae02_10 (by decide) (fun h => ?_) (fun h => ?_)
    · exact absurd rfl h
    · refine n_iconst (v := 1) hC dJ0_isLatin1_aae02_13 (by decide) ?_
      refine n_goto (tgt := 18) hC dJ0_isLatin1_aae02_14 (by decide) ?_
      refine n_zret hC dJ0_isLatin1_aae02_18 rfl ?_
      exact ⟨rfl, rfl⟩
theorem c_coder (hX : ∀ U H, Ex U H → sX ad ae sk sv ta sf U H) (d k : Nat) (σ : n_S) (hk : k < 43) : n_Ct l (cw D ca ad ae Ex) d yJ0_coder_7d493 cJ0_coder_7d493 1 (some .byte) [.ref (sk k)] σ (fun rv σ' => rv = some (.int 0) ∧ σ' = σ) := by
  refine n_ofW (by decide) (Nat.le_of_ble_eq_true rfl) ?_
  intro p e s m below meth c hC
  have hE := hX _ _ hC.2.2.2.2.2.2.2.2.1
  refine s_gs hC hE.2.2.2.2.1 wfJ0_38 dJ0_coder_7d493_0 ?_
  refine n_if_eq (tgt := 13) hC dJ0_coder_7d493_3 (by decide) (fun h => ?_) (fun h => ?_)
  · exact absurd h (by decide)
  · clear h
    refine n_aload_n hC dJ0_coder_7d493_6 rfl rfl ?_
    refine s_gf hC (hE.2.2.2.1 k hk).2.1 wfJ0_15 dJ0_coder_7d493_7 ?_
    refine n_goto (tgt := 14) hC dJ0_coder_7d493_10 (by decide) ?_
    exact n_tret hC dJ0_coder_7d493_14 rfl ⟨rfl, rfl⟩
theorem s_rcv {s : State} (hE : sX ad ae sk sv ta sf s s.heap) {k : Nat} (hk : k < 43) : ∀ (H : Heap) (locs : List Loc), va_S (cw_A ad) s.heap H locs → ∃ cell : Cell, H[sk k]? = some cell ∧ cell.vm.isStatics = false ∧ s.vm.findClass "java/lang/String" = some cell.cls := by
  intro H locs hS
  obtain ⟨cell, h1, h2, h3, -⟩ := (hE.2.2.2.1 k hk).1.kept hS.2.1
  exact ⟨cell, h1, h2, h3⟩
theorem c_length (hX : ∀ U H, Ex U H → sX ad ae sk sv ta sf U H) (d k : Nat) (σ : n_S) (hk : k < 43) : n_Ct l (cw D ca ad ae Ex) (d + 1) yJ0_length_8abf5 cJ0_length_8abf5 1 (some .int) [.ref (sk k)] σ (fun rv σ' => rv = some (.int (nI (p_tx k).length)) ∧ σ' = σ) := by
  have hl8 := p_tx_l8 k hk
  refine n_ofW (by decide) (Nat.le_of_ble_eq_true rfl) ?_
  intro p e s m below meth c hC
  have hE := hX _ _ hC.2.2.2.2.2.2.2.2.1
  refine n_aload_n hC dJ0_length_8abf5_0 rfl rfl ?_
  refine s_gf hC (hE.2.2.2.1 k hk).2.2.1 wfJ0_9 dJ0_length_8abf5_1 ?_
  refine s_len hC (hE.2.2.2.1 k hk).2.2.2 dJ0_length_8abf5_4 ?_
  refine n_aload_n hC dJ0_length_8abf5_5 rfl rfl ?_
  refine n_callR hC (As := []) (c_coder hX d k σ hk) (Nat.le_refl _) (by decide) (s_rcv hE hk) ⟨wmJ0_335, wi_yJ0_coder_7d493, wv_yJ0_coder_7d493, wzJ0, wc_yJ0_coder_7d493⟩ hy_yJ0_coder_7d493 rfl (Nat.le_of_ble_eq_true rfl) dJ0_length_8abf5_6 (fun rv σ' hpo => ?_)
  obtain ⟨rfl, hσ⟩ := hpo
  rw [hσ]
  refine n_ishr hC dJ0_length_8abf5_9 ?_
  refine n_iret hC dJ0_length_8abf5_10 ?_
  have e0 : ∀ n, n < 8 → nI n >>> ((0 : Int32) &&& 31) = nI n := by decide +kernel
  rw [e0 _ hl8]
  exact ⟨rfl, rfl⟩
theorem c_charAt (hX : ∀ U H, Ex U H → sX ad ae sk sv ta sf U H) (d k j : Nat) (σ : n_S) (hk : k < 43) (hj : j < (p_tx k).length) : n_Ct l (cw D ca ad ae Ex) (d + 3) yJ0_charAt_5068e cJ0_charAt_5068e 2 (some .char) [.ref (sk k), .int (nI j)] σ (fun rv σ' => rv = some (.int (nI ((p_tx k).getD j 0))) ∧ σ' = σ) := by
  have hb := p_tx_b2 hk hj
  refine n_ofW (by decide) (Nat.le_of_ble_eq_true rfl) ?_
  intro p e s m below meth c hC
  have hE := hX _ _ hC.2.2.2.2.2.2.2.2.1
  refine n_aload_n hC dJ0_charAt_5068e_0 rfl rfl ?_
  refine n_callR hC (As := []) (c_isLat hX (d + 2) k σ hk) (Nat.le_refl _) (by decide) (s_rcv hE hk) ⟨wmJ0_492, wi_yJ0_isLatin1_aae02, wv_yJ0_isLatin1_aae02, wzJ0, wc_yJ0_isLatin1_aae02⟩ hy_yJ0_isLatin1_aae02 rfl (Nat.le_of_ble_eq_true rfl) dJ0_charAt_5068e_1 (fun rv σ' hpo => ?_)
  obtain ⟨rfl, hσ⟩ := hpo
  rw [hσ]
  refine n_if_eq (tgt := 16) hC dJ0_charAt_5068e_4 (by decide) (fun h => ?_) (fun h => ?_)
  · exact absurd h (by decide)
  · clear h
    refine n_aload_n hC dJ0_charAt_5068e_7 rfl rfl ?_
    refine s_gf hC (hE.2.2.2.1 k hk).2.2.1 wfJ0_9 dJ0_charAt_5068e_8 ?_
    refine n_iload_n hC dJ0_charAt_5068e_11 rfl rfl ?_
    refine n_callS hC (c_lat hX d k j σ hk hj) (Nat.le_refl _) (by decide) ⟨wmJ0_495, ws_yJ1_charAt_3b067, wzJ1, wc_yJ1_charAt_3b067⟩ hy_yJ1_charAt_3b067 rfl (Nat.le_of_ble_eq_true rfl) dJ0_charAt_5068e_12 (fun rv σ' hpo => ?_)
    obtain ⟨rfl, hσ⟩ := hpo
    rw [hσ]
    exact n_tret hC dJ0_charAt_5068e_15 (ch_nar hb) ⟨rfl, rfl⟩
end SR1
