def cE_nm : List String := ["NUMBER", "DUP", "DROP", "SWAP", "OVER", "ROT", "NOT", "PLUS", "MINUS", "TIMES", "DIVIDE", "REST", "AND", "OR", "XOR", "LEFT", "RIGHT", "EQUAL", "LESS", "MORE", "JUMP", "ZERO", "CALL", "RETURN", "EXIT", "FETCH", "STORE", "ALLOC", "RELEASE", "GIVE", "SEND", "RECV", "EMIT", "READKEY", "SPAWN", "WAIT", "KILL", "SELF", "LEVEL", "YIELD", "SLEEP", "DOWN", "UP"]
def cE_kd : List Int32 := [0, 0, 0, 0, 0, 0, 0, 1, 1, 1, 1, 1, 1, 1, 1, 1, 1, 1, 1, 1, 2, 2, 2, 2, 2, 3, 3, 3, 3, 3, 4, 4, 4, 4, 5, 5, 5, 5, 6, 6, 6, 6, 6]
def cE_ne : List Int32 := [0, 1, 1, 2, 2, 3, 1, 2, 2, 2, 2, 2, 2, 2, 2, 2, 2, 2, 2, 2, 0, 1, 0, 0, 1, 1, 2, 1, 1, 2, 2, 0, 1, 0, 0, 1, 1, 0, 1, 0, 1, 1, 1]
def cE_gr : List Int32 := [1, 1, 0, 0, 1, 0, 0, 0, 0, 0, 0, 0, 0, 0, 0, 0, 0, 0, 0, 0, 0, 0, 0, 0, 0, 0, 0, 0, 0, 0, 0, 2, 0, 1, 1, 1, 0, 1, 0, 0, 0, 0, 0]
def cE_or : List Int32 := [0, 1, 2, 3, 4, 5, 6, 7, 8, 9, 10, 11, 12, 13, 14, 15, 16, 17, 18, 19, 20, 21, 22, 23, 24, 25, 26, 27, 28, 29, 30, 31, 32, 33, 34, 35, 36, 37, 38, 39, 40, 41, 42]
def cE_sw : List Int32 := [0, 0, 0, 0, 0, 0, 0, 1, 2, 3, 4, 5, 6, 7, 8, 9, 10, 11, 12, 0, 13, 14, 15, 16, 0, 17, 18, 19, 20, 0, 21, 22, 23, 0, 24, 25, 26, 0, 0, 0, 0, 0, 0]
def cE_F : List (String × String × String × List Int32) := [("java/lang/Enum", "ordinal", "I", cE_or), ("ShareMonitor$Op", "kind", "I", cE_kd), ("ShareMonitor$Op", "needs", "I", cE_ne), ("ShareMonitor$Op", "grows", "I", cE_gr)]
theorem cE_len : cE_nm.length = 43 := rfl
def cw_A (ad : Nat → Nat → Nat) : Nat → Prop := fun q => ∃ κ i, cw_dom κ i ∧ q = ad κ i
/-- the enum's constants, and the table by which a switch on them goes -/
def cE (ad : Nat → Nat → Nat) (ae : Nat → Nat) (ts : Nat) (U : State) (H : Heap) : Prop := va_En "ShareMonitor$Op" "LShareMonitor$Op;" cE_nm cE_F ae (cw_A ad) U H ∧ va_Z "ShareMonitor$1" "$SwitchMap$ShareMonitor$Op" "[I" (.ref ts) (cw_A ad) U H ∧ va_T .int ts 43 (fun j => .int (cE_sw.getD j 0)) (cw_A ad) U H
theorem cE_ok {ad : Nat → Nat → Nat} {ae : Nat → Nat} {ts : Nat} {u U : State} {H H1 : Heap} (hvm : u.vm.Alike U.vm) (hq : ∀ q : Nat, q < H.size → ¬ cw_A ad q → H1[q]? = H[q]?) (h : cE ad ae ts u H) : cE ad ae ts U H1 :=
  ⟨va_En.moved hvm (h.1.kept hq), va_Z.moved hvm (h.2.1.kept hq), va_T.moved hvm (h.2.2.kept hq)⟩
def yEo : MethodName := ⟨"java/lang/Enum", "ordinal", "()I"⟩
def yOo : MethodName := ⟨"ShareMonitor$Op", "ordinal", "()I"⟩
theorem dEo_0 : decode prog_18_method_2_code 0 = .ok (.aload_n 0, 1) := by decide +kernel
theorem dEo_1 : decode prog_18_method_2_code 1 = .ok (.getfield 7, 3) := by decide +kernel
theorem dEo_4 : decode prog_18_method_2_code 4 = .ok (.ireturn, 1) := by decide +kernel
theorem wfEo : Cond.fieldLink "java/lang/Enum" 7 "java/lang/Enum" "ordinal" "I" ∈ n_tb := n_a8 168 (by decide +kernel) rfl
theorem wmEo : Cond.methodLink "ShareMonitor$Worker" 198 yOo ∈ n_tb := n_a3 9 (by decide +kernel) rfl
theorem wsEo : Cond.sameMethod "ShareMonitor$Op" "java/lang/Enum" "ordinal" "()I" ∈ n_tb := n_a3 10 (by decide +kernel) rfl
theorem wvEo : Cond.selects "ShareMonitor$Op" yOo yEo ∈ n_tb := n_a3 12 (by decide +kernel) rfl
theorem wiEo : Cond.instanceMethod yEo ∈ n_tb := n_a3 13 (by decide +kernel) rfl
theorem wcEo : Cond.code yEo prog_18_method_2_code 1 (some .int) ∈ n_tb := n_a3 14 (by decide +kernel) rfl
theorem wzEo : Cond.initialized "java/lang/Enum" ∈ n_tb := n_a1 19 (by decide +kernel) rfl
theorem n_gi {L : List Cond} (h : ∀ w ∈ L, w ∈ n_tb) : GoodIn n_tb L := fun w hw => ⟨h w hw, (n_good (h w hw)).2⟩
section EN
variable {p : Program} {l : Launch} {e : Env} {s : State} {m : MethodId} {args : Array Value} {below : List Frame} {meth : Method} {c : Code} {D : va_G} {ca : Nat → ClassId} {ad : Nat → Nat → Nat} {ae : Nat → Nat} {ts : Nat} {Ex : State → Heap → Prop} {d : Nat} {Po : Option Value → n_S → Prop} {cc : ByteArray} {nL : Nat} {own : String} {ret : Option FieldType}
variable {pc : Nat} {ls : List (Option Value)} {rest : List Value} {σ : n_S} {ix i j k : Nat}
theorem e_gs (hC : n_C p s m args meth c (cw D ca ad ae Ex) cc nL own ret) (hX : ∀ U H, Ex U H → cE ad ae ts U H) (hk : k < 43) (hw : Cond.fieldLink own ix "ShareMonitor$Op" (cE_nm.getD k "") "LShareMonitor$Op;" ∈ n_tb) (hdg : decode cc pc = .ok (.getstatic ix, 3)) (kk : n_W p l e s m args below meth c (cw D ca ad ae Ex) d Po (pc + 3) ls (.ref (ae k) :: rest) σ) : n_W p l e s m args below meth c (cw D ca ad ae Ex) d Po pc ls rest σ := by
  intro H locs la z1 z2 z3
  exact va_gets hC.1 hC.2.1 ((hX _ _ hC.2.2.2.2.2.2.2.2.1).1.1 k hk).1 z3 hC.2.2.2.1 (hC.2.2.2.2.1 _ hw) (fun _ h => h) hdg (kk H locs la z1 z2 z3)
theorem e_gm (hC : n_C p s m args meth c (cw D ca ad ae Ex) cc nL own ret) (hX : ∀ U H, Ex U H → cE ad ae ts U H) (hw : Cond.fieldLink own ix "ShareMonitor$1" "$SwitchMap$ShareMonitor$Op" "[I" ∈ n_tb) (hdg : decode cc pc = .ok (.getstatic ix, 3)) (kk : n_W p l e s m args below meth c (cw D ca ad ae Ex) d Po (pc + 3) ls (.ref ts :: rest) σ) : n_W p l e s m args below meth c (cw D ca ad ae Ex) d Po pc ls rest σ := by
  intro H locs la z1 z2 z3
  exact va_gets hC.1 hC.2.1 (hX _ _ hC.2.2.2.2.2.2.2.2.1).2.1 z3 hC.2.2.2.1 (hC.2.2.2.2.1 _ hw) (fun _ h => h) hdg (kk H locs la z1 z2 z3)
theorem e_sw (hC : n_C p s m args meth c (cw D ca ad ae Ex) cc nL own ret) (hX : ∀ U H, Ex U H → cE ad ae ts U H) (hk : k < 43) {v : Int32} (hv : cE_sw.getD k 0 = v) (hdg : decode cc pc = .ok (.iaload, 1)) (kk : n_W p l e s m args below meth c (cw D ca ad ae Ex) d Po (pc + 1) ls (.int v :: rest) σ) : n_W p l e s m args below meth c (cw D ca ad ae Ex) d Po pc ls (.int (nI k) :: .ref ts :: rest) σ := by
  intro H locs la z1 z2 z3
  exact va_ti hC.1 hC.2.1 (hX _ _ hC.2.2.2.2.2.2.2.2.1).2.2 z3 (vp_in_nI hk (by decide)) (by rw [nI_clamp (by omega), hv]) hdg (kk H locs la z1 z2 z3)
theorem e_gf (hC : n_C p s m args meth c (cw D ca ad ae Ex) cc nL own ret) (hX : ∀ U H, Ex U H → cE ad ae ts U H) (hk : k < 43) (q : String × String × String × List Int32) (hq : q ∈ cE_F) (hw : Cond.fieldLink own ix q.1 q.2.1 q.2.2.1 ∈ n_tb) (hdg : decode cc pc = .ok (.getfield ix, 3)) (kk : n_W p l e s m args below meth c (cw D ca ad ae Ex) d Po (pc + 3) ls (.int (q.2.2.2.getD k 0) :: rest) σ) : n_W p l e s m args below meth c (cw D ca ad ae Ex) d Po pc ls (.ref (ae k) :: rest) σ := by
  intro H locs la z1 z2 z3
  exact va_getE hC.1 hC.2.1 (hX _ _ hC.2.2.2.2.2.2.2.2.1).1 hk z3 hC.2.2.2.1 hq (hC.2.2.2.2.1 _ hw) (fun _ h => h) hdg (kk H locs la z1 z2 z3)
theorem e_inj (hC : n_C p s m args meth c (cw D ca ad ae Ex) cc nL own ret) (hX : ∀ U H, Ex U H → cE ad ae ts U H) (hi : i < 43) (hj : j < 43) (h : i ≠ j) : ae i ≠ ae j := fun z => h ((hX _ _ hC.2.2.2.2.2.2.2.2.1).1.2 i j hi hj z)
theorem e_acne_t (hC : n_C p s m args meth c (cw D ca ad ae Ex) cc nL own ret) (hX : ∀ U H, Ex U H → cE ad ae ts U H) (hi : i < 43) (hj : j < 43) (h : i ≠ j) {off : Int} {tgt : Nat} (hdg : decode cc pc = .ok (.if_acmp .ne off, 3)) (ht : (pc : Int) + off = (tgt : Int)) (kk : n_W p l e s m args below meth c (cw D ca ad ae Ex) d Po tgt ls rest σ) : n_W p l e s m args below meth c (cw D ca ad ae Ex) d Po pc ls (.ref (ae j) :: .ref (ae i) :: rest) σ :=
  n_acmp_ne hC (rx := some (ae i)) (ry := some (ae j)) hdg ht (fun _ => kk) (fun z => absurd (Option.some.inj z) (e_inj hC hX hi hj h))
theorem e_acne_f (hC : n_C p s m args meth c (cw D ca ad ae Ex) cc nL own ret) {a : Nat} {off : Int} {tgt : Nat} (hdg : decode cc pc = .ok (.if_acmp .ne off, 3)) (ht : (pc : Int) + off = (tgt : Int)) (kk : n_W p l e s m args below meth c (cw D ca ad ae Ex) d Po (pc + 3) ls rest σ) : n_W p l e s m args below meth c (cw D ca ad ae Ex) d Po pc ls (.ref a :: .ref a :: rest) σ :=
  n_acmp_ne hC (rx := some a) (ry := some a) hdg ht (fun z => absurd rfl z) (fun _ => kk)
theorem e_aceq_t (hC : n_C p s m args meth c (cw D ca ad ae Ex) cc nL own ret) {a : Nat} {off : Int} {tgt : Nat} (hdg : decode cc pc = .ok (.if_acmp .eq off, 3)) (ht : (pc : Int) + off = (tgt : Int)) (kk : n_W p l e s m args below meth c (cw D ca ad ae Ex) d Po tgt ls rest σ) : n_W p l e s m args below meth c (cw D ca ad ae Ex) d Po pc ls (.ref a :: .ref a :: rest) σ :=
  n_acmp_eq hC (rx := some a) (ry := some a) hdg ht (fun _ => kk) (fun z => absurd rfl z)
theorem e_aceq_f (hC : n_C p s m args meth c (cw D ca ad ae Ex) cc nL own ret) (hX : ∀ U H, Ex U H → cE ad ae ts U H) (hi : i < 43) (hj : j < 43) (h : i ≠ j) {off : Int} {tgt : Nat} (hdg : decode cc pc = .ok (.if_acmp .eq off, 3)) (ht : (pc : Int) + off = (tgt : Int)) (kk : n_W p l e s m args below meth c (cw D ca ad ae Ex) d Po (pc + 3) ls rest σ) : n_W p l e s m args below meth c (cw D ca ad ae Ex) d Po pc ls (.ref (ae j) :: .ref (ae i) :: rest) σ :=
  n_acmp_eq hC (rx := some (ae i)) (ry := some (ae j)) hdg ht (fun z => absurd (Option.some.inj z) (e_inj hC hX hi hj h)) (fun _ => kk)
theorem c_ordinal (hX : ∀ U H, Ex U H → cE ad ae ts U H) (d k : Nat) (hk : k < 43) (σ : n_S) : n_Ct l (cw D ca ad ae Ex) d yEo prog_18_method_2_code 1 (some .int) [.ref (ae k)] σ (fun rv σ' => rv = some (.int (nI k)) ∧ σ' = σ) := by
  refine n_ofW (by decide) (Nat.le_of_ble_eq_true rfl) ?_
  intro p e s m below meth c hC
  refine n_aload_n hC dEo_0 rfl rfl ?_
  refine e_gf hC hX hk ("java/lang/Enum", "ordinal", "I", cE_or) (by simp [cE_F]) wfEo dEo_1 ?_
  refine n_iret hC dEo_4 ⟨?_, rfl⟩
  have : ∀ k, k < 43 → cE_or.getD k 0 = nI k := by decide +kernel
  show some (Value.int (cE_or.getD k 0)) = _
  rw [this k hk]
theorem e_ord (hC : n_C p s m args meth c (cw D ca ad ae Ex) cc nL "ShareMonitor$Worker" ret) (hX : ∀ U H, Ex U H → cE ad ae ts U H) (hk : k < 43) (hr : (rest.map fun v => v.category).sum ≤ 8) (hdg : decode cc pc = .ok (.invokevirtual 198, 3)) (kk : n_W p l e s m args below meth c (cw D ca ad ae Ex) (d + 1) Po (pc + 3) ls (.int (nI k) :: rest) σ) : n_W p l e s m args below meth c (cw D ca ad ae Ex) (d + 1) Po pc ls (.ref (ae k) :: rest) σ := by
  intro H locs la z1 z2 z3
  obtain ⟨hx, hb, hml, hown, hts, hrt, hlk, hK, hE, hok⟩ := hC
  have hM := c_ordinal (l := l) (D := D) (ca := ca) hX d k hk σ
  have cu := va_cwU (R := n_rm (d + 1)) (s := s) (args := args) (own := "ShareMonitor$Worker") (C := "ShareMonitor$Op") (owner := "java/lang/Enum") (index := 198) (maxL := 1) (mc := 0) (ms := 0) (x := yOo) (y := yEo) (bytes := prog_18_method_2_code) (ret := some .int) (Ts := n_tb) (ws := .code yEo prog_18_method_2_code 1 (some .int) :: n_tb) (rm := n_rm d) 0 hts
    (n_gi (fun w hw => by
      unfold va_wsU at hw
      rcases List.mem_append.mp hw with h | h
      · simp only [List.mem_cons, List.not_mem_nil, or_false] at h
        rcases h with rfl | rfl | rfl | rfl | rfl
        · exact wmEo
        · exact wsEo
        · exact wvEo
        · exact wiEo
        · exact wzEo
      · exact (List.mem_cons.mp h).elim (fun z => z ▸ wcEo) id)) rfl rfl rfl rfl (by decide +kernel) ⟨Nat.le_refl _, by show 8 + (1 + 11) + 60 * d ≤ 60 * (d + 1); omega⟩
  have hr0 := va_runU (e := e) (below := below) (meth := meth) (locs := locs) (cells := 0) (slots := 0) (g := F0 m pc la (.ref (ae k) :: rest)) (rest := rest) (As := []) (b := ae k) (H := H) ⟨hx, hb, hml, hown, hts⟩ hM cu
    ⟨n_blind _ (cw D ca ad ae Ex) σ, va_recvE (hX _ _ hE).1 hk z3, fun U hU hW => ⟨rfl, by rw [hU]; exact z2, va_K.moved hW.alike hK, hok.2.2 s U s.heap U.heap hW (fun q h1 h2 => by rw [hU]; exact z3.2.1 q h1 h2) hE, hok⟩⟩ rfl rfl (z1.2.1.trans hml) rfl (lv_room hr) hdg ⟨Nat.zero_le _, Nat.zero_le _⟩
  intro T hT X
  obtain ⟨v, st0, t, T', L, g0, X', hL, e1, e2, ⟨⟨rv, σ', hv, hp, hrep⟩, hz, hk2⟩, st⟩ := hr0 T hT X
  cases hv
  obtain ⟨rfl, rfl⟩ := hp
  rw [g0] at hz hk2
  obtain ⟨t2, a1, b1⟩ := kk T'.heap (locs ++ L) la z1 (by rw [e1]; exact hrep)
    ⟨Nat.le_trans z3.1 (by rw [e1]; exact hz), fun q h1 h2 => by rw [e1, hk2 q (Nat.lt_of_lt_of_le h1 z3.1) h2]; exact z3.2.1 q h1 h2, fun q hq => by
      rcases List.mem_append.mp hq with h | h
      · exact z3.2.2 q h
      · exact hL q h⟩ T' rfl X'
  exact ⟨t2, st t2 a1, b1⟩
end EN
