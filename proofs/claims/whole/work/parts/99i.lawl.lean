/-! the law's own body: both sides in one heap -/
theorem jg_ls {St : Type} {p : Program} {l : Launch} {e : Env} {s : State} {m : MethodId} {args : Array Value} {below : List Frame} {meth : Method} {c : Code} {R : Room} {Q : State → Prop} {G : St → Heap → List Loc → Prop} {ce : St → Nat × Nat} {pc : Nat} {ls ls' : List (Option Value)} {rest : List Value} {σ : St} (h : ls'.length = ls.length ∧ ∀ (i : Nat) (v : Value), ls'[i]? = some (some v) → ls[i]? = some (some v)) (kk : g_W p l e s m args below meth c R Q G ce pc ls' rest σ) : g_W p l e s m args below meth c R Q G ce pc ls rest σ :=
  fun H locs la z1 z2 => kk H locs la ⟨h.1.trans z1.1, z1.2.1, z1.2.2.1, fun i v hi => z1.2.2.2 i v (h.2 i v hi)⟩ z2
theorem jg_lcmp {St St2 : Type} {p : Program} {l : Launch} {e : Env} {s : State} {m : MethodId} {args : Array Value} {below : List Frame} {meth : Method} {c : Code} {w : n_Wd St2} {R : Room} {Q : State → Prop} {G : St → Heap → List Loc → Prop} {ce : St → Nat × Nat} {cc : ByteArray} {nL : Nat} {own : String} {ret : Option FieldType} {pc : Nat} {ls : List (Option Value)} {rest : List Value} {σ : St} (hC : n_C p s m args meth c w cc nL own ret) {x y : Int64} (hdg : decode cc pc = .ok (.lcmp, 1)) (k : g_W p l e s m args below meth c R Q G ce (pc + 1) ls (.int (lg_cmp x y) :: rest) σ) : g_W p l e s m args below meth c R Q G ce pc ls (.long y :: .long x :: rest) σ := fun H locs la z1 z2 => W.lcmp hC.1 hC.2.1 hdg (k H locs la z1 z2)
theorem lg_cmp_rf (x : Int64) : lg_cmp x x = 0 := by
  unfold lg_cmp
  simp
abbrev l_St : Type := n_S × n_S × Int64 × Nat × Nat
abbrev l_wr (D : va_G) (ca : Nat → ClassId) (z0 : Nat) : n_Wd n_S := rw D ca (r_ad (z0 + 187)) (fun _ _ => True)
theorem l_wr_ok (D : va_G) (ca : Nat → ClassId) (z0 : Nat) : n_ok (l_wr D ca z0) := ⟨fun _ _ _ _ h h' e => r_ad_inj (z0 + 187) h h' e, n_clk, fun _ _ _ _ _ _ _ => trivial⟩
def l_G (D : va_G) (ca : Nat → ClassId) (ae : Nat → Nat) (Ex : State → Heap → Prop) (z0 : Nat) (s : State) (x : l_St) (H : Heap) (locs : List Loc) : Prop := n_Rep (cw D ca (c_ad z0) ae Ex) x.1 H ∧ n_Rep (l_wr D ca z0) x.2.1 H ∧ H[z0 + 228]? = some (h_out ca x.2.2.1) ∧ va_S (a_A z0) s.heap H locs
abbrev l_W (p : Program) (l : Launch) (e : Env) (s : State) (m : MethodId) (b : Nat) (below : List Frame) (meth : Method) (c : Code) (D : va_G) (ca : Nat → ClassId) (ae : Nat → Nat) (Ex : State → Heap → Prop) (z0 : Nat) (pc : Nat) (ls : List (Option Value)) (st : List Value) (x : l_St) : Prop :=
  g_W p l e s m #[Value.ref b] below meth c room_1 (lw_Z below #[Value.ref b] s) (l_G D ca ae Ex z0 s) (fun x : l_St => x.2.2.2) pc ls st x
/-- what stands all through the law -/
def l_C (p : Program) (s : State) (m : MethodId) (b : Nat) (meth : Method) (c : Code) (D : va_G) (ca : Nat → ClassId) (ae : Nat → Nat) (Ex : State → Heap → Prop) (z0 L : Nat) (xs : Nat → Int32) : Prop :=
  n_C p s m #[Value.ref b] meth c (aw D ca) code 7 "ShareMonitorLaw" ret ∧ z0 = s.heap.size ∧ h_K (cw D ca (c_ad z0) ae Ex) z0 (z0 + 228) ∧ Ex s s.heap ∧ h_X s ∧ va_X b L xs s s.heap ∧ b < s.heap.size ∧ L ≤ 3072
theorem c_A_lo {D : va_G} {ca : Nat → ClassId} {ae : Nat → Nat} {Ex : State → Heap → Prop} {z0 q : Nat} (h : n_A (cw D ca (c_ad z0) ae Ex) q) : z0 ≤ q ∧ q < z0 + 187 := by
  obtain ⟨κ, i, hd, rfl⟩ := h
  have := c_inv_ad (b := z0) hd
  exact ⟨this.1, this.2.1⟩
theorem r_A_lo {D : va_G} {ca : Nat → ClassId} {z0 q : Nat} (h : n_A (l_wr D ca z0) q) : z0 + 187 ≤ q ∧ q < z0 + 228 := by
  obtain ⟨κ, i, hd, rfl⟩ := h
  have := rr_inv_ad (b := z0 + 187) hd
  exact ⟨this.1, by show r_ad (z0 + 187) κ i < _; omega⟩
section LL
variable {p : Program} {l : Launch} {e : Env} {s : State} {m : MethodId} {b : Nat} {below : List Frame} {meth : Method} {c : Code} {D : va_G} {ca : Nat → ClassId} {ae : Nat → Nat} {Ex : State → Heap → Prop} {z0 L : Nat} {xs : Nat → Int32}
variable {pc : Nat} {ls : List (Option Value)} {rest : List Value} {σ τ : n_S} {v : Int64} {n k : Nat}
theorem l_G.ref {H H1 : Heap} (h : n_Rep (l_wr D ca z0) τ H) (hk : ∀ q : Nat, q < H.size → z0 + 187 ≤ q → H1[q]? = H[q]?) : n_Rep (l_wr D ca z0) τ H1 := fun κ i hd => (h κ i hd).kept (hk _ ((h κ i hd).lt) (r_A_lo (D := D) (ca := ca) ⟨κ, i, hd, rfl⟩).1)
theorem l_G.cls {H H1 : Heap} (h : n_Rep (cw D ca (c_ad z0) ae Ex) σ H) (hk : ∀ q : Nat, q < H.size → q < z0 + 187 → H1[q]? = H[q]?) : n_Rep (cw D ca (c_ad z0) ae Ex) σ H1 := fun κ i hd => (h κ i hd).kept (hk _ ((h κ i hd).lt) (c_A_lo (D := D) (ca := ca) (ae := ae) (Ex := Ex) ⟨κ, i, hd, rfl⟩).2)
theorem l_S {H H1 : Heap} {locs L9 : List Loc} (h : va_S (a_A z0) s.heap H locs) (h1 : H.size ≤ H1.size) (h2 : ∀ q : Nat, q < H.size → q < z0 → H1[q]? = H[q]?) (h3 : ∀ q ∈ L9, z0 ≤ q.base) : va_S (a_A z0) s.heap H1 (locs ++ L9) :=
  ⟨Nat.le_trans h.1 h1, fun q a c => (h2 q (Nat.lt_of_lt_of_le a h.1) (Nat.lt_of_not_le c)).trans (h.2.1 q a c), fun q hq => by
    rcases List.mem_append.mp hq with z | z
    · exact h.2.2 q z
    · exact h3 q z⟩
theorem l_Ex (hL : l_C p s m b meth c D ca ae Ex z0 L xs) {H : Heap} {locs : List Loc} (h : va_S (a_A z0) s.heap H locs) {U : State} (hU : U.heap = H) (hW : s.WarmedH U.vm) : Ex U U.heap := by
  obtain ⟨-, hz, hK, hE, -⟩ := hL
  exact hK.2.2.2.2 s U s.heap U.heap hW (fun q hq => by rw [hU]; exact h.2.1 q (by omega) (Nat.not_le.mpr hq)) hE
theorem l_callC (hL : l_C p s m b meth c D ca ae Ex z0 L xs) {index np d' maxL : Nat} {y : MethodName} {bytes : ByteArray} {ret' : Option FieldType} {As : List Value} {Po' : Option Value → n_S → Prop} (hM : n_Ct l (cw D ca (c_ad z0) ae Ex) d' y bytes maxL ret' (.ref z0 :: As) σ Po') (hd : d' ≤ 100) (hmx : maxL ≤ 41) (hyc : y.cls = "ShareMonitor")
    (hw : Cond.methodLink "ShareMonitorLaw" index y ∈ n_tb ∧ Cond.instanceMethod y ∈ n_tb ∧ Cond.selects y.cls y y ∈ n_tb ∧ Cond.initialized y.cls ∈ n_tb ∧ Cond.code y bytes maxL ret' ∈ n_tb)
    (hy : (y.cls ≠ "java/lang/invoke/MethodHandle" ∧ y.cls ≠ "java/lang/invoke/VarHandle") ∧ (parseMethodDescriptor y.desc).map (fun d => d.parameters.length) = some np) (hn : As.length = np) (hr : (rest.map fun v => v.category).sum ≤ 8) (hnk : n ≤ 601024 ∧ k ≤ 7293034) (hdg : decode code pc = .ok (.invokevirtual index, 3))
    (kk : ∀ (rv : Option Value) (σ' : n_S), Po' rv σ' → l_W p l e s m b below meth c D ca ae Ex z0 (pc + 3) ls (rv.toList ++ rest) (σ', τ, v, n, k)) : l_W p l e s m b below meth c D ca ae Ex z0 pc ls (As.reverse ++ .ref z0 :: rest) (σ, τ, v, n, k) := by
  intro H locs la z1 z2
  have hL0 := hL
  obtain ⟨⟨hx, hb, hml, hown, hts, hrt, hlk, hKK, -, -⟩, hz, hK, hE, hX, -⟩ := hL
  have hP : va_P D n_cls [(z0, .inr (9, [.ref (c_ad z0 1 0), .ref (c_ad z0 3 0), .ref (c_ad z0 9 0), .ref (c_ad z0 20 0)]))] H := by
    intro k q hk
    cases k with
    | zero => cases hk; exact z2.1 0 0 rfl
    | succ k => simp at hk
  have hrv := va_recv hKK hP (show n_cls[9]? = some _ from rfl) (q0 := 0) rfl
  have hrv : ∃ cellB : Cell, H[z0]? = some cellB ∧ cellB.vm.isStatics = false ∧ s.vm.findClass y.cls = some cellB.cls := by rw [hyc]; exact hrv
  have cw9 : CallW room_1 s #[Value.ref b] "ShareMonitorLaw" y.cls index y bytes maxL ret' (.code y bytes maxL ret' :: n_tb) (n_rm d') 0 0 np := by
    refine ⟨⟨rfl, rfl, ?_, ?_, n_wsok hts hw.2.2.2.2, List.mem_cons_self, hts _ hw.2.2.2.2, hts _ hw.2.2.2.1, hy.1, fun sig h => ?_, hts _ hw.1⟩, hts _ hw.2.1, hts _ hw.2.2.1⟩
    · show d' + 1 ≤ 2048
      omega
    · show 8 + (maxL + 11) + 60 * d' ≤ 84000
      omega
    · have h2 := hy.2
      rw [h] at h2
      exact (Option.some.inj h2).symm
  have hr0 := va_runV (e := e) (below := below) (meth := meth) (locs := locs) (cells := n) (slots := k) (g := F0 m pc la (As.reverse ++ .ref z0 :: rest)) (rest := rest) (As := As) (b := z0) (H := H) ⟨hx, hb, hml, hown, hts⟩ hM cw9
    ⟨n_blind _ (cw D ca (c_ad z0) ae Ex) σ, hrv, fun U hU hW => ⟨rfl, by rw [hU]; exact z2.1, va_K.moved hW.alike hKK, l_Ex hL0 z2.2.2.2 hU hW, hK.1⟩⟩ rfl hn (z1.2.1.trans hml) rfl (lv_room hr) hdg ⟨hnk.1, hnk.2⟩
  intro T hT X
  obtain ⟨v9, st0, t, T', L9, g0, X', hL9, e1, e2, ⟨⟨rv, σ', hv, hp, hrep⟩, hz9, hk9⟩, st⟩ := hr0 T hT X
  cases hv
  rw [g0] at hz9 hk9
  have hlt : z0 + 228 < H.size := (Array.getElem?_eq_some_iff.mp z2.2.2.1).1
  have out : ∀ q : Nat, q < H.size → (z0 + 187 ≤ q ∨ q < z0) → t.heap[q]? = H[q]? := fun q h1 h2 => hk9 q h1 (fun h => by
    have := c_A_lo h
    omega)
  obtain ⟨t2, a1, b1⟩ := kk _ σ' hp T'.heap (locs ++ L9) la z1 ⟨by rw [e1]; exact hrep, l_G.ref z2.2.1 (fun q h1 h2 => by rw [e1]; exact out q h1 (Or.inl h2)), by rw [e1, out _ hlt (Or.inl (by omega))]; exact z2.2.2.1, l_S z2.2.2.2 (by rw [e1]; exact hz9) (fun q h1 h2 => by rw [e1]; exact out q h1 (Or.inr h2)) (fun q hq => (c_A_lo (hL9 q hq)).1)⟩ T' rfl X'
  exact ⟨t2, st t2 a1, b1⟩
theorem l_callR (hL : l_C p s m b meth c D ca ae Ex z0 L xs) {index np d' maxL : Nat} {y : MethodName} {bytes : ByteArray} {ret' : Option FieldType} {As : List Value} {Po' : Option Value → n_S → Prop} (hM : n_Ct l (l_wr D ca z0) d' y bytes maxL ret' (.ref (z0 + 187) :: As) τ Po') (hd : d' ≤ 100) (hmx : maxL ≤ 41) (hyc : y.cls = "ShareMonitorModel")
    (hw : Cond.methodLink "ShareMonitorLaw" index y ∈ n_tb ∧ Cond.instanceMethod y ∈ n_tb ∧ Cond.selects y.cls y y ∈ n_tb ∧ Cond.initialized y.cls ∈ n_tb ∧ Cond.code y bytes maxL ret' ∈ n_tb)
    (hy : (y.cls ≠ "java/lang/invoke/MethodHandle" ∧ y.cls ≠ "java/lang/invoke/VarHandle") ∧ (parseMethodDescriptor y.desc).map (fun d => d.parameters.length) = some np) (hn : As.length = np) (hr : (rest.map fun v => v.category).sum ≤ 8) (hnk : n ≤ 601024 ∧ k ≤ 7293034) (hdg : decode code pc = .ok (.invokevirtual index, 3))
    (kk : ∀ (rv : Option Value) (τ' : n_S), Po' rv τ' → l_W p l e s m b below meth c D ca ae Ex z0 (pc + 3) ls (rv.toList ++ rest) (σ, τ', v, n, k)) : l_W p l e s m b below meth c D ca ae Ex z0 pc ls (As.reverse ++ .ref (z0 + 187) :: rest) (σ, τ, v, n, k) := by
  intro H locs la z1 z2
  obtain ⟨⟨hx, hb, hml, hown, hts, hrt, hlk, hKK, -, -⟩, hz, hK, hE, hX, -⟩ := hL
  have hP : va_P D n_cls [(z0 + 187, n_en (l_wr D ca z0) 0 0 τ)] H := by
    intro k q hk
    cases k with
    | zero => cases hk; exact z2.2.1 0 0 rfl
    | succ k => simp at hk
  have hrv := va_recv hKK hP (show n_cls[10]? = some _ from rfl) (q0 := 0) rfl
  have hrv : ∃ cellB : Cell, H[z0 + 187]? = some cellB ∧ cellB.vm.isStatics = false ∧ s.vm.findClass y.cls = some cellB.cls := by rw [hyc]; exact hrv
  have cw9 : CallW room_1 s #[Value.ref b] "ShareMonitorLaw" y.cls index y bytes maxL ret' (.code y bytes maxL ret' :: n_tb) (n_rm d') 0 0 np := by
    refine ⟨⟨rfl, rfl, ?_, ?_, n_wsok hts hw.2.2.2.2, List.mem_cons_self, hts _ hw.2.2.2.2, hts _ hw.2.2.2.1, hy.1, fun sig h => ?_, hts _ hw.1⟩, hts _ hw.2.1, hts _ hw.2.2.1⟩
    · show d' + 1 ≤ 2048
      omega
    · show 8 + (maxL + 11) + 60 * d' ≤ 84000
      omega
    · have h2 := hy.2
      rw [h] at h2
      exact (Option.some.inj h2).symm
  have hr0 := va_runV (e := e) (below := below) (meth := meth) (locs := locs) (cells := n) (slots := k) (g := F0 m pc la (As.reverse ++ .ref (z0 + 187) :: rest)) (rest := rest) (As := As) (b := z0 + 187) (H := H) ⟨hx, hb, hml, hown, hts⟩ hM cw9
    ⟨n_blind _ (l_wr D ca z0) τ, hrv, fun U hU hW => ⟨rfl, by rw [hU]; exact z2.2.1, va_K.moved hW.alike hKK, trivial, l_wr_ok D ca z0⟩⟩ rfl hn (z1.2.1.trans hml) rfl (lv_room hr) hdg ⟨hnk.1, hnk.2⟩
  intro T hT X
  obtain ⟨v9, st0, t, T', L9, g0, X', hL9, e1, e2, ⟨⟨rv, τ', hv, hp, hrep⟩, hz9, hk9⟩, st⟩ := hr0 T hT X
  cases hv
  rw [g0] at hz9 hk9
  have hlt : z0 + 228 < H.size := (Array.getElem?_eq_some_iff.mp z2.2.2.1).1
  have out : ∀ q : Nat, q < H.size → (z0 + 228 ≤ q ∨ q < z0 + 187) → t.heap[q]? = H[q]? := fun q h1 h2 => hk9 q h1 (fun h => by
    have := r_A_lo h
    omega)
  obtain ⟨t2, a1, b1⟩ := kk _ τ' hp T'.heap (locs ++ L9) la z1 ⟨l_G.cls z2.1 (fun q h1 h2 => by rw [e1]; exact out q h1 (Or.inr h2)), by rw [e1]; exact hrep, by rw [e1, out _ hlt (Or.inl (Nat.le_refl _))]; exact z2.2.2.1, l_S z2.2.2.2 (by rw [e1]; exact hz9) (fun q h1 h2 => by rw [e1]; exact out q h1 (Or.inr (by omega))) (fun q hq => by
    have := r_A_lo (hL9 q hq)
    omega)⟩ T' rfl X'
  exact ⟨t2, st t2 a1, b1⟩
theorem h_blind (av : List Value) (w : n_Wd n_S) (hok : n_ok w) (ca : Nat → ClassId) (z0 qo : Nat) (σ : n_S) (v : Int64) : FrameBlind (va_Pc av (h_U w ca z0 qo σ v)) := fun a U g mk h => ⟨h.1, h.2.1, h.2.2.1, va_K.moved (u := U) (U := U.calling g mk a) (Vm.Alike.refl U.vm) h.2.2.2.1, hok.2.2 U (U.calling g mk a) _ _ (State.WarmedH.refl U) (fun _ _ _ => rfl) h.2.2.2.2.1, h.2.2.2.2.2.1, h_X.moved (s := U) (U := U.calling g mk a) (State.WarmedH.refl U) h.2.2.2.2.2.2⟩
theorem l_callH (hL : l_C p s m b meth c D ca ae Ex z0 L xs) {index np maxL : Nat} {y : MethodName} {bytes : ByteArray} {hh : List (Nat × Nat × Nat × Nat)} {As : List Value} {Po' : Int32 → n_S → Int64 → Prop} (hM : h_Ct l (cw D ca (c_ad z0) ae Ex) ca z0 (z0 + 228) 11 y bytes maxL hh As σ v Po') (hmx : maxL ≤ 41)
    (hw : Cond.methodLink "ShareMonitorLaw" index y ∈ n_tb ∧ Cond.static y ∈ n_tb ∧ Cond.initialized y.cls ∈ n_tb ∧ Cond.codeWith y bytes maxL (some .int) hh ∈ n_tb)
    (hy : (y.cls ≠ "java/lang/invoke/MethodHandle" ∧ y.cls ≠ "java/lang/invoke/VarHandle") ∧ (parseMethodDescriptor y.desc).map (fun d => d.parameters.length) = some np) (hn : As.length = np) (hr : (rest.map fun v => v.category).sum ≤ 8) (hnk : n + 1 ≤ 601024 ∧ k + 6 ≤ 7293034) (hdg : decode code pc = .ok (.invokestatic index, 3))
    (kk : ∀ (r : Int32) (σ' : n_S) (v' : Int64), Po' r σ' v' → l_W p l e s m b below meth c D ca ae Ex z0 (pc + 3) ls (.int r :: rest) (σ', τ, v', n + 1, k + 6)) : l_W p l e s m b below meth c D ca ae Ex z0 pc ls (As.reverse ++ rest) (σ, τ, v, n, k) := by
  intro H locs la z1 z2
  have hL0 := hL
  obtain ⟨⟨hx, hb, hml, hown, hts, hrt, hlk, hKK, -, -⟩, hz, hK, hE, hX, -⟩ := hL
  have cw9 : vx_CSW room_1 s #[Value.ref b] "ShareMonitorLaw" index y bytes maxL (some .int) hh (.codeWith y bytes maxL (some .int) hh :: n_tb) (k_rm 11) 1 6 np := by
    refine ⟨⟨rfl, rfl, Nat.le_of_ble_eq_true rfl, ?_, ?_, List.mem_cons_self⟩, hts _ hw.2.2.2, hts _ hw.2.2.1, hy.1, fun sig h => ?_, hts _ hw.1, hts _ hw.2.1⟩
    · show 8 + (maxL + 11) + 660 ≤ 84000
      omega
    · intro x hx a' U hW
      have h : x ∈ n_tb := (List.mem_cons.mp hx).elim (fun h => h ▸ hw.2.2.2) id
      exact word_at hW (n_good h).2 (hts x h)
    · have h2 := hy.2
      rw [h] at h2
      exact (Option.some.inj h2).symm
  have hlt : z0 + 228 < H.size := (Array.getElem?_eq_some_iff.mp z2.2.2.1).1
  have hr0 := vx_runSX (e := e) (below := below) (meth := meth) (locs := locs) (cells := n) (slots := k) (g := F0 m pc la (As.reverse ++ rest)) (rest := rest) (As := As) (H := H) ⟨hx, hb, hml, hown, hts⟩ hM cw9
    ⟨h_blind _ _ hK.1 ca z0 _ σ v, fun U hU hW => ⟨rfl, by rw [hU]; exact z2.1, by rw [hU]; exact z2.2.2.1, va_K.moved hW.alike hKK, l_Ex hL0 z2.2.2.2 hU hW, by rw [hU]; omega, h_X.moved hW hX⟩⟩ rfl hn (z1.2.1.trans hml) rfl (lv_room hr) hdg ⟨hnk.1, hnk.2⟩
  intro T hT X
  rcases hr0 T hT X with ⟨v9, st0, t, T', L9, g0, X', hL9, e1, e2, ⟨⟨r, σ', v', hv, hp, hrep, hout⟩, hz9, hk9⟩, st⟩ | ⟨q, st0, t, T', L9, E, ce, g0, X', hL9, e1, e2, hF, -⟩
  · cases hv
    rw [g0] at hz9 hk9
    have out : ∀ q : Nat, q < H.size → (z0 + 187 ≤ q ∧ q ≠ z0 + 228 ∨ q < z0) → t.heap[q]? = H[q]? := fun q h1 h2 => hk9 q h1 (fun h => by
      rcases h with h | h
      · have := c_A_lo h
        omega
      · omega)
    obtain ⟨t2, a1, b1⟩ := kk r σ' v' hp T'.heap (locs ++ L9) la z1 ⟨by rw [e1]; exact hrep, fun κ i hd => (z2.2.1 κ i hd).kept (by
        have hh := r_A_lo (D := D) (ca := ca) (z0 := z0) ⟨κ, i, hd, rfl⟩
        rw [e1]
        exact out _ ((z2.2.1 κ i hd).lt) (Or.inl ⟨hh.1, by have := hh.2; omega⟩)), by rw [e1]; exact hout, l_S z2.2.2.2 (by rw [e1]; exact hz9) (fun q h1 h2 => by rw [e1]; exact out q h1 (Or.inr h2)) (fun q hq => by
        rcases hL9 q hq with h | h
        · exact (c_A_lo h).1
        · omega)⟩ T' rfl X'
    exact ⟨t2, st t2 a1, b1⟩
  · exact hF.elim
theorem l_laload (hL : l_C p s m b meth c D ca ae Ex z0 L xs) (hdg : decode code pc = .ok (.laload, 1)) (kk : l_W p l e s m b below meth c D ca ae Ex z0 (pc + 1) ls (.long v :: rest) (σ, τ, v, n, k)) : l_W p l e s m b below meth c D ca ae Ex z0 pc ls (.int 0 :: .ref (z0 + 228) :: rest) (σ, τ, v, n, k) := by
  intro H locs la z1 z2
  have hP : va_P D n_cls [(z0 + 228, .inl (ca 2, 1, .inr (.inl fun _ => v)))] H := by
    intro k q hk
    cases k with
    | zero => cases hk; exact z2.2.2.1
    | succ k => simp at hk
  exact va_lald hL.1.1 hL.1.2.1 hL.1.2.2.2.2.2.2.2.1 hP 0 2 rfl rfl (vp_in_nI (n := 0) (N := 1) (by decide) (by decide)) hdg (kk H locs la z1 z2)
theorem l_slen (hL : l_C p s m b meth c D ca ae Ex z0 L xs) (hdg : decode code pc = .ok (.arraylength, 1)) (kk : l_W p l e s m b below meth c D ca ae Ex z0 (pc + 1) ls (.int (nI L) :: rest) (σ, τ, v, n, k)) : l_W p l e s m b below meth c D ca ae Ex z0 pc ls (.ref b :: rest) (σ, τ, v, n, k) := by
  intro H locs la z1 z2
  obtain ⟨hC, hz, -, -, -, hX, hbl, -⟩ := hL
  exact va_slen hC.1 hC.2.1 hX hbl (fun h => by unfold a_A at h; omega) z2.2.2.2 hdg (kk H locs la z1 z2)
theorem l_sld (hL : l_C p s m b meth c D ca ae Ex z0 L xs) {j : Nat} (hj : j < L) (hdg : decode code pc = .ok (.iaload, 1)) (kk : l_W p l e s m b below meth c D ca ae Ex z0 (pc + 1) ls (.int (xs j) :: rest) (σ, τ, v, n, k)) : l_W p l e s m b below meth c D ca ae Ex z0 pc ls (.int (nI j) :: .ref b :: rest) (σ, τ, v, n, k) := by
  intro H locs la z1 z2
  obtain ⟨hC, hz, -, -, -, hX, hbl, hL3⟩ := hL
  have k2 := kk H locs la z1 z2
  refine va_sld hC.1 hC.2.1 hX hbl (fun h => by unfold a_A at h; omega) z2.2.2.2 (vp_in_nI hj (by omega)) hdg ?_
  rw [nI_clamp (by omega)]
  exact k2
theorem l_arg (hL : l_C p s m b meth c D ca ae Ex z0 L xs) {i j : Nat} {w : Int} (h0 : ls[0]? = some (some (.ref b))) (h4 : ls[4]? = some (some (.int (nI i)))) (hj : i + j < L) (hw : Int32.ofInt w = nI j) (hd0 : decode code pc = .ok (.aload_n 0, 1)) (hd1 : decode code (pc + 1) = .ok (.iload 4, 2)) (hd2 : decode code (pc + 3) = .ok (.iconst w, 1)) (hd3 : decode code (pc + 4) = .ok (.iadd, 1)) (hd4 : decode code (pc + 5) = .ok (.iaload, 1))
    (kk : l_W p l e s m b below meth c D ca ae Ex z0 (pc + 6) ls (.int (xs (i + j)) :: rest) (σ, τ, v, n, k)) : l_W p l e s m b below meth c D ca ae Ex z0 pc ls rest (σ, τ, v, n, k) := by
  refine jg_aload_n hL.1 hd0 rfl h0 ?_
  refine jg_iload hL.1 hd1 h4 ?_
  refine jg_iconst hL.1 hd2 hw ?_
  refine jg_iadd hL.1 hd3 ?_
  rw [nI_add]
  exact l_sld hL hj hd4 kk
theorem l_end (hL : l_C p s m b meth c D ca ae Ex z0 L xs) (hnk : n ≤ 601024 ∧ k ≤ 7293034) (hdg : decode code pc = .ok (.ireturn, 1)) : l_W p l e s m b below meth c D ca ae Ex z0 pc ls [.int 1] (σ, τ, v, n, k) := by
  intro H locs la z1 z2
  obtain ⟨hC, hz, -⟩ := hL
  refine va_forget (fun q hq => ?_) (W.widen (k := 601024) (n := 7293034) hnk.1 hnk.2 (lw_ret hC.1 hC.2.1 hC.2.2.2.2.2.1 hC.2.2.2.2.2.2.1 hdg))
  have := z2.2.2.2.2.2 q hq
  unfold a_A at this
  omega
end LL
