/-! the law's helpers: a call of the class, what it answers into a row of one long, what it throws caught -/
def h_ex : List String := ["java/lang/UnsupportedOperationException", "java/lang/IllegalArgumentException", "java/lang/IndexOutOfBoundsException", "java/lang/IllegalStateException"]
def h_X (U : State) : Prop := (∀ E ∈ h_ex, va_Nw (.castable E E) U) ∧ ∀ E ∈ h_ex, ∀ F ∈ h_ex, E ≠ F → va_Nc E F U
theorem h_X.moved {s U : State} (hW : s.WarmedH U.vm) (h : h_X s) : h_X U := ⟨fun E hE => va_Nw.warmC hW (h.1 E hE), fun E hE F hF hn => va_Nc.moved hW.alike (h.2 E hE F hF hn)⟩
def h_out (ca : Nat → ClassId) (v : Int64) : Cell := vp_cell (ca 2) (1, .inr (.inl fun _ => v))
abbrev h_St : Type := n_S × Int64 × Nat × Nat
def h_A (w : n_Wd n_S) (qo : Nat) : Nat → Prop := fun q => n_A w q ∨ q = qo
def h_G (w : n_Wd n_S) (ca : Nat → ClassId) (qo : Nat) (s : State) (x : h_St) (H : Heap) (locs : List Loc) : Prop := n_Rep w x.1 H ∧ H[qo]? = some (h_out ca x.2.1) ∧ va_S (h_A w qo) s.heap H locs
def h_K (w : n_Wd n_S) (z0 qo : Nat) : Prop := n_ok w ∧ (∀ q, n_A w q → z0 ≤ q) ∧ z0 ≤ qo ∧ ¬ n_A w qo ∧ ∀ (u U : State) (H H1 : Heap), u.WarmedH U.vm → (∀ q : Nat, q < z0 → H1[q]? = H[q]?) → n_Ex w u H → n_Ex w U H1
def h_U (w : n_Wd n_S) (ca : Nat → ClassId) (z0 qo : Nat) (σ : n_S) (v : Int64) (U : State) : Prop := n_Rep w σ U.heap ∧ U.heap[qo]? = some (h_out ca v) ∧ va_K (n_D w) n_cls (n_tys ca) U ∧ n_Ex w U U.heap ∧ z0 ≤ U.heap.size ∧ h_X U
def h_Q (w : n_Wd n_S) (ca : Nat → ClassId) (qo : Nat) (Po : Int32 → n_S → Int64 → Prop) : Array Value → State → Outcome → State → Prop := fun _ st oc t => (∃ (r : Int32) (σ' : n_S) (v' : Int64), oc = .returned (some (.int r)) ∧ Po r σ' v' ∧ n_Rep w σ' t.heap ∧ t.heap[qo]? = some (h_out ca v')) ∧ va_F (h_A w qo) st t
def h_Ct (l : Launch) (w : n_Wd n_S) (ca : Nat → ClassId) (z0 qo d : Nat) (y : MethodName) (bytes : ByteArray) (maxL : Nat) (hh : List (Nat × Nat × Nat × Nat)) (av : List Value) (σ : n_S) (v : Int64) (Po : Int32 → n_S → Int64 → Prop) : Prop :=
  vx_Met l y (.codeWith y bytes maxL (some .int) hh :: n_tb) (k_rm d) (va_Pc av (h_U w ca z0 qo σ v)) (h_Q w ca qo Po) (fun _ _ _ => False) 1 6 (h_A w qo)
section HL
variable {p : Program} {l : Launch} {e : Env} {s : State} {m : MethodId} {args : Array Value} {below : List Frame} {meth : Method} {c : Code} {D : va_G} {ca : Nat → ClassId} {ad : Nat → Nat → Nat} {ae : Nat → Nat} {Ex : State → Heap → Prop} {z0 qo d : Nat} {cc : ByteArray} {nL : Nat} {own : String} {Po : Int32 → n_S → Int64 → Prop}
variable {pc : Nat} {ls : List (Option Value)} {rest : List Value} {σ : n_S} {v : Int64} {n k : Nat}
abbrev h_W (p : Program) (l : Launch) (e : Env) (s : State) (m : MethodId) (args : Array Value) (below : List Frame) (meth : Method) (c : Code) (w : n_Wd n_S) (ca : Nat → ClassId) (qo d : Nat) (Po : Int32 → n_S → Int64 → Prop) (pc : Nat) (ls : List (Option Value)) (st : List Value) (x : h_St) : Prop :=
  g_W p l e s m args below meth c (k_rm d) (vx_MQ below (h_Q w ca qo Po) (fun _ _ _ => False) args s 1 6 (h_A w qo)) (h_G w ca qo s) (fun x : h_St => x.2.2) pc ls st x
theorem h_last (hC : n_C p s m args meth c (aw D ca) cc nL own (some .int)) {x : Int64} (hq : ¬ n_A (cw D ca ad ae Ex) qo) (hdg : decode cc pc = .ok (.lastore, 1))
    (kk : h_W p l e s m args below meth c (cw D ca ad ae Ex) ca qo d Po (pc + 1) ls rest (σ, x, n, k)) : h_W p l e s m args below meth c (cw D ca ad ae Ex) ca qo d Po pc ls (.long x :: .int 0 :: .ref qo :: rest) (σ, v, n, k) := by
  intro H locs la z1 z2
  have hat : H[qo]? = some (h_out ca v) := z2.2.1
  unfold h_out at hat
  refine W.last hC.1 hC.2.1 hat ((hC.2.2.2.2.2.2.2.1.2 2 _ rfl).1 1 (fun j => .long v)) (fun q => by cases q) (by show ¬ ((0 : Int32) < 0 ∨ (arrV _ _ _).slots.size ≤ _); rw [arrV_size]; exact (by decide : ¬ ((0 : Int32) < 0 ∨ 1 ≤ (0 : Int32).toNatClampNeg))) rfl rfl hdg fun H1 e1 e2 oq => ?_
  refine kk H1 _ la z1 ⟨fun κ i hi => (z2.1 κ i hi).kept (oq _ (fun e => hq ⟨κ, i, hi, e.symm⟩)), ?_, z2.2.2.put e2 oq (Or.inr rfl)⟩
  unfold h_out
  show H1[qo]? = some (vp_cell _ _)
  rw [e1, vp_cell_l, vp_cell_l, arrV_store]
  refine congrArg some (arrV_ext (fun j hj => ?_))
  show updV (fun _ => Value.long v) (Int32.toNatClampNeg 0) (Value.long x) j = .long x
  unfold updV
  have : j = 0 := by omega
  rw [if_pos (by rw [this]; rfl)]
theorem h_iret (hC : n_C p s m args meth c (aw D ca) cc nL own (some .int)) {r : Int32} (hdg : decode cc pc = .ok (.ireturn, 1)) (hP : Po r σ v) : h_W p l e s m args below meth c (cw D ca ad ae Ex) ca qo d Po pc ls [.int r] (σ, v, 1, 6) := by
  intro H locs la z1 z2
  exact vx_ret (W.iret hC.1 hC.2.1 hC.2.2.2.2.2.1 (fun t ht _ => ⟨⟨_, _, _, rfl, hP, by rw [ht]; exact z2.1, by rw [ht]; exact z2.2.1⟩, z2.2.2.F ht⟩) z2.2.2.2.2 hdg hC.2.2.2.2.2.2.1)
theorem h_call (hC : n_C p s m args meth c (aw D ca) cc nL "ShareMonitorLaw" (some .int)) {hh : List (Nat × Nat × Nat × Nat)} (hTb : c.exceptionTable.toList = tableOf hh) (hK : h_K (cw D ca ad ae Ex) z0 qo) (hE0 : Ex s s.heap) (hz0 : z0 ≤ s.heap.size) (hX : h_X s) {index np d' maxL : Nat} {y : MethodName} {bytes : ByteArray} {ret' : Option FieldType} {As : List Value} {Po' : Option Value → n_S → Prop} {Px' : String → n_S → Prop} (hM : k_Ct l (cw D ca ad ae Ex) d' y bytes maxL ret' (.ref (ad 0 0) :: As) σ Po' Px') (hd : d' + 1 ≤ d) (hmx : maxL ≤ 41)
    (hyc : y.cls = "ShareMonitor") (hw : Cond.methodLink "ShareMonitorLaw" index y ∈ n_tb ∧ Cond.instanceMethod y ∈ n_tb ∧ Cond.selects y.cls y y ∈ n_tb ∧ Cond.initialized y.cls ∈ n_tb ∧ Cond.code y bytes maxL ret' ∈ n_tb)
    (hy : (y.cls ≠ "java/lang/invoke/MethodHandle" ∧ y.cls ≠ "java/lang/invoke/VarHandle") ∧ (parseMethodDescriptor y.desc).map (fun d => d.parameters.length) = some np) (hn : As.length = np) (hr : (rest.map fun v => v.category).sum ≤ 8) (hdg : decode cc pc = .ok (.invokevirtual index, 3))
    (kk : ∀ (rv : Option Value) (σ' : n_S), Po' rv σ' → h_W p l e s m args below meth c (cw D ca ad ae Ex) ca qo d Po (pc + 3) ls (rv.toList ++ rest) (σ', v, 1, 6))
    (kx : ∀ (E : String) (σ' : n_S), Px' E σ' → ∃ (pre : List ExceptionTableEntry) (x : ExceptionTableEntry) (suf : List ExceptionTableEntry) (nm : String), tableOf hh = pre ++ x :: suf ∧ (∀ z ∈ pre, covers z pc = false ∨ (z.catchType ≠ 0 ∧ ∃ nm : String, Cond.classLink "ShareMonitorLaw" z.catchType nm ∈ n_tb ∧ va_Nc E nm s)) ∧ covers x pc = true ∧ x.catchType ≠ 0 ∧ Cond.classLink "ShareMonitorLaw" x.catchType nm ∈ n_tb ∧ va_Nw (.castable E nm) s ∧ ∀ q : Nat, h_W p l e s m args below meth c (cw D ca ad ae Ex) ca qo d Po x.handlerPc ls [.ref q] (σ', v, 1, 6)) : h_W p l e s m args below meth c (cw D ca ad ae Ex) ca qo d Po pc ls (As.reverse ++ .ref (ad 0 0) :: rest) (σ, v, 0, 0) := by
  intro H locs la z1 z2
  obtain ⟨hx, hb, hml, hown, hts, hrt, hlk, hKK, -, -⟩ := hC
  obtain ⟨hok, hAz, hqz, hqn, hst⟩ := hK
  have hP : va_P D n_cls [(ad 0 0, .inr (9, [.ref (ad 1 0), .ref (ad 3 0), .ref (ad 9 0), .ref (ad 20 0)]))] H := by
    intro k q hk
    cases k with
    | zero => cases hk; exact z2.1 0 0 rfl
    | succ k => simp at hk
  have hrv := va_recv hKK hP (show n_cls[9]? = some _ from rfl) (q0 := 0) rfl
  have hrv : ∃ cellB : Cell, H[ad 0 0]? = some cellB ∧ cellB.vm.isStatics = false ∧ s.vm.findClass y.cls = some cellB.cls := by rw [hyc]; exact hrv
  have cw9 : CallW (k_rm d) s args "ShareMonitorLaw" y.cls index y bytes maxL ret' (.code y bytes maxL ret' :: n_tb) (k_rm d') 1 6 np := by
    refine ⟨⟨rfl, rfl, hd, ?_, n_wsok hts hw.2.2.2.2, List.mem_cons_self, hts _ hw.2.2.2.2, hts _ hw.2.2.2.1, hy.1, fun sig h => ?_, hts _ hw.1⟩, hts _ hw.2.1, hts _ hw.2.2.1⟩
    · show 8 + (maxL + 11) + 60 * d' ≤ 60 * d
      omega
    · have h2 := hy.2
      rw [h] at h2
      exact (Option.some.inj h2).symm
  have hH0 : ∀ q : Nat, q < z0 → H[q]? = s.heap[q]? := fun q hq => z2.2.2.2.1 q (by omega) (fun h => by
    rcases h with h | h
    · have := hAz q h
      omega
    · omega)
  have hr0 := vx_runV (e := e) (below := below) (meth := meth) (locs := locs) (cells := 0) (slots := 0) (g := F0 m pc la (As.reverse ++ .ref (ad 0 0) :: rest)) (rest := rest) (As := As) (b := ad 0 0) (H := H) ⟨hx, hb, hml, hown, hts⟩ hM cw9
    ⟨n_blind _ (cw D ca ad ae Ex) σ, hrv, fun U hU hW => ⟨rfl, by rw [hU]; exact z2.1, va_K.moved hW.alike hKK, hst s U s.heap U.heap hW (fun q hq => by rw [hU]; exact hH0 q hq) hE0, hok⟩⟩ rfl hn (z1.2.1.trans hml) rfl (lv_room hr) hdg ⟨Nat.le_refl _, Nat.le_refl _⟩
  have hlt : qo < H.size := (Array.getElem?_eq_some_iff.mp z2.2.1).1
  have hS : ∀ {H1 : Heap} {L : List Loc}, H.size ≤ H1.size → (∀ q : Nat, q < H.size → ¬ n_A (cw D ca ad ae Ex) q → H1[q]? = H[q]?) → (∀ q ∈ L, n_A (cw D ca ad ae Ex) q.base) → va_S (h_A (cw D ca ad ae Ex) qo) s.heap H1 (locs ++ L) := fun {H1 L} h1 h2 h3 =>
    ⟨Nat.le_trans z2.2.2.1 h1, fun q a b => (h2 q (Nat.lt_of_lt_of_le a z2.2.2.1) (fun z => b (Or.inl z))).trans (z2.2.2.2.1 q a b), fun q hq => by
      rcases List.mem_append.mp hq with h | h
      · exact z2.2.2.2.2 q h
      · exact Or.inl (h3 q h)⟩
  intro T hT X
  rcases hr0 T hT X with ⟨v9, st0, t, T', L, g0, X', hL, e1, e2, ⟨⟨rv, σ', hv, hp, hrep⟩, hz, hk⟩, st⟩ | ⟨q, st0, t, T', L, E, ce, g0, X', hL, e1, e2, ⟨⟨σ', hp, hrep⟩, hz, hk⟩, hce, hcv, hcl, st⟩
  · cases hv
    rw [g0] at hz hk
    obtain ⟨t2, a1, b1⟩ := kk _ σ' hp T'.heap (locs ++ L) la z1 ⟨by rw [e1]; exact hrep, by rw [e1, hk qo hlt hqn]; exact z2.2.1, hS (by rw [e1]; exact hz) (by rw [e1]; exact hk) hL⟩ T' rfl X'
    exact ⟨t2, st t2 a1, b1⟩
  · rw [g0] at hz hk
    obtain ⟨pre, x, suf, nm, hsp, hpa, hcv2, hct, hlk2, hca2, hkk⟩ := kx E σ' hp
    have hcat := vx_catch (p := p) (l := l) (e := e) (R := k_rm d) (s := s) (m := m) (args := args) (below := below) (meth := meth) (c := c) (H := T'.heap) (locs := locs ++ L) (cells := 0 + 1) (slots := 0 + 6) (ls := la) (rest := rest) (pc := pc) (E := E) (name := nm) (ce := ce) (q := q) hown pre x suf (hTb.trans hsp) (fun z hz => by
      rcases hpa z hz with h | ⟨h1, nm2, h2, h3⟩
      · exact Or.inl h
      · exact Or.inr ⟨h1, nm2, hts _ h2, h3⟩) hcv2 hct (hts _ hlk2) (va_Nw.use rfl hca2) (by rw [e1]; exact hce) hcv hcl
      (hkk q T'.heap (locs ++ L) la z1 ⟨by rw [e1]; exact hrep, by rw [e1, hk qo hlt hqn]; exact z2.2.1, hS (by rw [e1]; exact hz) (by rw [e1]; exact hk) hL⟩)
    obtain ⟨t2, a1, b1⟩ := hcat T' rfl X'
    exact ⟨t2, st.trans a1, b1⟩
theorem h_ofW {y : MethodName} {bytes : ByteArray} {maxL : Nat} {hh : List (Nat × Nat × Nat × Nat)} {av : List Value} (hy : plainName y.cls = true) (hlen : (lg_sl av).length ≤ maxL)
    (body : ∀ (p : Program) (e : Env) (s : State) (m : MethodId) (below : List Frame) (meth : Method) (c : Code), n_C p s m av.toArray meth c (aw D ca) bytes maxL y.cls (some .int) → c.exceptionTable.toList = tableOf hh → Ex s s.heap → z0 ≤ s.heap.size → h_X s → h_W p l e s m av.toArray below meth c (cw D ca ad ae Ex) ca qo d Po 0 (n_l0 maxL av) [] (σ, v, 0, 0)) : h_Ct l (cw D ca ad ae Ex) ca z0 qo d y bytes maxL hh av σ v Po := by
  refine vx_ofWH (cc := bytes) (maxL := maxL) (ret := some .int) (hh := hh) hy rfl ?_
  intro p e s m args below meth c s₁ B hml hP
  obtain ⟨rfl, hrep, hout, hK, hE, hz, hX⟩ := hP
  have hts := atoms_spec (ws := .codeWith y bytes maxL (some .int) hh :: n_tb) B.pre
  rw [lg_entry_eq]
  exact body p e s m below meth c ⟨B.exec, B.bytes, hml, findClass_of_methodNamed B.named, fun x hx => hts x (List.mem_cons_of_mem _ hx), B.returns, B.notSynchronized, hK, trivial, aw_ok D ca⟩ (vx_table (x := y) B (hts _ List.mem_cons_self)) hE hz hX s.heap [] _ (by rw [hml]; exact n_ls0 maxL av hlen) ⟨hrep, hout, va_S.rf⟩
end HL
