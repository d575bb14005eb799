theorem n_sfv (u : State) (vm' : Vm) (F G : List Frame) : ((u.setFrames F).setVm vm').setFrames G = (u.setVm vm').setFrames G := by
  have h1 : (u.setFrames F).setVm vm' = (u.setVm vm').setFrames F := rfl
  rw [h1, State.setFrames_setFrames]
/-- a row of the exception table that links: taken if the class fits, else passed; the link is noted -/
theorem n_rowL {Q : Handler → Pre} {E : CtlPost} {e : Env} {d : Bool} {acts : List Action} {s : State} {f : JFrame} {a : Addr} {x : ExceptionTableEntry} {t : List ExceptionTableEntry} {c : ClassId} {cell : Cell} (hx : covers x f.pc = true) (h0 : x.catchType ≠ 0)
    (hl : s.vm.ClassLinks e.platform f.method.cls x.catchType c) (hcell : s.heap[a]? = some cell) (hobj : ∀ k, cell.vm ≠ .statics k) (hk : ∃ k, s.vm.classes[cell.cls]? = some k) (hc : ∃ k, s.vm.classes[c]? = some k) :
    Sem.wp (findHandler.go f a (x :: t)) Q E e d acts s ↔ (if s.vm.assignable cell.cls c = true then Q (.found x.handlerPc) d acts (s.setVm (s.vm.noted f.method.cls x.catchType (.cls c))) else Sem.wp (findHandler.go f a t) Q E e d acts (s.setVm (s.vm.noted f.method.cls x.catchType (.cls c)))) := by
  simp only [covers] at hx
  obtain ⟨g1, g2⟩ := (resolveClass_links e.toSetting hl).op (op := VmOp.resolveClass f.method.cls x.catchType) rfl
  have al : s.vm.Alike (s.vm.noted f.method.cls x.catchType (.cls c)) := (Vm.Alike.refl s.vm).noted _ _ _
  obtain ⟨u1, hu1⟩ := hk
  obtain ⟨u2, hu2⟩ := hc
  obtain ⟨w1, hw1, -⟩ := al.2.2 _ _ hu1
  obtain ⟨w2, hw2, -⟩ := al.2.2 _ _ hu2
  by_cases hf : s.vm.assignable cell.cls c = true
  · have hf' : (s.vm.noted f.method.cls x.catchType (.cls c)).assignable cell.cls c = true := by rw [al.assignable]; exact hf
    rw [if_pos hf]
    simp [findHandler.go, hx, h0, g1, g2, hcell, hobj, hw1, hw2, hf', VmOp.dirties, VmOp.acts]
  · have hf' : (s.vm.noted f.method.cls x.catchType (.cls c)).assignable cell.cls c = false := by rw [al.assignable]; simpa using hf
    rw [if_neg hf]
    simp [findHandler.go, hx, h0, g1, g2, hcell, hobj, hw1, hw2, hf', VmOp.dirties, VmOp.acts]
/-- the search over rows that are passed, up to the one that takes it -/
theorem n_rows {e : Env} {s0 : State} {f : JFrame} {a : Addr} {cell : Cell} (hobj : ∀ k, cell.vm ≠ .statics k) (hk0 : ∃ k, s0.vm.classes[cell.cls]? = some k) (x : ExceptionTableEntry) (suf : List ExceptionTableEntry) (hx : covers x f.pc = true) (h0 : x.catchType ≠ 0) {cT : ClassId} (hlx : s0.vm.ClassLinks e.platform f.method.cls x.catchType cT) (hfit : s0.vm.assignable cell.cls cT = true) :
    ∀ (pre : List ExceptionTableEntry) (S : State), s0.WarmedH S.vm → S.heap[a]? = some cell → (∀ y ∈ pre, covers y f.pc = false ∨ (y.catchType ≠ 0 ∧ ∃ c, s0.vm.ClassLinks e.platform f.method.cls y.catchType c ∧ s0.vm.assignable cell.cls c = false)) →
      ∃ vm', s0.WarmedH vm' ∧ ∀ (Q : Handler → Pre) (E : CtlPost) (d : Bool) (acts : List Action), Sem.wp (findHandler.go f a (pre ++ x :: suf)) Q E e d acts S ↔ Q (.found x.handlerPc) d acts (S.setVm vm') := by
  obtain ⟨k0, hk0⟩ := hk0
  intro pre
  induction pre with
  | nil =>
    intro S hW hcell _
    obtain ⟨k1, hk1, -⟩ := hW.alike.2.2 _ _ hk0
    obtain ⟨dk, _, _, kt, hd, _, _, _, _, hkt, _, hopen⟩ := hlx.here
    obtain ⟨kt1, hkt1, -⟩ := hW.alike.2.2 _ _ hkt
    refine ⟨_, hW.noted hd hopen (State.rightAt_cls hlx), fun Q E d acts => ?_⟩
    rw [List.nil_append, n_rowL hx h0 (hW.classLinks hlx) hcell hobj ⟨k1, hk1⟩ ⟨kt1, hkt1⟩, if_pos (by rw [hW.alike.assignable]; exact hfit)]
  | cons y ys ih =>
    intro S hW hcell hpass
    have hys : ∀ z ∈ ys, covers z f.pc = false ∨ (z.catchType ≠ 0 ∧ ∃ c, s0.vm.ClassLinks e.platform f.method.cls z.catchType c ∧ s0.vm.assignable cell.cls c = false) := fun z hz => hpass z (List.mem_cons_of_mem _ hz)
    rcases hpass y List.mem_cons_self with hn | ⟨hy0, c, hl, hno⟩
    · obtain ⟨vm', hW', hq⟩ := ih S hW hcell hys
      refine ⟨vm', hW', fun Q E d acts => ?_⟩
      rw [List.cons_append, W.findHandler_go_skip hn]
      exact hq Q E d acts
    · by_cases hcov : covers y f.pc = true
      · obtain ⟨k1, hk1, -⟩ := hW.alike.2.2 _ _ hk0
        obtain ⟨dk, _, _, kt, hd, _, _, _, _, hkt, _, hopen⟩ := hl.here
        obtain ⟨kt1, hkt1, -⟩ := hW.alike.2.2 _ _ hkt
        obtain ⟨vm', hW', hq⟩ := ih (S.setVm (S.vm.noted f.method.cls y.catchType (.cls c))) (hW.noted hd hopen (State.rightAt_cls hl)) hcell hys
        refine ⟨vm', hW', fun Q E d acts => ?_⟩
        rw [List.cons_append, n_rowL hcov hy0 (hW.classLinks hl) hcell hobj ⟨k1, hk1⟩ ⟨kt1, hkt1⟩, if_neg (by rw [hW.alike.assignable, hno]; decide)]
        exact hq Q E d acts
      · obtain ⟨vm', hW', hq⟩ := ih S hW hcell hys
        refine ⟨vm', hW', fun Q E d acts => ?_⟩
        rw [List.cons_append, W.findHandler_go_skip (by simpa using hcov)]
        exact hq Q E d acts
/-- what was thrown into a frame goes on at the handler -/
theorem n_caught {p : Program} {l : Launch} {e : Env} {R : Room} {s : State} {m : MethodId} {args : Array Value} {below : List Frame} {meth : Method} {c : Code} {T : State} {locs : List Loc} {cells slots : Nat} (X : Stand p l e R s m args below meth c T locs cells slots) (a : Addr) {g : JFrame} (hg : g.method = m) {cell : Cell} (hcell : T.heap[a]? = some cell) (hobj : cell.vm.isStatics = false) (hk0 : ∃ k, s.vm.classes[cell.cls]? = some k) (pre : List ExceptionTableEntry) (x : ExceptionTableEntry) (suf : List ExceptionTableEntry) (hsplit : c.exceptionTable.toList = pre ++ x :: suf)
    (hpass : ∀ y ∈ pre, covers y g.pc = false ∨ (y.catchType ≠ 0 ∧ ∃ c, s.vm.ClassLinks e.platform m.cls y.catchType c ∧ s.vm.assignable cell.cls c = false)) (hx : covers x g.pc = true) (h0 : x.catchType ≠ 0) {cT : ClassId} (hlx : s.vm.ClassLinks e.platform m.cls x.catchType cT) (hfit : s.vm.assignable cell.cls cT = true) :
    ∃ vm', Stand p l e R s m args below meth c (T.setVm vm') locs cells slots ∧ Steps p.tables e below ((T.setTop g).pushFrame (.throwing a)) ((T.setVm vm').setTop { g with pc := x.handlerPc, stack := [.ref a] }) := by
  subst hg
  obtain ⟨vm', hW', hq⟩ := n_rows (e := e) (s0 := s) (f := g) (a := a) (VmData.ne_statics_of hobj) hk0 x suf hx h0 hlx hfit pre ((T.setTop g).pushFrame (.throwing a)) X.warmed hcell hpass
  refine ⟨vm', X.noted hW', ?_⟩
  have hfind : ∀ (Q : Handler → Pre) (E : CtlPost) (d : Bool) (acts : List Action), Sem.wp (findHandler g a) Q E e d acts ((T.setTop g).pushFrame (.throwing a)) ↔ Q (.found x.handlerPc) d acts (((T.setTop g).pushFrame (.throwing a)).setVm vm') := fun Q E d acts => by
    rw [W.findHandler_eq (s := (T.setTop g).pushFrame (.throwing a)) (meth := meth) (code := c) X.method' X.code, hsplit]
    exact hq Q E d acts
  obtain ⟨hgo, hw⟩ := X.here.throwing a
  refine Steps.head hgo hw ?_
  have hstep : ∀ r : List Frame, (stepThrowing e ((T.setTop g).pushFrame (.throwing a)) a (.java g :: r)).Is ((((T.setTop g).pushFrame (.throwing a)).setVm vm').setFrames (.java { g with pc := x.handlerPc, stack := [.ref a] } :: r)) [] := by
    intro r
    simp only [stepThrowing, searchFrame, vmDo]
    generalize hr : Sem.go _ e false [] ((T.setTop g).pushFrame (.throwing a)) = res
    obtain ⟨as, rfl, ha⟩ := Sem.eq_ok_of hr (a := Handler.found x.handlerPc) (s' := ((T.setTop g).pushFrame (.throwing a)).setVm vm') (acts' := []) (by simp [hfind _ _ _ _])
    exact ⟨rfl, ha⟩
  rw [stepThread_throwing (frames_entered X.here.top _), (hstep _).1]
  obtain ⟨g0, hg0⟩ := Option.isSome_iff_exists.mp X.here.top
  obtain ⟨r, hr⟩ := State.topJava?_eq_some.mp hg0
  have hr' : (T.setVm vm').frames = .java g0 :: r := hr
  rw [State.setTop_of_frames _ hr', hr, List.tail_cons, State.pushFrame, n_sfv, State.setTop_of_frames _ hr, n_sfv]
  exact Steps.refl _
