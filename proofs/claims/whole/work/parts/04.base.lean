/-! worlds over a pure state: what the walks are told in -/
def n_tb : List Cond := lw_tbl.filter goodWord
theorem n_in {w : Cond} (h : w ∈ tables_1) (hg : goodWord w = true) : w ∈ n_tb := List.mem_filter.mpr ⟨List.mem_append_right _ h, hg⟩
theorem n_at {w : Cond} (i : Nat) (h : tables_1[i]? = some w) (hg : goodWord w = true) : w ∈ n_tb := n_in (List.mem_of_getElem? h) hg
theorem n_sel {q : MethodName × Nat} (h : q ∈ lw_privs) (hg : goodWord (.selects q.1.cls q.1 q.1) = true) : Cond.selects q.1.cls q.1 q.1 ∈ n_tb := List.mem_filter.mpr ⟨List.mem_append_left _ (List.mem_map.mpr ⟨q, h, rfl⟩), hg⟩
theorem n_good {w : Cond} (h : w ∈ n_tb) : w ∈ lw_tbl ∧ ((w.onTables && w.keeps) = true ∨ ∃ ty, w = .arrayClass ty) := ⟨(List.mem_filter.mp h).1, good_of_word (List.mem_filter.mp h).2⟩
abbrev n_Wd (St : Type) : Type := va_G × List vw_C × List (ClassId × FieldType) × (Nat → Nat → Prop) × (Nat → Nat → Nat) × (Nat → Nat → St → va_E) × (State → Heap → Prop)
section NA
variable {St : Type}
abbrev n_D (w : n_Wd St) : va_G := w.1
abbrev n_cl (w : n_Wd St) : List vw_C := w.2.1
abbrev n_ty (w : n_Wd St) : List (ClassId × FieldType) := w.2.2.1
abbrev n_cnt (w : n_Wd St) : Nat → Nat → Prop := w.2.2.2.1
abbrev n_ad (w : n_Wd St) : Nat → Nat → Nat := w.2.2.2.2.1
abbrev n_en (w : n_Wd St) : Nat → Nat → St → va_E := w.2.2.2.2.2.1
abbrev n_Ex (w : n_Wd St) : State → Heap → Prop := w.2.2.2.2.2.2
def n_A (w : n_Wd St) : Nat → Prop := fun q => ∃ κ i, n_cnt w κ i ∧ q = n_ad w κ i
def n_Rep (w : n_Wd St) (σ : St) (H : Heap) : Prop := ∀ κ i, n_cnt w κ i → va_at (n_D w) (n_cl w) (n_ad w κ i, n_en w κ i σ) H
def n_clok (w : n_Wd St) : Prop := ∀ (ci : Nat) (q : vw_C), (n_cl w)[ci]? = some q → (∀ x ∈ u_ws q.1 q.2.1 q.2.2, x ∈ n_tb) ∧ (∀ a, a < q.2.2 → ∀ b, b < q.2.2 → a ≠ b → (q.2.1 a).2.1 ≠ (q.2.1 b).2.1) ∧ ∃ ty : Nat → FieldType, ∀ k, k < q.2.2 → parseFieldDescriptor (q.2.1 k).2.2.1 = some (ty k)
def n_inj (w : n_Wd St) : Prop := ∀ κ i κ' i', n_cnt w κ i → n_cnt w κ' i' → n_ad w κ i = n_ad w κ' i' → κ = κ' ∧ i = i'
def n_exok (w : n_Wd St) : Prop := ∀ (u U : State) (H H1 : Heap), u.WarmedH U.vm → (∀ q : Nat, q < H.size → ¬ n_A w q → H1[q]? = H[q]?) → n_Ex w u H → n_Ex w U H1
def n_ok (w : n_Wd St) : Prop := n_inj w ∧ n_clok w ∧ n_exok w
def n_rm (d : Nat) : Room := { frames := d, cells := 0, slots := 0, locals := 60 * d }
def n_ls (nL : Nat) (la : Array Slot) (ls : List (Option Value)) : Prop := ls.length = nL ∧ la.size = nL ∧ lv_wf la ∧ ∀ (i : Nat) (v : Value), ls[i]? = some (some v) → la[i]? = some (.val v)
def n_Q (w : n_Wd St) (Po : Option Value → St → Prop) : Array Value → State → Outcome → State → Prop := fun _ st oc t => (∃ (rv : Option Value) (σ' : St), oc = .returned rv ∧ Po rv σ' ∧ n_Rep w σ' t.heap) ∧ va_F (n_A w) st t
def n_W (p : Program) (l : Launch) (e : Env) (s : State) (m : MethodId) (args : Array Value) (below : List Frame) (meth : Method) (c : Code) (w : n_Wd St) (d : Nat) (Po : Option Value → St → Prop) (pc : Nat) (ls : List (Option Value)) (st : List Value) (σ : St) : Prop :=
  ∀ (H : Heap) (locs : List Loc) (la : Array Slot), n_ls c.maxLocals la ls → n_Rep w σ H → va_S (n_A w) s.heap H locs → W p l e (n_rm d) s m args below meth c H locs 0 0 (MQ below (n_Q w Po) args s 0 0 (n_A w)) (F0 m pc la st)
def n_C (p : Program) (s : State) (m : MethodId) (args : Array Value) (meth : Method) (c : Code) (w : n_Wd St) (cc : ByteArray) (nL : Nat) (own : String) (ret : Option FieldType) : Prop :=
  p.tables.exec = Jvm.exec ∧ c.code = cc ∧ c.maxLocals = nL ∧ s.vm.findClass own = some m.cls ∧ (∀ x ∈ n_tb, x.before args s = true) ∧ meth.sig.returnType = ret ∧ meth.locks = false ∧ va_K (n_D w) (n_cl w) (n_ty w) s ∧ n_Ex w s s.heap ∧ n_ok w
def n_U (w : n_Wd St) (σ : St) (U : State) : Prop := n_Rep w σ U.heap ∧ va_K (n_D w) (n_cl w) (n_ty w) U ∧ n_Ex w U U.heap ∧ n_ok w
def n_Ct (l : Launch) (w : n_Wd St) (d : Nat) (y : MethodName) (bytes : ByteArray) (maxL : Nat) (ret : Option FieldType) (av : List Value) (σ : St) (Po : Option Value → St → Prop) : Prop :=
  Met l y (.code y bytes maxL ret :: n_tb) (n_rm d) (va_Pc av (n_U w σ)) (n_Q w Po) 0 0 (n_A w)
theorem n_Rep.set {w : n_Wd St} {σ σ' : St} {H H1 : Heap} {κ i : Nat} (hj : n_inj w) (hi : n_cnt w κ i) (h : n_Rep w σ H) (he : va_at (n_D w) (n_cl w) (n_ad w κ i, n_en w κ i σ') H1) (oq : ∀ q : Nat, q ≠ n_ad w κ i → H1[q]? = H[q]?)
    (ho : ∀ κ' i', n_cnt w κ' i' → ¬ (κ' = κ ∧ i' = i) → n_en w κ' i' σ' = n_en w κ' i' σ) : n_Rep w σ' H1 := by
  intro κ' i' hi'
  by_cases hk : κ' = κ ∧ i' = i
  · obtain ⟨rfl, rfl⟩ := hk
    exact he
  · rw [ho κ' i' hi' hk]
    exact (h κ' i' hi').kept (oq _ (fun e => hk (hj κ' i' κ i hi' hi e)))
theorem n_A.in {w : n_Wd St} {κ i : Nat} (hi : n_cnt w κ i) : n_A w (n_ad w κ i) := ⟨κ, i, hi, rfl⟩
def n_lv (ls : List (Option Value)) : List (Nat × Value) := (List.range ls.length).filterMap (fun i => (ls[i]?.join).map (fun v => (i, v)))
theorem n_lv_mem {ls : List (Option Value)} {q : Nat × Value} (h : q ∈ n_lv ls) : ls[q.1]? = some (some q.2) := by
  obtain ⟨i, -, hi⟩ := List.mem_filterMap.mp h
  cases hj : ls[i]?.join with
  | none => rw [hj] at hi; cases hi
  | some v =>
    rw [hj] at hi
    cases hi
    cases hk : ls[i]? with
    | none => rw [hk] at hj; cases hj
    | some o => rw [hk] at hj; exact congrArg some hj
theorem n_lv_in {ls : List (Option Value)} {i : Nat} {v : Value} (h : ls[i]? = some (some v)) : (i, v) ∈ n_lv ls :=
  List.mem_filterMap.mpr ⟨i, List.mem_range.mpr (List.getElem?_eq_some_iff.mp h).1, by rw [h]; rfl⟩
theorem n_ls.has {nL : Nat} {la : Array Slot} {ls : List (Option Value)} (h : n_ls nL la ls) : lv_has la nL (n_lv ls) := ⟨h.2.1, h.2.2.1, fun q hq => h.2.2.2 q.1 q.2 (n_lv_mem hq)⟩
def n_clr (ls : List (Option Value)) (i : Nat) : List (Option Value) := match i with
  | 0 => ls
  | j + 1 => match ls[j]? with
    | some (some v) => if v.category = 2 then ls.set j none else ls
    | _ => ls
def n_st1 (ls : List (Option Value)) (i : Nat) (v : Value) : List (Option Value) := (n_clr ls i).set i (some v)
def n_st2 (ls : List (Option Value)) (i : Nat) (v : Value) : List (Option Value) := ((n_clr ls i).set i (some v)).set (i + 1) none
theorem n_clr_len (ls : List (Option Value)) (i : Nat) : (n_clr ls i).length = ls.length := by
  unfold n_clr
  split
  · rfl
  · split
    · split
      · simp
      · rfl
    · rfl
theorem n_clr_at {ls : List (Option Value)} {i j : Nat} {v : Value} (h : (n_clr ls i)[j]? = some (some v)) : ls[j]? = some (some v) ∧ ¬ (j + 1 = i ∧ v.category = 2) := by
  unfold n_clr at h
  split at h
  · exact ⟨h, fun q => by omega⟩
  · rename_i k
    split at h
    · rename_i u hu
      split at h
      · rename_i hc
        rw [List.getElem?_set] at h
        split at h
        · split at h <;> simp at h
        · rename_i hne
          exact ⟨h, fun q => hne (by omega)⟩
      · rename_i hc
        refine ⟨h, fun q => hc ?_⟩
        have : j = k := by omega
        subst this
        rw [hu] at h
        cases h
        exact q.2
    · rename_i hn
      refine ⟨h, fun q => hn v ?_⟩
      have : j = k := by omega
      subst this
      exact h
theorem n_has1 {nL : Nat} {la la' : Array Slot} {ls : List (Option Value)} {i : Nat} {v : Value} (h : n_ls nL la ls) (hh : lv_has la' nL ((i, v) :: (n_lv ls).filter (fun q => !(q.1 == i) && !(q.1 + 1 == i && q.2.category == 2)))) : n_ls nL la' (n_st1 ls i v) := by
  refine ⟨by unfold n_st1; rw [List.length_set, n_clr_len]; exact h.1, hh.1, hh.2.1, fun j u hj => ?_⟩
  unfold n_st1 at hj
  rw [List.getElem?_set] at hj
  split at hj
  · rename_i hij
    subst hij
    split at hj
    · cases hj
      exact hh.2.2 _ List.mem_cons_self
    · cases hj
  · rename_i hij
    obtain ⟨h1, h2⟩ := n_clr_at hj
    refine hh.2.2 (j, u) (List.mem_cons_of_mem _ (List.mem_filter.mpr ⟨n_lv_in h1, ?_⟩))
    simp only [Bool.and_eq_true, Bool.not_eq_true', beq_eq_false_iff_ne, ne_eq, Bool.and_eq_false_iff]
    refine ⟨fun q => hij q.symm, ?_⟩
    by_cases q : j + 1 = i
    · exact Or.inr (fun z => h2 ⟨q, z⟩)
    · exact Or.inl q
theorem n_has2 {nL : Nat} {la la' : Array Slot} {ls : List (Option Value)} {i : Nat} {v : Value} (h : n_ls nL la ls) (hh : lv_has la' nL ((i, v) :: (n_lv ls).filter (fun q => !(q.1 == i) && (!(q.1 == i + 1) && !(q.1 + 1 == i && q.2.category == 2))))) : n_ls nL la' (n_st2 ls i v) := by
  refine ⟨by unfold n_st2; rw [List.length_set, List.length_set, n_clr_len]; exact h.1, hh.1, hh.2.1, fun j u hj => ?_⟩
  unfold n_st2 at hj
  rw [List.getElem?_set] at hj
  split at hj
  · split at hj <;> simp at hj
  · rename_i hij1
    rw [List.getElem?_set] at hj
    split at hj
    · rename_i hij
      subst hij
      split at hj
      · cases hj
        exact hh.2.2 _ List.mem_cons_self
      · cases hj
    · rename_i hij
      obtain ⟨h1, h2⟩ := n_clr_at hj
      refine hh.2.2 (j, u) (List.mem_cons_of_mem _ (List.mem_filter.mpr ⟨n_lv_in h1, ?_⟩))
      simp only [Bool.and_eq_true, Bool.not_eq_true', beq_eq_false_iff_ne, ne_eq, Bool.and_eq_false_iff]
      refine ⟨fun q => hij q.symm, fun q => hij1 q.symm, ?_⟩
      by_cases q : j + 1 = i
      · exact Or.inr (fun z => h2 ⟨q, z⟩)
      · exact Or.inl q
def n_l0 (nL : Nat) (av : List Value) : List (Option Value) := (av.flatMap fun v => if v.category = 2 then [some v, none] else [some v]) ++ List.replicate (nL - (av.flatMap fun v => if v.category = 2 then [some v, none] else [some v] : List (Option Value)).length) none
end NA
