def k_nm : List String := ["java/lang/RuntimeException", "java/lang/Exception"]
/-- what the system throws: the class's entry, its maker's entry, its name -/
def k_cx : List (Nat × Nat × String) := [(45, 49, "java/lang/UnsupportedOperationException"), (56, 60, "java/lang/IllegalArgumentException"), (61, 65, "java/lang/IndexOutOfBoundsException"), (126, 130, "java/lang/IllegalStateException")]
def k_tx : List (Nat × String) := [(47, "the tape is full"), (58, "the tape has not so many bytes"), (63, "no such level"), (74, "no process is free"), (99, "not so many ticks"), (101, "no such quantum"), (110, "no such process"), (128, "it is not ended without a parent"), (137, "it is not alive"), (157, "no such process or what"), (196, "no such process or number"), (202, "no such process or message"), (215, "no such level or place"), (220, "no such cell"), (228, "no such block or what"), (239, "no such semaphore or what"), (247, "no such number"), (252, "no such what")]
def k_ats (q : Nat × Nat × String) : List Cond := vx_atS "ShareMonitor" q.2.1 q.2.2 k_nm
/-- those of the makers' words that are not good words -/
def k_cw : List Cond := k_cx.flatMap (fun q => (k_ats q).filter (fun w => !goodWord w))
def k_kp (w : Cond) : Bool := match w with
  | .castable _ _ => true
  | .declares _ => true
  | .stringRef _ _ _ => true
  | _ => false
theorem k_cw_kp : k_cw.all k_kp = true := by decide +kernel
theorem k_cx_in : k_cx.all (fun q => decide (Cond.classLink "ShareMonitor" q.1 q.2.2 ∈ lw_tbl) && decide (Cond.initialized q.2.2 ∈ lw_tbl)) = true := by decide +kernel
theorem k_cx_ok : k_cx.all (fun q => goodWord (Cond.classLink "ShareMonitor" q.1 q.2.2) && goodWord (Cond.initialized q.2.2) && Bundle.fit q.2.2 && (k_ats q).all vx_ot) = true := by decide +kernel
theorem k_ats_in : k_cx.all (fun q => ((k_ats q).filter goodWord).all (fun w => decide (w ∈ lw_tbl))) = true := by decide +kernel
theorem n_inl {w : Cond} (h : w ∈ lw_tbl) (hg : goodWord w = true) : w ∈ n_tb := List.mem_filter.mpr ⟨h, hg⟩
theorem k_kept {w : Cond} (h : k_kp w = true) {u U : State} (hW : u.WarmedH U.vm) (hb : w.before #[] u = true) : w.before #[] U = true := by
  unfold k_kp at h
  split at h
  · rename_i a b
    have h1 := Cond.castable_setVm (args := #[]) (s := u) hW.alike a b
    rw [hb] at h1
    simpa only [Cond.before, Cond.holds, Cond.value, State.vm_setVm] using h1
  · rename_i x
    have h1 := Cond.declares_setVm (args := #[]) (s := u) hW.alike x
    rw [hb] at h1
    simpa only [Cond.before, Cond.holds, Cond.value, State.vm_setVm, State.methodNamed?] using h1
  · rename_i C k t
    have hcur : ∃ cur, u.vm.findClass C = some cur := by
      have h1 := hb
      simp only [Cond.before, Cond.holds, Cond.value] at h1
      cases hc : u.vm.findClass C with
      | none => simp [hc] at h1
      | some cur => exact ⟨cur, rfl⟩
    obtain ⟨cur, hcur⟩ := hcur
    obtain ⟨_, _, _, a, _, _, _, _, _, hev⟩ := Cond.stringRef_spec hcur hb
    exact (vk_R.warm hW (vk_R.of hb hev)).1
  · exact absurd h (by decide)
/-- what a throw of the system stands on -/
def xT (A : Nat → Prop) (U : State) (H : Heap) : Prop := (∀ w ∈ k_cw, w.before #[] U = true) ∧ (∀ q ∈ k_tx, (Cond.stringRef "ShareMonitor" q.1 q.2).before #[] U = true) ∧ vx_Zq Bundle.tN "UNASSIGNED_STACK" Bundle.steD A U H ∧ vx_Zq Bundle.tN "SUPPRESSED_SENTINEL" Bundle.listD A U H
theorem xT_ok {A : Nat → Prop} {u U : State} {H H1 : Heap} (hW : u.WarmedH U.vm) (hq : ∀ q : Nat, q < H.size → ¬ A q → H1[q]? = H[q]?) (h : xT A u H) : xT A U H1 := by
  obtain ⟨h1, h2, h3, h4⟩ := h
  refine ⟨fun w hw => k_kept (List.all_eq_true.mp k_cw_kp w hw) hW (h1 w hw), fun q hq => k_kept rfl hW (h2 q hq), vx_Zq.kept (vx_Zq.moved hW.alike h3) hq, vx_Zq.kept (vx_Zq.moved hW.alike h4) hq⟩
section KTH
variable {p : Program} {l : Launch} {e : Env} {s : State} {m : MethodId} {args : Array Value} {below : List Frame} {meth : Method} {c : Code} {D : va_G} {ca : Nat → ClassId} {ad : Nat → Nat → Nat} {ae : Nat → Nat} {Ex : State → Heap → Prop} {d : Nat} {Po : Option Value → n_S → Prop} {Px : String → n_S → Prop} {cc : ByteArray} {nL : Nat} {ret : Option FieldType}
variable {pc : Nat} {ls : List (Option Value)} {rest : List Value} {σ : n_S}
theorem kn_thr (hC : n_C p s m args meth c (cw D ca ad ae Ex) cc nL "ShareMonitor" ret) (hl : l.stackTraces = false) (hexc : ∀ x ∈ c.exceptionTable.toList, False) (hX : ∀ U H, Ex U H → xT (cw_A ad) U H) (hd : 6 ≤ d) {ik ic is : Nat} {cls text : String} (hq : (ik, ic, cls) ∈ k_cx) (ht : (is, text) ∈ k_tx) (hr : (rest.map fun v => v.category).sum ≤ 8)
    (d0 : decode cc pc = .ok (.new ik, 3)) (d3 : decode cc (pc + 3) = .ok (.dup, 1)) (d4 : decode cc (pc + 4) = .ok (.ldc is, 2)) (d6 : decode cc (pc + 6) = .ok (.invokespecial ic, 3)) (d9 : decode cc (pc + 9) = .ok (.athrow, 1)) (hP : Px cls σ) : k_W p l e s m args below meth c (cw D ca ad ae Ex) d Po Px pc ls rest σ := by
  intro H locs la z1 z2 z3
  obtain ⟨hx, hb, hml, hown, hts, hrt, hlk, hK, hE, hok⟩ := hC
  obtain ⟨x1, x2, x3, x4⟩ := hX _ _ hE
  have c1 := List.all_eq_true.mp k_cx_in _ hq
  have c2 := List.all_eq_true.mp k_cx_ok _ hq
  have c3 := List.all_eq_true.mp k_ats_in _ hq
  simp only [Bool.and_eq_true, decide_eq_true_eq] at c1 c2
  obtain ⟨⟨⟨g1, g2⟩, g3⟩, g4⟩ := c2
  have hat : ∀ w ∈ vx_atS "ShareMonitor" ic cls k_nm, w.before args s = true := by
    intro w hw
    cases hg : goodWord w with
    | true => exact hts w (n_inl (by simpa using List.all_eq_true.mp c3 w (List.mem_filter.mpr ⟨hw, hg⟩)) hg)
    | false => exact vx_ot_at (State.WarmedH.refl s) rfl (List.all_eq_true.mp g4 w hw) (x1 w (List.mem_flatMap.mpr ⟨_, hq, List.mem_filter.mpr ⟨hw, by rw [hg]; rfl⟩⟩))
  have hsr := x2 _ ht
  have hcls : ∃ cur, s.vm.findClass "ShareMonitor" = some cur := ⟨_, hown⟩
  obtain ⟨_, _, _, sa, _, _, _, _, _, hev⟩ := Cond.stringRef_spec hown hsr
  refine vx_throwS (A := n_A (cw D ca ad ae Ex)) (names := k_nm) hx hb hl hown g3 (by decide) (hts _ (n_inl c1.1 g1)) (hts _ (n_inl c1.2 g2)) (vk_R.of hsr hev) hat ?_ x3 x4 z3 z1.2.1 d0 d3 d4 d6 d9 (fun x hx => (hexc x hx).elim) (show 2 + 3 < d by omega) (show _ + (13 * (2 + 1) + 43) ≤ 60 * d by omega) (Nat.le_refl _) (Nat.le_refl _) hlk ?_ z3.2.2 (Nat.le_refl _) (Nat.le_refl _)
  · intro w hw
    rcases List.mem_cons.mp hw with rfl | hw
    · unfold vx_ot
      rw [g1, Bool.or_true]
    · rcases List.mem_cons.mp hw with rfl | hw
      · unfold vx_ot
        rw [g2, Bool.or_true]
      · exact List.all_eq_true.mp g4 w hw
  · intro t h1 h2 h3
    refine ⟨⟨σ, hP, fun κ i hi => (z2 κ i hi).kept (h3 _ (z2 κ i hi).lt)⟩, Nat.le_trans z3.1 h2, fun q hq1 hq2 => ?_⟩
    rw [h3 q (Nat.lt_of_lt_of_le hq1 z3.1)]
    exact z3.2.1 q hq1 hq2
end KTH
