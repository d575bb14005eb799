def m_ws1 (M : n_M) (q : Nat) : n_M := if M.1 0 q = 5 then (if M.1 7 q ≤ M.1 15 0 then m_rdy M q else m_s M 19 0 (m_min (M.1 19 0) (M.1 7 q))) else M
def m_ws : Nat → n_M → n_M
  | 0, M => M
  | n + 1, M => m_ws1 (m_ws n M) (n + 1)
theorem IR_s {M : n_M} (h : IR M) {c i : Nat} {v : Int32} (hc : c ≠ 0 ∧ c ≠ 2 ∧ c ≠ 7) : IR (m_s M c i v) := by
  refine IR_cong h (fun r _ => ?_) (fun r _ => ?_) (fun r _ => ?_) (fun r _ => rfl) <;> simp only [m_s] <;> rw [if_neg (by omega)]
theorem IR_l {M : n_M} (h : IR M) {c i : Nat} {v : List Int32} (hc : c ≠ 5) : IR (m_l M c i v) := by
  refine IR_cong h (fun r _ => rfl) (fun r _ => rfl) (fun r _ => rfl) (fun r _ => ?_)
  simp only [m_l]; rw [if_neg (by omega)]
theorem IR_ws1 {M : n_M} (h : IR M) {q : Nat} (hq : n_V q) : IR (m_ws1 M q) := by
  unfold m_ws1
  split
  · rename_i e
    split
    · exact IR_rdy h hq (by rw [e]; decide)
    · exact IR_s h (by omega)
  · exact h
theorem IR_ws {M : n_M} (h : IR M) : ∀ n, n ≤ 12 → IR (m_ws n M)
  | 0, _ => h
  | n + 1, hn => IR_ws1 (IR_ws h n (by omega)) ⟨by omega, hn⟩
def m_nsl (M : n_M) : List Nat := (M.2 10 0).map Int32.toNatClampNeg
theorem m_isB.ns {M : n_M} {ns : List Nat} {os : List Int32} (h : m_isB M ns os) : m_nsl M = ns ∧ M.2 11 0 = os := by
  obtain ⟨⟨b1, b2, b3⟩, h1, h2, -⟩ := h
  refine ⟨?_, h2⟩
  unfold m_nsl
  rw [h1, List.map_map]
  have : ∀ n ∈ ns, (Int32.toNatClampNeg ∘ nI) n = n := fun n hn => by
    have h3 : n ≤ ns.sum := by
      clear b1 b2 b3 h1 h2
      induction ns with
      | nil => simp at hn
      | cons a t ih =>
        rcases List.mem_cons.mp hn with rfl | hn
        · simp
        · have := ih hn
          simp
          omega
    exact nI_clamp (by omega)
  rw [List.map_congr_left this, List.map_id']
def IB (M : n_M) : Prop := m_isB M (m_nsl M) (M.2 11 0)
def m_free (M : n_M) (o x : Int32) : n_M := m_mem M (m_mgs (m_nsl M) (m_fr o x (m_nsl M) (M.2 11 0) 0) ([], [])).1 (m_mgs (m_nsl M) (m_fr o x (m_nsl M) (M.2 11 0) 0) ([], [])).2
def m_outs (q : Nat) : Nat → n_M → n_M
  | 0, M => M
  | n + 1, M => m_out (m_outs q n M) n q
def m_kid1 (M : n_M) (q p : Nat) : n_M := if M.1 3 p = nI q then (if M.1 0 p = 7 then m_van (m_s M 3 p 0) p else m_s M 3 p 0) else M
def m_kids (q : Nat) : Nat → n_M → n_M
  | 0, M => M
  | n + 1, M => m_kid1 (m_kids q n M) q (n + 1)
def m_fin1 (M : n_M) (q : Nat) (v : Int32) : n_M := m_s (m_s (m_kids q 12 (m_emp (m_outs q 11 (m_free M (nI q) (-1))) q)) 0 q 7) 1 q v
def m_up (M : n_M) (q : Nat) : Nat := (M.1 3 q).toNatClampNeg
def m_fin (M : n_M) (q : Nat) (v : Int32) : n_M := if M.1 3 q ≠ 0 ∧ (m_fin1 M q v).1 0 (m_up M q) = 3 ∧ (m_fin1 M q v).1 7 (m_up M q) = nI q then m_rdy (m_fin1 M q v) (m_up M q) else m_fin1 M q v
theorem m_outs_s (q : Nat) : ∀ (n : Nat) (M : n_M), (m_outs q n M).1 = M.1
  | 0, _ => rfl
  | n + 1, M => by rw [← m_outs_s q n M]; rfl
theorem m_outs_l (q : Nat) (M : n_M) (c i : Nat) : ∀ n, (m_outs q n M).2 c i = if c = 5 ∧ i < n then m_fq q (M.2 c i) else M.2 c i
  | 0 => by rw [if_neg (by omega)]; rfl
  | n + 1 => by
    show (m_out (m_outs q n M) n q).2 c i = _
    unfold m_out m_l
    simp only
    by_cases e : c = 5 ∧ i = n
    · obtain ⟨rfl, rfl⟩ := e
      rw [if_pos ⟨rfl, rfl⟩, if_pos ⟨rfl, by omega⟩, m_outs_l q M 5 i i, if_neg (by omega)]
      rfl
    · rw [if_neg e, m_outs_l q M c i n]
      by_cases z : c = 5 ∧ i < n
      · rw [if_pos z, if_pos ⟨z.1, by omega⟩]
      · rw [if_neg z, if_neg (by omega)]
section FN
variable {l : Launch} {D : va_G} {ca : Nat → ClassId} {ad : Nat → Nat → Nat} {ae : Nat → Nat} {Ex : State → Heap → Prop}
theorem c_wakeSleepers (d : Nat) (M : n_M) (σ : n_S) (hM : RepC M σ) (hI : IR M) : n_Ct l (cw D ca ad ae Ex) (d + 2) yX2_wakeSleepers cX2_wakeSleepers 3 none [.ref (ad 9 0)] σ (fun rv σ' => rv = none ∧ RepC (m_ws 12 (m_s M 19 0 2147483647)) σ') := by
  refine n_ofW (by decide) (Nat.le_of_ble_eq_true rfl) ?_
  intro p e s m below meth c hC
  have hI1 : IR (m_s M 19 0 2147483647) := IR_s hI (by omega)
  have loop : ∀ (n k : Nat) (σ1 : n_S) (z : Option Value), n + k = 12 → RepC (m_ws k (m_s M 19 0 2147483647)) σ1 →
      n_W p l e s m [Value.ref (ad 9 0)].toArray below meth c (cw D ca ad ae Ex) (d + 2) (fun rv σ' => rv = none ∧ RepC (m_ws 12 (m_s M 19 0 2147483647)) σ') 8 [some (.ref (ad 9 0)), some (.int (nI (k + 1))), z] [] σ1 := by
    intro n
    induction n with
    | zero =>
      intro k σ1 z hk hR
      have : k = 12 := by omega
      subst this
      refine n_iload_n hC dX2_wakeSleepers_8 rfl rfl ?_
      refine n_bipush (v := 12) hC dX2_wakeSleepers_9 (by decide) ?_
      refine n_icmp_gt (tgt := 77) hC dX2_wakeSleepers_11 (by decide) (fun h => ?_) (fun h => ?_)
      · refine n_vret hC dX2_wakeSleepers_77 ?_
        exact ⟨rfl, hR⟩
      · exact absurd (by decide) h
    | succ n ih =>
      intro k σ1 z hk hR
      have hq : n_V (k + 1) := ⟨by omega, by omega⟩
      have hd : cw_dom 21 (k + 1) := hq
      have hIk := IR_ws hI1 k (by omega)
      generalize hMk : m_ws k (m_s M 19 0 2147483647) = Mk at hR hIk
      have e1 : σ1 21 (k + 1) 7 = Mk.1 0 (k + 1) := hR.1 0 _ hq
      have e2 : σ1 21 (k + 1) 15 = Mk.1 7 (k + 1) := hR.1 7 _ hq
      have e3 : σ1 9 0 9 = Mk.1 15 0 := hR.1 15 0 rfl
      have e4 : σ1 9 0 10 = Mk.1 19 0 := hR.1 19 0 rfl
      have step : ∀ σ2 : n_S, RepC (m_ws1 Mk (k + 1)) σ2 → n_W p l e s m [Value.ref (ad 9 0)].toArray below meth c (cw D ca ad ae Ex) (d + 2) (fun rv σ' => rv = none ∧ RepC (m_ws 12 (m_s M 19 0 2147483647)) σ') 71 [some (.ref (ad 9 0)), some (.int (nI (k + 1))), some (.ref (ad 21 (k + 1)))] [] σ2 := by
        intro σ2 h2
        refine n_iinc hC dX2_wakeSleepers_71 rfl (show _ + Int32.ofInt 1 = _ + 1 from rfl) ?_
        refine n_goto (tgt := 8) hC dX2_wakeSleepers_74 (by decide) ?_
        rw [nI_1]
        exact ih (k + 1) σ2 _ (by omega) (by show RepC (m_ws1 (m_ws k _) (k + 1)) σ2; rw [hMk]; exact h2)
      refine n_iload_n hC dX2_wakeSleepers_8 rfl rfl ?_
      refine n_bipush (v := 12) hC dX2_wakeSleepers_9 (by decide) ?_
      refine n_icmp_gt (tgt := 77) hC dX2_wakeSleepers_11 (by decide) (fun h => ?_) (fun h => ?_)
      · exact absurd h (nI_nlt (a := 12) (by omega) (by decide))
      · clear h
        refine n_aload_n hC dX2_wakeSleepers_14 rfl rfl ?_
        refine g9_processes hC (by first | assumption | exact rfl) wfX2_11 dX2_wakeSleepers_15 ?_
        refine n_iload_n hC dX2_wakeSleepers_18 rfl rfl ?_
        first | refine a_rows hC (by omega) dX2_wakeSleepers_19 ?_ | refine a_queues hC (by omega) dX2_wakeSleepers_19 ?_ | refine a_procs hC (by omega) dX2_wakeSleepers_19 ?_ | refine a_progs hC (by omega) dX2_wakeSleepers_19 ?_
        first | refine n_astore_n hC dX2_wakeSleepers_20 rfl (Nat.le_of_ble_eq_true rfl) ?_ | refine n_astore_nN hC dX2_wakeSleepers_20 rfl (Nat.le_of_ble_eq_true rfl) ?_
        refine n_aload_n hC dX2_wakeSleepers_21 rfl rfl ?_
        refine g21_status hC (by first | assumption | exact rfl) wfX2_66 dX2_wakeSleepers_22 ?_
        rw [e1]
        refine n_iconst (v := 5) hC dX2_wakeSleepers_25 (by decide) ?_
        refine n_icmp_ne (tgt := 48) hC dX2_wakeSleepers_26 (by decide) (fun h => ?_) (fun h => ?_)
        · have hn5 : ¬ Mk.1 0 (k + 1) = 5 := h
          refine n_aload_n hC dX2_wakeSleepers_48 rfl rfl ?_
          refine g21_status hC (by first | assumption | exact rfl) wfX2_66 dX2_wakeSleepers_49 ?_
          rw [e1]
          refine n_iconst (v := 5) hC dX2_wakeSleepers_52 (by decide) ?_
          refine n_icmp_ne (tgt := 71) hC dX2_wakeSleepers_53 (by decide) (fun h => ?_) (fun h => ?_)
          · exact step σ1 (by unfold m_ws1; rw [if_neg hn5]; exact hR)
          · exact absurd h hn5
        · have h5 : Mk.1 0 (k + 1) = 5 := h
          clear h
          refine n_aload_n hC dX2_wakeSleepers_29 rfl rfl ?_
          refine g21_awaited hC (by first | assumption | exact rfl) wfX2_83 dX2_wakeSleepers_30 ?_
          refine n_aload_n hC dX2_wakeSleepers_33 rfl rfl ?_
          refine g9_clock hC (by first | assumption | exact rfl) wfX2_124 dX2_wakeSleepers_34 ?_
          rw [e2, e3]
          refine n_icmp_gt (tgt := 48) hC dX2_wakeSleepers_37 (by decide) (fun h => ?_) (fun h => ?_)
          · have hgt := h
            clear h
            refine n_aload_n hC dX2_wakeSleepers_48 rfl rfl ?_
            refine g21_status hC (by first | assumption | exact rfl) wfX2_66 dX2_wakeSleepers_49 ?_
            rw [e1]
            refine n_iconst (v := 5) hC dX2_wakeSleepers_52 (by decide) ?_
            refine n_icmp_ne (tgt := 71) hC dX2_wakeSleepers_53 (by decide) (fun h => ?_) (fun h => ?_)
            · exact absurd h5 h
            · clear h
              refine n_aload_n hC dX2_wakeSleepers_56 rfl rfl ?_
              refine n_aload_n hC dX2_wakeSleepers_57 rfl rfl ?_
              refine g9_soonest hC (by first | assumption | exact rfl) wfX2_47 dX2_wakeSleepers_58 ?_
              refine n_aload_n hC dX2_wakeSleepers_61 rfl rfl ?_
              refine g21_awaited hC (by first | assumption | exact rfl) wfX2_83 dX2_wakeSleepers_62 ?_
              rw [e4, e2]
              refine n_mmin hC wmX2_135 (Nat.le_of_ble_eq_true rfl) dX2_wakeSleepers_65 ?_
              refine p9_soonest hC (by first | assumption | exact rfl) wfX2_47 dX2_wakeSleepers_68 ?_
              refine step _ ?_
              unfold m_ws1
              rw [if_pos h5, if_neg (Int32.not_le.mpr hgt)]
              exact cu_19 hR rfl
          · have hle := Int32.not_lt.mp h
            clear h
            refine n_aload_n hC dX2_wakeSleepers_40 rfl rfl ?_
            refine n_aload_n hC dX2_wakeSleepers_41 rfl rfl ?_
            refine n_callV hC (c_makeReady d (k + 1) Mk σ1 hR hq (hIk.1 _ hq) (hIk.row hq (hIk.lv hq).1 (hIk.notrow hq (hIk.lv hq).1 (by rw [h5]; decide)))) (by omega) (by decide) (by first | assumption | exact rfl) rfl rfl rfl ⟨wmX2_79, wi_yX2_makeReady, wv_yX2_makeReady, wzX2, wc_yX2_makeReady⟩ hy_yX2_makeReady rfl (Nat.le_of_ble_eq_true rfl) dX2_wakeSleepers_42 (fun rv σ' hpo => ?_)
            obtain ⟨rfl, hR2⟩ := hpo
            refine n_goto (tgt := 71) hC dX2_wakeSleepers_45 (by decide) ?_
            exact step _ (by unfold m_ws1; rw [if_pos h5, if_pos hle]; exact hR2)
  refine n_aload_n hC dX2_wakeSleepers_0 rfl rfl ?_
  refine n_ldc hC wkX2_46 dX2_wakeSleepers_1 ?_
  refine p9_soonest hC (by first | assumption | exact rfl) wfX2_47 dX2_wakeSleepers_3 ?_
  refine n_iconst (v := 1) hC dX2_wakeSleepers_6 (by decide) ?_
  refine n_istore_n hC dX2_wakeSleepers_7 rfl (Nat.le_of_ble_eq_true rfl) ?_
  exact loop 12 0 _ _ rfl (cu_19 hM rfl)
end FN
