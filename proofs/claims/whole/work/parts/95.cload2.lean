theorem RepC_rd {M : n_M} {σ σ' : n_S} (h : RepC M σ) (ht : ∀ κ y x, (κ < 3 ∨ 8 < κ) → σ' κ y x = σ κ y x) : RepC (m_s M 17 0 (σ' 3 0 9)) σ' := by
  refine ⟨fun c i hv => ?_, fun c i hv => ?_⟩
  · have h1 := h.1 c i hv
    have hc := m_vS_c hv
    simp only [List.mem_cons, List.not_mem_nil, or_false] at hc
    rcases hc with rfl | rfl | rfl | rfl | rfl | rfl | rfl | rfl | rfl | rfl | rfl | rfl | rfl | rfl | rfl | rfl | rfl | rfl | rfl
    all_goals first
      | (have hz : i = 0 := hv
         subst hz
         show σ' 3 0 9 = _
         rw [ms_e]; done)
      | (rw [ms_n (by omega), ← h1]; exact ht _ _ _ (by omega))
  · have h1 := h.2 c i hv
    have hc := m_vL_c hv
    simp only [List.mem_cons, List.not_mem_nil, or_false] at hc
    refine ⟨h1.1, ?_, fun k hk => ?_⟩
    · rw [m_s_l, ← h1.2.1]
      rcases hc with rfl | rfl | rfl | rfl | rfl | rfl | rfl | rfl | rfl <;> exact ht _ _ _ (by omega)
    · have h2 := h1.2.2 k hk
      rw [m_s_l, ← h2]
      rcases hc with rfl | rfl | rfl | rfl | rfl | rfl | rfl | rfl | rfl <;> exact ht _ _ _ (by omega)
theorem rc_read {M : n_M} {σ σ' : n_S} {i : Nat} (h : RepC M σ) (hi : i < 12) (hf : CF i σ σ') {o n : List Int32} (e : σ' 28 i 2 = nI o.length) (h1 : n.length = o.length) (h2 : o.length ≤ 256) (ho : n_h (σ' 29 i) o) (hn : n_h (σ' 30 i) n) : RepC (m_s (m_l (m_l M 12 i o) 13 i n) 17 0 (σ' 3 0 9)) σ' := by
  have k1 := cl_12 (σ' := fun κ y x => if 3 ≤ κ ∧ κ ≤ 8 then σ κ y x else σ' κ y x) (l0 := o) (l1 := n) h hi (fun κ y x u1 u2 u3 => ?_) (by rw [if_neg (by omega)]; exact e) h2 (fun j hj => by show (if 3 ≤ 29 ∧ 29 ≤ 8 then _ else _) = _; rw [if_neg (by omega)]; exact ho j hj) (by omega) (fun j hj => by show (if 3 ≤ 30 ∧ 30 ≤ 8 then _ else _) = _; rw [if_neg (by omega)]; exact hn j hj) h1
  · exact RepC_rd k1 (fun κ y x u => by rw [if_neg (by omega)])
  · by_cases z : 3 ≤ κ ∧ κ ≤ 8
    · rw [if_pos z]
    · rw [if_neg z]
      exact hf κ y x (by unfold q_wr; omega)
theorem rg_h (f : Nat → Int32) (L : Nat) : n_h f ((List.range L).map f) := by
  intro j hj
  rw [List.length_map, List.length_range] at hj
  rw [List.getD_eq_getElem?_getD, List.getElem?_map, List.getElem?_range hj]
  rfl
/-- what load does to the system, where it comes back -/
def CLd (M : n_M) (x : Int32) (rv : Option Value) (σ' : n_S) : Prop := (¬ x < 0 ∧ x < 3) ∧ ∃ r i, m_lfree M r ∧ m_sp M i ∧ ((∃ f, p_all (M.2 8 0) = .inl f ∧ rv = some (.int (-1 - nI f.2)) ∧ ∃ go gn, gn.length = go.length ∧ go.length ≤ 256 ∧ RepC (m_ld M i go gn (nI f.1)) σ') ∨ (∃ o n, p_all (M.2 8 0) = .inr (o, n) ∧ rv = some (.int (nI r)) ∧ RepC (m_adm (m_ld M i o n 0) r i x) σ'))
section CP4
variable {l : Launch} {D : va_G} {ca : Nat → ClassId} {ad : Nat → Nat → Nat} {ae sk sv : Nat → Nat} {ta sf ts : Nat} {Ex : State → Heap → Prop}
theorem cp_load (hl : l.stackTraces = false) (hT : ∀ U H, Ex U H → xT (cw_A ad) U H) (hX : ∀ U H, Ex U H → cE ad ae ts U H) (hS : ∀ U H, Ex U H → sX ad ae sk sv ta sf U H) (d : Nat) (x : Int32) (M : n_M) (σ : n_S) (hM : RepC M σ) (hI : II M) (hY : BY (M.2 8 0)) : k_Ct l (cw D ca ad ae Ex) (d + 10) yX11_load cX11_load 4 (some .int) [.ref (ad 0 0), .int x] σ (fun rv σ' => CLd M x rv σ') (fun E σ' => ((¬ (¬ x < 0 ∧ x < 3) ∧ E = "java/lang/IndexOutOfBoundsException") ∨ ((¬ x < 0 ∧ x < 3) ∧ m_nofree M ∧ E = "java/lang/UnsupportedOperationException")) ∧ σ' = σ) := by
  have hB : CT (M.2 8 0) σ := by
    obtain ⟨t1, t2, t3⟩ := hM.2 8 0 rfl
    exact ⟨t2, t1, t3⟩
  refine k_ofW (by decide) (Nat.le_of_ble_eq_true rfl) ?_
  intro p e s m below meth c hC hexc
  have bad9 : ¬ (¬ x < 0 ∧ x < 3) → k_W p l e s m [Value.ref (ad 0 0), Value.int x].toArray below meth c (cw D ca ad ae Ex) (d + 10) (fun rv σ' => CLd M x rv σ') (fun E σ' => ((¬ (¬ x < 0 ∧ x < 3) ∧ E = "java/lang/IndexOutOfBoundsException") ∨ ((¬ x < 0 ∧ x < 3) ∧ m_nofree M ∧ E = "java/lang/UnsupportedOperationException")) ∧ σ' = σ) 9 [some (.ref (ad 0 0)), some (.int x), none, none] [] σ := by
    intro hb
    refine kn_thr hC hl hexc hT (by omega) (ik := 61) (ic := 65) (is := 63) (cls := "java/lang/IndexOutOfBoundsException") (text := "no such level") (by decide) (by decide) (Nat.le_of_ble_eq_true rfl) dX11_load_9 dX11_load_12 dX11_load_13 dX11_load_15 dX11_load_18 ?_
    exact ⟨Or.inl ⟨hb, rfl⟩, rfl⟩
  refine kn_iload_n hC dX11_load_0 rfl rfl ?_
  refine kn_if_lt (tgt := 9) hC dX11_load_1 (by decide) (fun h => ?_) (fun h => ?_)
  · exact bad9 (fun z => z.1 h)
  · have h0 := h
    clear h
    refine kn_iload_n hC dX11_load_4 rfl rfl ?_
    refine kn_iconst (v := 3) hC dX11_load_5 (by decide) ?_
    refine kn_icmp_lt (tgt := 19) hC dX11_load_6 (by decide) (fun h => ?_) (fun h => ?_)
    · have h3 := h
      clear h
      obtain ⟨lv, hlv, hx⟩ := nI_of3 (n := 3) h0 (by omega) h3
      refine kn_aload_n hC dX11_load_19 rfl rfl ?_
      refine kg0_desk hC (by first | exact rfl | with_reducible assumption) wfX11_28 dX11_load_20 ?_
      refine kn_callV hC (c_leastFree (d + 9) M σ hM) (Nat.le_refl _) (by decide) (by first | exact rfl | with_reducible assumption) rfl rfl rfl ⟨wmX11_66, wi_yX2_leastFree, wv_yX2_leastFree, wzX2, wc_yX2_leastFree⟩ hy_yX2_leastFree rfl (Nat.le_of_ble_eq_true rfl) dX11_load_23 (fun rv σ' hpo => ?_)
      obtain ⟨hpo, hσ⟩ := hpo
      rw [hσ]
      rcases hpo with ⟨r, hrV, hr0, hrl, rfl⟩ | ⟨hno, rfl⟩
      · have hr : m_lfree M r := ⟨hrV, hr0, hrl⟩
        obtain ⟨i, hsp⟩ := m_sp_ex hI hr
        have hi := hsp.1
        have hd28 : cw_dom 28 i := hi
        have hd21 : cw_dom 21 r := hrV
        first | refine kn_astore_n hC dX11_load_26 rfl (Nat.le_of_ble_eq_true rfl) ?_ | refine kn_astore_nN hC dX11_load_26 rfl (Nat.le_of_ble_eq_true rfl) ?_
        refine kn_aload_n hC dX11_load_27 rfl rfl ?_
        refine kg0_desk hC (by first | exact rfl | with_reducible assumption) wfX11_28 dX11_load_28 ?_
        refine kn_callV hC (c_spare (d + 9) M σ hM) (Nat.le_refl _) (by decide) (by first | exact rfl | with_reducible assumption) rfl rfl rfl ⟨wmX11_70, wi_yX2_spareProgram, wv_yX2_spareProgram, wzX2, wc_yX2_spareProgram⟩ hy_yX2_spareProgram rfl (Nat.le_of_ble_eq_true rfl) dX11_load_31 (fun rv σ' hpo => ?_)
        obtain ⟨hpo, hσ⟩ := hpo
        rw [hσ]
        rcases hpo with ⟨i', hi', hi0, hil, rfl⟩ | ⟨hno, rfl⟩
        · have ei : i' = i := m_sp_un ⟨hi', hi0, hil⟩ hsp
          subst ei
          first | refine kn_astore_n hC dX11_load_34 rfl (Nat.le_of_ble_eq_true rfl) ?_ | refine kn_astore_nN hC dX11_load_34 rfl (Nat.le_of_ble_eq_true rfl) ?_
          refine kn_aload_n hC dX11_load_35 rfl rfl ?_
          first | refine kn_ifnull hC dX11_load_36 ?_ | refine kn_ifnullN (tgt := 43) hC dX11_load_36 (by decide) ?_
          refine kn_aload_n hC dX11_load_39 rfl rfl ?_
          first | refine kn_ifnonnull (tgt := 53) hC dX11_load_40 (by decide) ?_ | refine kn_ifnonnullN hC dX11_load_40 ?_
          refine kn_aload_n hC dX11_load_53 rfl rfl ?_
          refine kg0_reader hC (by first | exact rfl | with_reducible assumption) wfX11_21 dX11_load_54 ?_
          refine kn_aload_n hC dX11_load_57 rfl rfl ?_
          refine kn_callV hC (c_read hX hS d i' (M.2 8 0) σ hi hB hY) (Nat.le_refl _) (by decide) (by first | exact rfl | with_reducible assumption) rfl rfl rfl ⟨wmX11_76, wi_yX6_read, wv_yX6_read, wzX6, wc_yX6_read⟩ hy_yX6_read rfl (Nat.le_of_ble_eq_true rfl) dX11_load_58 (fun rv σ1 hpo => ?_)
          obtain ⟨rfl, hF, ⟨L, hL, eL⟩, hpo⟩ := hpo
          refine kn_aload_n hC dX11_load_61 rfl rfl ?_
          refine kg0_tape hC (by first | exact rfl | with_reducible assumption) wfX11_10 dX11_load_62 ?_
          refine kn_iconst (v := 0) hC dX11_load_65 (by decide) ?_
          refine kp1_length hC (by first | exact rfl | with_reducible assumption) wfX11_41 dX11_load_66 ?_
          refine kn_aload_n hC dX11_load_69 rfl rfl ?_
          refine kg0_reader hC (by first | exact rfl | with_reducible assumption) wfX11_21 dX11_load_70 ?_
          refine kg3_fault hC (by first | exact rfl | with_reducible assumption) wfX11_80 dX11_load_73 ?_
          rw [nu_o (by omega)]
          rcases hpo with ⟨f, g1, g9, g10, ga, gb⟩ | ⟨o, n, g1, g9, g28, gj⟩
          · have hne : nI f.1 ≠ 0 := fun z => by
              have := (nI_eq (b := 0) (by omega) (by omega)).mp z
              omega
            rw [g9]
            refine kn_if_eq (tgt := 89) hC dX11_load_76 (by decide) (fun h => ?_) (fun h => ?_)
            · exact absurd h hne
            · clear h
              refine kn_iconst (v := -1) hC dX11_load_79 (by decide) ?_
              refine kn_aload_n hC dX11_load_80 rfl rfl ?_
              refine kg0_reader hC (by first | exact rfl | with_reducible assumption) wfX11_21 dX11_load_81 ?_
              refine kg3_faultPlace hC (by first | exact rfl | with_reducible assumption) wfX11_83 dX11_load_84 ?_
              rw [nu_o (by omega), g10]
              refine kn_isub hC dX11_load_87 ?_
              refine kn_iret hC dX11_load_88 ?_
              have k1 := rc_read (o := (List.range L).map (σ1 29 i')) (n := (List.range L).map (σ1 30 i')) hM hi hF (by rw [List.length_map, List.length_range]; exact eL) (by simp) (by rw [List.length_map, List.length_range]; exact hL) (rg_h _ _) (rg_h _ _)
              rw [g9] at k1
              refine ⟨⟨h0, h3⟩, r, i', hr, hsp, Or.inl ⟨f, g1, rfl, (List.range L).map (σ1 29 i'), (List.range L).map (σ1 30 i'), by rw [List.length_map, List.length_map], by rw [List.length_map, List.length_range]; exact hL, ?_⟩⟩
              exact cl_8 k1 rfl (fun κ y x u1 u2 => nu_o (by omega)) (nu_e _ _ _ _ _) (by simp) (fun j hj => by simp at hj)
          · rw [g9]
            obtain ⟨q1, q2, -⟩ := p_all_ok g1
            have k1 := rc_read (o := o) (n := n) hM hi hF g28 q1 q2 (fun j hj => (gj j hj).1) (fun j hj => (gj j (by omega)).2)
            rw [g9] at k1
            have k2 : RepC (m_ld M i' o n 0) (n_up σ1 1 0 1 0) := cl_8 (l0 := []) k1 rfl (fun κ y x u1 u2 => nu_o (by omega)) (nu_e _ _ _ _ _) (by simp) (fun j hj => by simp at hj)
            have hI1 := II_ld hI hi hsp.2.1 o n 0
            refine kn_if_eq (tgt := 89) hC dX11_load_76 (by decide) (fun h => ?_) (fun h => ?_)
            · clear h
              refine kn_aload_n hC dX11_load_89 rfl rfl ?_
              refine kg0_desk hC (by first | exact rfl | with_reducible assumption) wfX11_28 dX11_load_90 ?_
              refine kn_aload_n hC dX11_load_93 rfl rfl ?_
              refine kn_aload_n hC dX11_load_94 rfl rfl ?_
              refine kn_iload_n hC dX11_load_95 rfl rfl ?_
              refine kn_callV hC (c_taken (d + 7) r i' x (m_ld M i' o n 0) _ k2 hrV hi ⟨lv, hlv, hx⟩ (by rw [hx, nI_clamp (by omega)]; exact hI1.1.row hrV hlv (hI1.1.notrow hrV hlv (by rw [m_ld_s (by omega), hr0]; decide)))) (Nat.le_refl _) (by decide) (by first | exact rfl | with_reducible assumption) rfl rfl rfl ⟨wmX11_86, wi_yX2_taken, wv_yX2_taken, wzX2, wc_yX2_taken⟩ hy_yX2_taken rfl (Nat.le_of_ble_eq_true rfl) dX11_load_96 (fun rv σ3 hpo => ?_)
              obtain ⟨rfl, k3⟩ := hpo
              refine kn_aload_n hC dX11_load_99 rfl rfl ?_
              refine kg21_number hC (by first | exact rfl | with_reducible assumption) wfX11_90 dX11_load_100 ?_
              refine kn_iret hC dX11_load_103 ?_
              exact ⟨⟨h0, h3⟩, r, i', hr, hsp, Or.inr ⟨o, n, g1, rfl, k3⟩⟩
            · exact absurd rfl h
        · exact absurd hsp.2.1 (hno i hi)
      · first | refine kn_astore_n hC dX11_load_26 rfl (Nat.le_of_ble_eq_true rfl) ?_ | refine kn_astore_nN hC dX11_load_26 rfl (Nat.le_of_ble_eq_true rfl) ?_
        refine kn_aload_n hC dX11_load_27 rfl rfl ?_
        refine kg0_desk hC (by first | exact rfl | with_reducible assumption) wfX11_28 dX11_load_28 ?_
        refine kn_callV hC (c_spare (d + 9) M σ hM) (Nat.le_refl _) (by decide) (by first | exact rfl | with_reducible assumption) rfl rfl rfl ⟨wmX11_70, wi_yX2_spareProgram, wv_yX2_spareProgram, wzX2, wc_yX2_spareProgram⟩ hy_yX2_spareProgram rfl (Nat.le_of_ble_eq_true rfl) dX11_load_31 (fun rv σ' hpo => ?_)
        obtain ⟨hpo, hσ⟩ := hpo
        rw [hσ]
        have thr : ∀ w : Option Value, k_W p l e s m [Value.ref (ad 0 0), Value.int x].toArray below meth c (cw D ca ad ae Ex) (d + 10) (fun rv σ' => CLd M x rv σ') (fun E σ' => ((¬ (¬ x < 0 ∧ x < 3) ∧ E = "java/lang/IndexOutOfBoundsException") ∨ ((¬ x < 0 ∧ x < 3) ∧ m_nofree M ∧ E = "java/lang/UnsupportedOperationException")) ∧ σ' = σ) 43 [some (.ref (ad 0 0)), some (.int x), some .null, w] [] σ := by
          intro w
          refine kn_thr hC hl hexc hT (by omega) (ik := 45) (ic := 49) (is := 74) (cls := "java/lang/UnsupportedOperationException") (text := "no process is free") (by decide) (by decide) (Nat.le_of_ble_eq_true rfl) dX11_load_43 dX11_load_46 dX11_load_47 dX11_load_49 dX11_load_52 ?_
          exact ⟨Or.inr ⟨⟨h0, h3⟩, hno, rfl⟩, rfl⟩
        rcases hpo with ⟨i', hi', hi0, hil, rfl⟩ | ⟨hno2, rfl⟩
        · first | refine kn_astore_n hC dX11_load_34 rfl (Nat.le_of_ble_eq_true rfl) ?_ | refine kn_astore_nN hC dX11_load_34 rfl (Nat.le_of_ble_eq_true rfl) ?_
          first | refine kn_aload_n hC dX11_load_35 rfl rfl ?_ | refine kn_aload_nN hC dX11_load_35 rfl rfl ?_
          first | refine kn_ifnull hC dX11_load_36 ?_ | refine kn_ifnullN (tgt := 43) hC dX11_load_36 (by decide) ?_
          exact thr _
        · first | refine kn_astore_n hC dX11_load_34 rfl (Nat.le_of_ble_eq_true rfl) ?_ | refine kn_astore_nN hC dX11_load_34 rfl (Nat.le_of_ble_eq_true rfl) ?_
          first | refine kn_aload_n hC dX11_load_35 rfl rfl ?_ | refine kn_aload_nN hC dX11_load_35 rfl rfl ?_
          first | refine kn_ifnull hC dX11_load_36 ?_ | refine kn_ifnullN (tgt := 43) hC dX11_load_36 (by decide) ?_
          exact thr _
    · exact bad9 (fun z => h z.2)
end CP4
