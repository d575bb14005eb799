theorem nI_nm1 {j : Nat} (h : j < 2 ^ 31) : ¬ nI j = -1 := by
  intro z
  have h0 := nI_pos' h
  rw [z] at h0
  exact absurd h0 (by decide)
theorem m_bw_own {ns : List Nat} {os : List Int32} {j : Nat} {o : Int32} (h : m_bw ns os) (hj : j < ns.length) : m_bw ns (os.take j ++ o :: os.drop (j + 1)) := by
  refine ⟨?_, h.2.1, h.2.2⟩
  have := h.1
  simp only [List.length_append, List.length_take, List.length_cons, List.length_drop]
  omega
theorem m_bw_mgs {ns : List Nat} {os : List Int32} (h : m_bw ns os) : m_bw (m_mgs ns os ([], [])).1 (m_mgs ns os ([], [])).2 := by
  obtain ⟨h1, h2, h3⟩ := m_mgs_w ns os ([], []) h.1 h.2.1 rfl (fun x hx => by simp at hx)
  exact ⟨h1, h2, by rw [h3, h.2.2]; rfl⟩
section RMY
variable {l : Launch} {D : va_G} {ca : Nat → ClassId} {ad : Nat → Nat → Nat} {Ex : State → Heap → Prop}
theorem x_memory (d k q n0 : Nat) (n o : Int32) (ho : o = nI (r_op (k + 1))) (hk : 25 ≤ k ∧ k ≤ 29) (τ0 : n_S) (M : n_M) (τ : n_S) (hmv : τ0 0 0 52 = 0) (hS : RS τ0 M τ) (hI : II M) (hq : n_V q) (h1 : M.1 0 q = 1) (hn : M.1 5 q = nI n0) (hne : m_ne k ≤ (M.2 0 q).length) : n_Ct l (rw D ca ad Ex) (d + 4) yX12_memory cX12_memory 6 none [.ref (ad 0 0), .int (nI q), .int o] τ (fun rv τ' => rv = none ∧ XA τ0 M q k n0 n τ') := by
  obtain ⟨hq1, hq2⟩ := id hq
  have ha := m_al1 h1
  have hM := hS.q
  have hB := hI.2.1
  obtain ⟨e1, hl40, -⟩ := hM.stk hq
  rcases (show k = 25 ∨ k = 26 ∨ k = 27 ∨ k = 28 ∨ k = 29 by omega) with rfl | rfl | rfl | rfl | rfl
  · obtain rfl : o = 20 := ho
    have hne : 1 ≤ (M.2 0 q).length := hne
    obtain ⟨t, a, hst⟩ := m_last1 hne
    have hlen : (M.2 0 q).length = t.length + 1 := by rw [hst, len1]
    refine n_ofW (by decide) (Nat.le_of_ble_eq_true rfl) ?_
    intro p e s m below meth c hC
    refine n_aload_n hC dX12_memory_0 rfl rfl ?_
    refine n_iload_n hC dX12_memory_1 rfl rfl ?_
    refine n_iconst (v := 0) hC dX12_memory_2 (by decide) ?_
    refine n_callV hC (x_t0 (d + 3) q _ M _ hM hq hst) (Nat.le_refl _) (by decide) (by first | exact rfl | with_reducible assumption) rfl rfl rfl ⟨wmX12_339, wi_yX12_top, wv_yX12_top, wzX12, wc_yX12_top⟩ hy_yX12_top rfl (Nat.le_of_ble_eq_true rfl) dX12_memory_3 (fun rv σ' hpo => ?_)
    obtain ⟨rfl, hσ⟩ := hpo
    rw [hσ]
    refine n_istore_n hC dX12_memory_6 rfl (Nat.le_of_ble_eq_true rfl) ?_
    refine n_iload_n hC dX12_memory_7 rfl rfl ?_
    refine n_bipush (v := 20) hC dX12_memory_8 (by decide) ?_
    refine n_icmp_eq (tgt := 19) hC dX12_memory_10 (by decide) (fun h => ?_) (fun h => ?_)
    · clear h
      refine n_aload_n hC dX12_memory_19 rfl rfl ?_
      refine n_iload_n hC dX12_memory_20 rfl rfl ?_
      refine n_iload_n hC dX12_memory_21 rfl rfl ?_
      refine n_callV hC (x_holds (d + 3) (nI q) a _ M _ hM hB) (Nat.le_refl _) (by decide) (by first | exact rfl | with_reducible assumption) rfl rfl rfl ⟨wmX12_355, wi_yX12_holds, wv_yX12_holds, wzX12, wc_yX12_holds⟩ hy_yX12_holds rfl (Nat.le_of_ble_eq_true rfl) dX12_memory_22 (fun rv σ' hpo => ?_)
      obtain ⟨hpo, hσ⟩ := hpo
      rw [hσ]
      rcases hpo with ⟨hh, rfl⟩ | ⟨hh, rfl⟩
      · obtain ⟨j, hj, rfl, hown⟩ := hh
        refine n_if_ne (tgt := 38) hC dX12_memory_25 (by decide) (fun h => ?_) (fun h => ?_)
        · clear h
          refine n_iload_n hC dX12_memory_38 rfl rfl ?_
          refine n_bipush (v := 20) hC dX12_memory_39 (by decide) ?_
          refine n_icmp_ne (tgt := 59) hC dX12_memory_41 (by decide) (fun h => ?_) (fun h => ?_)
          · exact absurd rfl h
          · clear h
            refine n_aload_n hC dX12_memory_44 rfl rfl ?_
            refine n_iload_n hC dX12_memory_45 rfl rfl ?_
            refine n_iconst (v := 1) hC dX12_memory_46 (by decide) ?_
            refine n_aload_n hC dX12_memory_47 rfl rfl ?_
            refine gm_cells hC wfX12_209 dX12_memory_48 ?_
            refine n_iload_n hC dX12_memory_51 rfl rfl ?_
            first | refine r_ld hC rfl (fun _ => rfl) (by decide) (by first | omega | with_reducible assumption) dX12_memory_52 ?_ | refine r_needs hC (by first | exact vp_in_nI (by omega) (by decide) | with_reducible assumption) dX12_memory_52 ?_
            rw [hM.cells hj]
            refine n_callV hC (x_result (d + 2) q 1 n0 (M.1 10 j) _ M _ t [nI j] hM hq hn hst rfl (by omega)) (Nat.le_refl _) (by decide) (by first | exact rfl | with_reducible assumption) rfl rfl rfl ⟨wmX12_345, wi_yX12_result, wv_yX12_result, wzX12, wc_yX12_result⟩ hy_yX12_result rfl (Nat.le_of_ble_eq_true rfl) dX12_memory_53 (fun rv σ' hpo => ?_)
            obtain ⟨rfl, g⟩ := hpo
            refine n_goto (tgt := 225) hC dX12_memory_56 (by decide) ?_
            refine n_vret hC dX12_memory_225 ?_
            exact ⟨rfl, XA.stk hmv hS h1 g (m_nw_t (by omega)) hl40 (Or.inr (Or.inr (Or.inr (Or.inr (Or.inr (Or.inr (Or.inr (Or.inl (⟨rfl, t, nI j, hst, Or.inl ⟨j, ⟨hj, rfl, hown⟩, rfl, rfl⟩⟩)))))))))⟩
        · exact absurd h (by decide)
      · refine n_if_ne (tgt := 38) hC dX12_memory_25 (by decide) (fun h => ?_) (fun h => ?_)
        · exact absurd rfl h
        · clear h
          refine n_aload_n hC dX12_memory_28 rfl rfl ?_
          refine n_iload_n hC dX12_memory_29 rfl rfl ?_
          refine n_bipush (v := -5) hC dX12_memory_30 (by decide) ?_
          refine n_callV hC (x_finish (d + 1) q (-5) τ0 M _ hS hI hq ha) (Nat.le_refl _) (by decide) (by first | exact rfl | with_reducible assumption) rfl rfl rfl ⟨wmX12_330, wi_yX12_finish, wv_yX12_finish, wzX12, wc_yX12_finish⟩ hy_yX12_finish rfl (Nat.le_of_ble_eq_true rfl) dX12_memory_32 (fun rv σ' hpo => ?_)
          obtain ⟨rfl, g⟩ := hpo
          refine n_goto (tgt := 225) hC dX12_memory_35 (by decide) ?_
          refine n_vret hC dX12_memory_225 ?_
          exact ⟨rfl, XA.trap hI hq ha g (m_nw_t (by omega)) hl40 (by decide) (Or.inr (Or.inr (Or.inr (Or.inr (Or.inr (Or.inr (Or.inr (Or.inl (⟨rfl, t, a, hst, Or.inr ⟨hh, rfl, rfl⟩⟩))))))))) m_fin_ab'⟩
    · exact absurd rfl h
  · obtain rfl : o = 21 := ho
    have hne : 2 ≤ (M.2 0 q).length := hne
    obtain ⟨t, a, hst⟩ := m_last1 (show 1 ≤ (M.2 0 q).length by omega)
    have hlen : (M.2 0 q).length = t.length + 1 := by rw [hst, len1]
    obtain ⟨t2, x, rfl⟩ := m_last1 (show 1 ≤ t.length by omega)
    rw [len1] at hlen
    refine n_ofW (by decide) (Nat.le_of_ble_eq_true rfl) ?_
    intro p e s m below meth c hC
    refine n_aload_n hC dX12_memory_0 rfl rfl ?_
    refine n_iload_n hC dX12_memory_1 rfl rfl ?_
    refine n_iconst (v := 0) hC dX12_memory_2 (by decide) ?_
    refine n_callV hC (x_t0 (d + 3) q _ M _ hM hq hst) (Nat.le_refl _) (by decide) (by first | exact rfl | with_reducible assumption) rfl rfl rfl ⟨wmX12_339, wi_yX12_top, wv_yX12_top, wzX12, wc_yX12_top⟩ hy_yX12_top rfl (Nat.le_of_ble_eq_true rfl) dX12_memory_3 (fun rv σ' hpo => ?_)
    obtain ⟨rfl, hσ⟩ := hpo
    rw [hσ]
    refine n_istore_n hC dX12_memory_6 rfl (Nat.le_of_ble_eq_true rfl) ?_
    refine n_iload_n hC dX12_memory_7 rfl rfl ?_
    refine n_bipush (v := 20) hC dX12_memory_8 (by decide) ?_
    refine n_icmp_eq (tgt := 19) hC dX12_memory_10 (by decide) (fun h => ?_) (fun h => ?_)
    · exact absurd h (by decide)
    · clear h
      refine n_iload_n hC dX12_memory_13 rfl rfl ?_
      refine n_bipush (v := 21) hC dX12_memory_14 (by decide) ?_
      refine n_icmp_ne (tgt := 89) hC dX12_memory_16 (by decide) (fun h => ?_) (fun h => ?_)
      · exact absurd rfl h
      · clear h
        refine n_aload_n hC dX12_memory_19 rfl rfl ?_
        refine n_iload_n hC dX12_memory_20 rfl rfl ?_
        refine n_iload_n hC dX12_memory_21 rfl rfl ?_
        refine n_callV hC (x_holds (d + 3) (nI q) a _ M _ hM hB) (Nat.le_refl _) (by decide) (by first | exact rfl | with_reducible assumption) rfl rfl rfl ⟨wmX12_355, wi_yX12_holds, wv_yX12_holds, wzX12, wc_yX12_holds⟩ hy_yX12_holds rfl (Nat.le_of_ble_eq_true rfl) dX12_memory_22 (fun rv σ' hpo => ?_)
        obtain ⟨hpo, hσ⟩ := hpo
        rw [hσ]
        rcases hpo with ⟨hh, rfl⟩ | ⟨hh, rfl⟩
        · obtain ⟨j, hj, rfl, hown⟩ := hh
          refine n_if_ne (tgt := 38) hC dX12_memory_25 (by decide) (fun h => ?_) (fun h => ?_)
          · clear h
            refine n_iload_n hC dX12_memory_38 rfl rfl ?_
            refine n_bipush (v := 20) hC dX12_memory_39 (by decide) ?_
            refine n_icmp_ne (tgt := 59) hC dX12_memory_41 (by decide) (fun h => ?_) (fun h => ?_)
            · clear h
              refine n_aload_n hC dX12_memory_59 rfl rfl ?_
              refine gm_cells hC wfX12_209 dX12_memory_60 ?_
              refine n_iload_n hC dX12_memory_63 rfl rfl ?_
              refine n_aload_n hC dX12_memory_64 rfl rfl ?_
              refine n_iload_n hC dX12_memory_65 rfl rfl ?_
              refine n_iconst (v := 1) hC dX12_memory_66 (by decide) ?_
              refine n_callV hC (x_t1 (d + 3) q _ M _ hM hq hst) (Nat.le_refl _) (by decide) (by first | exact rfl | with_reducible assumption) rfl rfl rfl ⟨wmX12_339, wi_yX12_top, wv_yX12_top, wzX12, wc_yX12_top⟩ hy_yX12_top rfl (Nat.le_of_ble_eq_true rfl) dX12_memory_67 (fun rv σ' hpo => ?_)
              obtain ⟨rfl, hσ⟩ := hpo
              rw [hσ]
              refine r_st hC rfl (fun _ h => h) (fun _ => rfl) (by decide) (by first | omega | with_reducible assumption) dX12_memory_70 ?_
              have g1 := rq_10 (v := x) hM hj
              refine n_aload_n hC dX12_memory_71 rfl rfl ?_
              refine gm_deep hC wfX12_155 dX12_memory_72 ?_
              refine n_iload_n hC dX12_memory_75 rfl rfl ?_
              refine n_dup2_11 hC dX12_memory_76 rfl rfl ?_
              first | refine r_ld hC rfl (fun _ => rfl) (by decide) (by first | omega | with_reducible assumption) dX12_memory_77 ?_ | refine r_needs hC (by first | exact vp_in_nI (by omega) (by decide) | with_reducible assumption) dX12_memory_77 ?_
              rw [n_up_o (by omega), e1, hlen]
              refine n_iconst (v := 2) hC dX12_memory_78 (by decide) ?_
              refine n_isub hC dX12_memory_79 ?_
              rw [show nI (t2.length + 1 + 1) - 2 = nI t2.length from nI_subL (a := t2.length + 1 + 1) (b := 2) (by omega)]
              refine r_st hC rfl (fun _ h => h) (fun _ => rfl) (by decide) (by first | omega | with_reducible assumption) dX12_memory_80 ?_
              refine n_aload_n hC dX12_memory_81 rfl rfl ?_
              refine n_iload_n hC dX12_memory_82 rfl rfl ?_
              refine n_callV hC (x_done (d + 3) q n0 _ _ _ (rq_pop (t := t2) (u := [x] ++ [nI j]) g1 hq (show M.2 0 q = _ from by rw [hst, List.append_assoc])) hq hn) (Nat.le_refl _) (by decide) (by first | exact rfl | with_reducible assumption) rfl rfl rfl ⟨wmX12_336, wi_yX12_done, wv_yX12_done, wzX12, wc_yX12_done⟩ hy_yX12_done rfl (Nat.le_of_ble_eq_true rfl) dX12_memory_83 (fun rv σ' hpo => ?_)
              obtain ⟨rfl, g⟩ := hpo
              refine n_goto (tgt := 225) hC dX12_memory_86 (by decide) ?_
              refine n_vret hC dX12_memory_225 ?_
              rw [show m_s (m_l (m_s M 10 j x) 0 q t2) 5 q (nI (n0 + 1)) = m_s (m_l (m_s M 5 q (nI (n0 + 1))) 0 q t2) 10 j x from ms_c (m_l M 0 q t2) _ _ (by omega)] at g
              exact ⟨rfl, XA.done hmv (hS.of g (fun i _ => rfl)) h1 (m_nw_t (by omega)) hl40 (Or.inr (Or.inr (Or.inr (Or.inr (Or.inr (Or.inr (Or.inr (Or.inr (Or.inl (⟨rfl, t2, x, nI j, hst, Or.inl ⟨j, ⟨hj, rfl, hown⟩, rfl, rfl⟩⟩))))))))))⟩
            · exact absurd h (by decide)
          · exact absurd h (by decide)
        · refine n_if_ne (tgt := 38) hC dX12_memory_25 (by decide) (fun h => ?_) (fun h => ?_)
          · exact absurd rfl h
          · clear h
            refine n_aload_n hC dX12_memory_28 rfl rfl ?_
            refine n_iload_n hC dX12_memory_29 rfl rfl ?_
            refine n_bipush (v := -5) hC dX12_memory_30 (by decide) ?_
            refine n_callV hC (x_finish (d + 1) q (-5) τ0 M _ hS hI hq ha) (Nat.le_refl _) (by decide) (by first | exact rfl | with_reducible assumption) rfl rfl rfl ⟨wmX12_330, wi_yX12_finish, wv_yX12_finish, wzX12, wc_yX12_finish⟩ hy_yX12_finish rfl (Nat.le_of_ble_eq_true rfl) dX12_memory_32 (fun rv σ' hpo => ?_)
            obtain ⟨rfl, g⟩ := hpo
            refine n_goto (tgt := 225) hC dX12_memory_35 (by decide) ?_
            refine n_vret hC dX12_memory_225 ?_
            exact ⟨rfl, XA.trap hI hq ha g (m_nw_t (by omega)) hl40 (by decide) (Or.inr (Or.inr (Or.inr (Or.inr (Or.inr (Or.inr (Or.inr (Or.inr (Or.inl (⟨rfl, t2, x, a, hst, Or.inr ⟨hh, rfl, rfl⟩⟩)))))))))) m_fin_ab'⟩
  · obtain rfl : o = 23 := ho
    have hne : 1 ≤ (M.2 0 q).length := hne
    obtain ⟨t, a, hst⟩ := m_last1 hne
    have hlen : (M.2 0 q).length = t.length + 1 := by rw [hst, len1]
    refine n_ofW (by decide) (Nat.le_of_ble_eq_true rfl) ?_
    intro p e s m below meth c hC
    refine n_aload_n hC dX12_memory_0 rfl rfl ?_
    refine n_iload_n hC dX12_memory_1 rfl rfl ?_
    refine n_iconst (v := 0) hC dX12_memory_2 (by decide) ?_
    refine n_callV hC (x_t0 (d + 3) q _ M _ hM hq hst) (Nat.le_refl _) (by decide) (by first | exact rfl | with_reducible assumption) rfl rfl rfl ⟨wmX12_339, wi_yX12_top, wv_yX12_top, wzX12, wc_yX12_top⟩ hy_yX12_top rfl (Nat.le_of_ble_eq_true rfl) dX12_memory_3 (fun rv σ' hpo => ?_)
    obtain ⟨rfl, hσ⟩ := hpo
    rw [hσ]
    refine n_istore_n hC dX12_memory_6 rfl (Nat.le_of_ble_eq_true rfl) ?_
    refine n_iload_n hC dX12_memory_7 rfl rfl ?_
    refine n_bipush (v := 20) hC dX12_memory_8 (by decide) ?_
    refine n_icmp_eq (tgt := 19) hC dX12_memory_10 (by decide) (fun h => ?_) (fun h => ?_)
    · exact absurd h (by decide)
    · clear h
      refine n_iload_n hC dX12_memory_13 rfl rfl ?_
      refine n_bipush (v := 21) hC dX12_memory_14 (by decide) ?_
      refine n_icmp_ne (tgt := 89) hC dX12_memory_16 (by decide) (fun h => ?_) (fun h => ?_)
      · clear h
        refine n_iload_n hC dX12_memory_89 rfl rfl ?_
        refine n_bipush (v := 23) hC dX12_memory_90 (by decide) ?_
        refine n_icmp_ne (tgt := 110) hC dX12_memory_92 (by decide) (fun h => ?_) (fun h => ?_)
        · exact absurd rfl h
        · clear h
          refine n_aload_n hC dX12_memory_95 rfl rfl ?_
          refine n_iload_n hC dX12_memory_96 rfl rfl ?_
          refine n_iconst (v := 1) hC dX12_memory_97 (by decide) ?_
          refine n_aload_n hC dX12_memory_98 rfl rfl ?_
          refine n_iload_n hC dX12_memory_99 rfl rfl ?_
          refine n_iload_n hC dX12_memory_100 rfl rfl ?_
          refine n_callV hC (x_allocate (d + 3) q a _ M _ hM hB) (Nat.le_refl _) (by decide) (by first | exact rfl | with_reducible assumption) rfl rfl rfl ⟨wmX12_358, wi_yX12_allocate, wv_yX12_allocate, wzX12, wc_yX12_allocate⟩ hy_yX12_allocate rfl (Nat.le_of_ble_eq_true rfl) dX12_memory_101 (fun rv σ' hpo => ?_)
          rcases hpo with ⟨n', j, hn', hae, hf, rfl, g⟩ | ⟨hno, rfl, hσ⟩
          · refine n_callV hC (x_result (d + 2) q 1 n0 _ _ _ _ t [a] g hq (by rw [m_cut_s (by omega)]; exact hn) (by rw [m_cut_l (by omega)]; exact hst) rfl (by omega)) (Nat.le_refl _) (by decide) (by first | exact rfl | with_reducible assumption) rfl rfl rfl ⟨wmX12_345, wi_yX12_result, wv_yX12_result, wzX12, wc_yX12_result⟩ hy_yX12_result rfl (Nat.le_of_ble_eq_true rfl) dX12_memory_104 (fun rv σ' hpo => ?_)
            obtain ⟨rfl, g⟩ := hpo
            refine n_goto (tgt := 225) hC dX12_memory_107 (by decide) ?_
            refine n_vret hC dX12_memory_225 ?_
            have e : m_l (m_cut (m_l (m_s M 5 q (nI (n0 + 1))) 0 q t) (m_nsl M) (M.2 11 0) j n' (nI q)) 0 q (t ++ [nI ((m_nsl M).take j).sum]) = m_l (m_s (m_cut M (m_nsl M) (M.2 11 0) j n' (nI q)) 5 q (nI (n0 + 1))) 0 q (t ++ [nI ((m_nsl M).take j).sum]) := by
              rw [m_cut_lc (by omega), m_cut_sc (by omega), ml_ml]
            rw [← e] at g
            have e0 : ∀ c i, c ≠ 5 → c ≠ 10 → c ≠ 11 → c ≠ 13 → (m_l (m_cut (m_l (m_s M 5 q (nI (n0 + 1))) 0 q t) (m_nsl M) (M.2 11 0) j n' (nI q)) 0 q (t ++ [nI ((m_nsl M).take j).sum])).1 c i = M.1 c i := by
              intro c i c5 c10 c11 c13
              rw [m_l_s, m_cut_s ⟨c10, c11, c13⟩, m_l_s, ms_n (by omega)]
            exact ⟨rfl, XA.done hmv (hS.of g (fun i _ => (ms_n (by omega)).trans (e0 12 i (by omega) (by omega) (by omega) (by omega)))) ((e0 0 q (by omega) (by omega) (by omega) (by omega)).trans h1) (m_nw_t (by omega)) hl40 (Or.inr (Or.inr (Or.inr (Or.inr (Or.inr (Or.inr (Or.inr (Or.inr (Or.inr (Or.inl (⟨rfl, rfl, t, a, hst, Or.inl ⟨n', j, hn', hae, hf, rfl⟩⟩)))))))))))⟩
          · rw [hσ]
            refine n_callV hC (x_result (d + 2) q 1 n0 (-1) _ M _ t [a] hM hq hn hst rfl (by omega)) (Nat.le_refl _) (by decide) (by first | exact rfl | with_reducible assumption) rfl rfl rfl ⟨wmX12_345, wi_yX12_result, wv_yX12_result, wzX12, wc_yX12_result⟩ hy_yX12_result rfl (Nat.le_of_ble_eq_true rfl) dX12_memory_104 (fun rv σ' hpo => ?_)
            obtain ⟨rfl, g⟩ := hpo
            refine n_goto (tgt := 225) hC dX12_memory_107 (by decide) ?_
            refine n_vret hC dX12_memory_225 ?_
            exact ⟨rfl, XA.stk hmv hS h1 g (m_nw_t (by omega)) hl40 (Or.inr (Or.inr (Or.inr (Or.inr (Or.inr (Or.inr (Or.inr (Or.inr (Or.inr (Or.inl (⟨rfl, rfl, t, a, hst, Or.inr ⟨hno, rfl⟩⟩)))))))))))⟩
      · exact absurd h (by decide)
  · obtain rfl : o = 24 := ho
    have hne : 1 ≤ (M.2 0 q).length := hne
    obtain ⟨t, a, hst⟩ := m_last1 hne
    have hlen : (M.2 0 q).length = t.length + 1 := by rw [hst, len1]
    refine n_ofW (by decide) (Nat.le_of_ble_eq_true rfl) ?_
    intro p e s m below meth c hC
    refine n_aload_n hC dX12_memory_0 rfl rfl ?_
    refine n_iload_n hC dX12_memory_1 rfl rfl ?_
    refine n_iconst (v := 0) hC dX12_memory_2 (by decide) ?_
    refine n_callV hC (x_t0 (d + 3) q _ M _ hM hq hst) (Nat.le_refl _) (by decide) (by first | exact rfl | with_reducible assumption) rfl rfl rfl ⟨wmX12_339, wi_yX12_top, wv_yX12_top, wzX12, wc_yX12_top⟩ hy_yX12_top rfl (Nat.le_of_ble_eq_true rfl) dX12_memory_3 (fun rv σ' hpo => ?_)
    obtain ⟨rfl, hσ⟩ := hpo
    rw [hσ]
    refine n_istore_n hC dX12_memory_6 rfl (Nat.le_of_ble_eq_true rfl) ?_
    refine n_iload_n hC dX12_memory_7 rfl rfl ?_
    refine n_bipush (v := 20) hC dX12_memory_8 (by decide) ?_
    refine n_icmp_eq (tgt := 19) hC dX12_memory_10 (by decide) (fun h => ?_) (fun h => ?_)
    · exact absurd h (by decide)
    · clear h
      refine n_iload_n hC dX12_memory_13 rfl rfl ?_
      refine n_bipush (v := 21) hC dX12_memory_14 (by decide) ?_
      refine n_icmp_ne (tgt := 89) hC dX12_memory_16 (by decide) (fun h => ?_) (fun h => ?_)
      · clear h
        refine n_iload_n hC dX12_memory_89 rfl rfl ?_
        refine n_bipush (v := 23) hC dX12_memory_90 (by decide) ?_
        refine n_icmp_ne (tgt := 110) hC dX12_memory_92 (by decide) (fun h => ?_) (fun h => ?_)
        · clear h
          refine n_iload_n hC dX12_memory_110 rfl rfl ?_
          refine n_bipush (v := 24) hC dX12_memory_111 (by decide) ?_
          refine n_icmp_ne (tgt := 162) hC dX12_memory_113 (by decide) (fun h => ?_) (fun h => ?_)
          · exact absurd rfl h
          · clear h
            refine n_aload_n hC dX12_memory_116 rfl rfl ?_
            refine n_iload_n hC dX12_memory_117 rfl rfl ?_
            refine n_iload_n hC dX12_memory_118 rfl rfl ?_
            refine n_callV hC (x_blockFrom (d + 3) (nI q) a _ M _ hM hB) (Nat.le_refl _) (by decide) (by first | exact rfl | with_reducible assumption) rfl rfl rfl ⟨wmX12_361, wi_yX12_blockFrom, wv_yX12_blockFrom, wzX12, wc_yX12_blockFrom⟩ hy_yX12_blockFrom rfl (Nat.le_of_ble_eq_true rfl) dX12_memory_119 (fun rv σ' hpo => ?_)
            obtain ⟨hpo, hσ⟩ := hpo
            rw [hσ]
            rcases hpo with ⟨j, hat, rfl⟩ | ⟨hno, rfl⟩
            · obtain ⟨hj, hx, ho⟩ := id hat
              have hlen2 := hB.len
              obtain ⟨b1, b2, b3⟩ := hB.1
              refine n_istore hC dX12_memory_122 (Nat.le_of_ble_eq_true rfl) ?_
              refine n_iload hC dX12_memory_124 rfl ?_
              refine n_iconst (v := -1) hC dX12_memory_126 (by decide) ?_
              refine n_icmp_eq (tgt := 142) hC dX12_memory_127 (by decide) (fun h => ?_) (fun h => ?_)
              · exact absurd h (nI_nm1 (by omega))
              · clear h
                refine n_aload_n hC dX12_memory_130 rfl rfl ?_
                refine gm_blockOf hC wfX12_218 dX12_memory_131 ?_
                refine n_iload hC dX12_memory_134 rfl ?_
                refine n_iconst (v := 0) hC dX12_memory_136 (by decide) ?_
                refine r_st hC rfl (fun _ h => h) (fun _ => rfl) (by decide) (by first | omega | with_reducible assumption) dX12_memory_137 ?_
                refine n_aload_n hC dX12_memory_138 rfl rfl ?_
                refine n_callV hC (x_joinBlocks (d + 3) (m_nsl M) ((M.2 11 0).take j ++ 0 :: (M.2 11 0).drop (j + 1)) _ (m_bw_own hB.1 hj) (RB.own (hM.rb hB) b1 hj)) (Nat.le_refl _) (by decide) (by first | exact rfl | with_reducible assumption) rfl rfl rfl ⟨wmX12_318, wi_yX12_joinBlocks, wv_yX12_joinBlocks, wzX12, wc_yX12_joinBlocks⟩ hy_yX12_joinBlocks rfl (Nat.le_of_ble_eq_true rfl) dX12_memory_139 (fun rv σ' hpo => ?_)
                obtain ⟨rfl, hbk, hRB⟩ := hpo
                have g0 := hM.mem (m_bw_mgs (m_bw_own hB.1 hj)) (((r_bk.refl _).up (Or.inr (Or.inr (Or.inl rfl)))).trans hbk) hRB
                have efr : m_fr (nI q) a (m_nsl M) (M.2 11 0) 0 = (M.2 11 0).take j ++ 0 :: (M.2 11 0).drop (j + 1) := by
                  have := fr_at (nI q) (m_nsl M) (M.2 11 0) 0 j b1 b2 hj (by omega) ho
                  rw [Nat.zero_add, ← hx] at this
                  exact this
                rw [← efr] at g0
                have g1 : RQ τ (m_free M (nI q) a) _ := g0
                refine n_aload_n hC dX12_memory_142 rfl rfl ?_
                refine n_iload_n hC dX12_memory_143 rfl rfl ?_
                refine n_iconst (v := 1) hC dX12_memory_144 (by decide) ?_
                refine n_iload hC dX12_memory_145 rfl ?_
                refine n_iconst (v := -1) hC dX12_memory_147 (by decide) ?_
                refine n_icmp_ne (tgt := 155) hC dX12_memory_148 (by decide) (fun h => ?_) (fun h => ?_)
                · clear h
                  refine n_iconst (v := 0) hC dX12_memory_155 (by decide) ?_
                  refine n_callV hC (x_result (d + 2) q 1 n0 0 _ (m_free M (nI q) a) _ t [a] g1 hq (by rw [m_free_s (by omega)]; exact hn) (by unfold m_free; rw [m_mem_l (by omega)]; exact hst) rfl (by omega)) (Nat.le_refl _) (by decide) (by first | exact rfl | with_reducible assumption) rfl rfl rfl ⟨wmX12_345, wi_yX12_result, wv_yX12_result, wzX12, wc_yX12_result⟩ hy_yX12_result rfl (Nat.le_of_ble_eq_true rfl) dX12_memory_156 (fun rv σ' hpo => ?_)
                  obtain ⟨rfl, g⟩ := hpo
                  refine n_goto (tgt := 225) hC dX12_memory_159 (by decide) ?_
                  refine n_vret hC dX12_memory_225 ?_
                  have e : m_l (m_free (m_l (m_s M 5 q (nI (n0 + 1))) 0 q t) (nI q) a) 0 q (t ++ [0]) = m_l (m_s (m_free M (nI q) a) 5 q (nI (n0 + 1))) 0 q (t ++ [0]) := by
                    rw [m_free_lc (by omega), m_free_sc (by omega), ml_ml]
                  rw [← e] at g
                  have e0 : ∀ c i, c ≠ 5 → c ≠ 11 → c ≠ 13 → (m_l (m_free (m_l (m_s M 5 q (nI (n0 + 1))) 0 q t) (nI q) a) 0 q (t ++ [0])).1 c i = M.1 c i := by
                    intro c i c5 c11 c13
                    rw [m_l_s, m_free_s ⟨c11, c13⟩, m_l_s, ms_n (by omega)]
                  exact ⟨rfl, XA.done hmv (hS.of g (fun i _ => (ms_n (by omega)).trans (e0 12 i (by omega) (by omega) (by omega)))) ((e0 0 q (by omega) (by omega) (by omega)).trans h1) (m_nw_t (by omega)) hl40 (Or.inr (Or.inr (Or.inr (Or.inr (Or.inr (Or.inr (Or.inr (Or.inr (Or.inr (Or.inr (Or.inl (⟨rfl, rfl, t, a, hst, Or.inl ⟨m_at_hf hB hat, rfl⟩⟩))))))))))))⟩
                · exact absurd h (nI_nm1 (by omega))
            · refine n_istore hC dX12_memory_122 (Nat.le_of_ble_eq_true rfl) ?_
              refine n_iload hC dX12_memory_124 rfl ?_
              refine n_iconst (v := -1) hC dX12_memory_126 (by decide) ?_
              refine n_icmp_eq (tgt := 142) hC dX12_memory_127 (by decide) (fun h => ?_) (fun h => ?_)
              · clear h
                refine n_aload_n hC dX12_memory_142 rfl rfl ?_
                refine n_iload_n hC dX12_memory_143 rfl rfl ?_
                refine n_iconst (v := 1) hC dX12_memory_144 (by decide) ?_
                refine n_iload hC dX12_memory_145 rfl ?_
                refine n_iconst (v := -1) hC dX12_memory_147 (by decide) ?_
                refine n_icmp_ne (tgt := 155) hC dX12_memory_148 (by decide) (fun h => ?_) (fun h => ?_)
                · exact absurd rfl h
                · clear h
                  refine n_iconst (v := -1) hC dX12_memory_151 (by decide) ?_
                  refine n_goto (tgt := 156) hC dX12_memory_152 (by decide) ?_
                  refine n_callV hC (x_result (d + 2) q 1 n0 (-1) _ M _ t [a] hM hq hn hst rfl (by omega)) (Nat.le_refl _) (by decide) (by first | exact rfl | with_reducible assumption) rfl rfl rfl ⟨wmX12_345, wi_yX12_result, wv_yX12_result, wzX12, wc_yX12_result⟩ hy_yX12_result rfl (Nat.le_of_ble_eq_true rfl) dX12_memory_156 (fun rv σ' hpo => ?_)
                  obtain ⟨rfl, g⟩ := hpo
                  refine n_goto (tgt := 225) hC dX12_memory_159 (by decide) ?_
                  refine n_vret hC dX12_memory_225 ?_
                  exact ⟨rfl, XA.stk hmv hS h1 g (m_nw_t (by omega)) hl40 (Or.inr (Or.inr (Or.inr (Or.inr (Or.inr (Or.inr (Or.inr (Or.inr (Or.inr (Or.inr (Or.inl (⟨rfl, rfl, t, a, hst, Or.inr ⟨fun z => hno (m_hf_j hB z), rfl⟩⟩))))))))))))⟩
              · exact absurd rfl h
        · exact absurd h (by decide)
      · exact absurd h (by decide)
  · obtain rfl : o = 25 := ho
    have hne : 2 ≤ (M.2 0 q).length := hne
    obtain ⟨t, x, hst⟩ := m_last1 (show 1 ≤ (M.2 0 q).length by omega)
    have hlen : (M.2 0 q).length = t.length + 1 := by rw [hst, len1]
    obtain ⟨t2, a, rfl⟩ := m_last1 (show 1 ≤ t.length by omega)
    rw [len1] at hlen
    have hst2 : M.2 0 q = t2 ++ ([a] ++ [x]) := by rw [hst, List.append_assoc]
    refine n_ofW (by decide) (Nat.le_of_ble_eq_true rfl) ?_
    intro p e s m below meth c hC
    have fail : ∀ w : Int32, (¬ ∃ r, n_V r ∧ x = nI r ∧ m_al M r ∧ m_hf M (nI q) a) → n_W p l e s m [Value.ref (ad 0 0), Value.int (nI q), Value.int 25].toArray below meth c (rw D ca ad Ex) (d + 4) (fun rv τ' => rv = none ∧ XA τ0 M q 29 n0 n τ') 193 [some (.ref (ad 0 0)), some (.int (nI q)), some (.int 25), some (.int x), some (.int w), none] [] τ := by
      intro w hno
      refine n_iconst (v := 0) hC dX12_memory_193 (by decide) ?_
      refine n_istore hC dX12_memory_194 (Nat.le_of_ble_eq_true rfl) ?_
      refine n_iload hC dX12_memory_196 rfl ?_
      refine n_if_eq (tgt := 209) hC dX12_memory_198 (by decide) (fun h => ?_) (fun h => ?_)
      · clear h
        refine n_aload_n hC dX12_memory_209 rfl rfl ?_
        refine n_iload_n hC dX12_memory_210 rfl rfl ?_
        refine n_iconst (v := 2) hC dX12_memory_211 (by decide) ?_
        refine n_iload hC dX12_memory_212 rfl ?_
        refine n_if_eq (tgt := 221) hC dX12_memory_214 (by decide) (fun h => ?_) (fun h => ?_)
        · clear h
          refine n_iconst (v := -1) hC dX12_memory_221 (by decide) ?_
          refine n_callV hC (x_result (d + 2) q 2 n0 (-1) _ M _ t2 ([a] ++ [x]) hM hq hn hst2 rfl (by omega)) (Nat.le_refl _) (by decide) (by first | exact rfl | with_reducible assumption) rfl rfl rfl ⟨wmX12_345, wi_yX12_result, wv_yX12_result, wzX12, wc_yX12_result⟩ hy_yX12_result rfl (Nat.le_of_ble_eq_true rfl) dX12_memory_222 (fun rv σ' hpo => ?_)
          obtain ⟨rfl, g⟩ := hpo
          refine n_vret hC dX12_memory_225 ?_
          exact ⟨rfl, XA.stk hmv hS h1 g (m_nw_t (by omega)) hl40 (Or.inr (Or.inr (Or.inr (Or.inr (Or.inr (Or.inr (Or.inr (Or.inr (Or.inr (Or.inr (Or.inr (Or.inl (⟨rfl, rfl, t2, a, x, hst, Or.inr ⟨hno, rfl⟩⟩)))))))))))))⟩
        · exact absurd rfl h
      · exact absurd rfl h
    refine n_aload_n hC dX12_memory_0 rfl rfl ?_
    refine n_iload_n hC dX12_memory_1 rfl rfl ?_
    refine n_iconst (v := 0) hC dX12_memory_2 (by decide) ?_
    refine n_callV hC (x_t0 (d + 3) q _ M _ hM hq hst) (Nat.le_refl _) (by decide) (by first | exact rfl | with_reducible assumption) rfl rfl rfl ⟨wmX12_339, wi_yX12_top, wv_yX12_top, wzX12, wc_yX12_top⟩ hy_yX12_top rfl (Nat.le_of_ble_eq_true rfl) dX12_memory_3 (fun rv σ' hpo => ?_)
    obtain ⟨rfl, hσ⟩ := hpo
    rw [hσ]
    refine n_istore_n hC dX12_memory_6 rfl (Nat.le_of_ble_eq_true rfl) ?_
    refine n_iload_n hC dX12_memory_7 rfl rfl ?_
    refine n_bipush (v := 20) hC dX12_memory_8 (by decide) ?_
    refine n_icmp_eq (tgt := 19) hC dX12_memory_10 (by decide) (fun h => ?_) (fun h => ?_)
    · exact absurd h (by decide)
    · clear h
      refine n_iload_n hC dX12_memory_13 rfl rfl ?_
      refine n_bipush (v := 21) hC dX12_memory_14 (by decide) ?_
      refine n_icmp_ne (tgt := 89) hC dX12_memory_16 (by decide) (fun h => ?_) (fun h => ?_)
      · clear h
        refine n_iload_n hC dX12_memory_89 rfl rfl ?_
        refine n_bipush (v := 23) hC dX12_memory_90 (by decide) ?_
        refine n_icmp_ne (tgt := 110) hC dX12_memory_92 (by decide) (fun h => ?_) (fun h => ?_)
        · clear h
          refine n_iload_n hC dX12_memory_110 rfl rfl ?_
          refine n_bipush (v := 24) hC dX12_memory_111 (by decide) ?_
          refine n_icmp_ne (tgt := 162) hC dX12_memory_113 (by decide) (fun h => ?_) (fun h => ?_)
          · clear h
            refine n_aload_n hC dX12_memory_162 rfl rfl ?_
            refine n_iload_n hC dX12_memory_163 rfl rfl ?_
            refine n_aload_n hC dX12_memory_164 rfl rfl ?_
            refine n_iload_n hC dX12_memory_165 rfl rfl ?_
            refine n_iconst (v := 1) hC dX12_memory_166 (by decide) ?_
            refine n_callV hC (x_t1 (d + 3) q _ M _ hM hq hst) (Nat.le_refl _) (by decide) (by first | exact rfl | with_reducible assumption) rfl rfl rfl ⟨wmX12_339, wi_yX12_top, wv_yX12_top, wzX12, wc_yX12_top⟩ hy_yX12_top rfl (Nat.le_of_ble_eq_true rfl) dX12_memory_167 (fun rv σ' hpo => ?_)
            obtain ⟨rfl, hσ⟩ := hpo
            rw [hσ]
            refine n_callV hC (x_blockFrom (d + 3) (nI q) a _ M _ hM hB) (Nat.le_refl _) (by decide) (by first | exact rfl | with_reducible assumption) rfl rfl rfl ⟨wmX12_361, wi_yX12_blockFrom, wv_yX12_blockFrom, wzX12, wc_yX12_blockFrom⟩ hy_yX12_blockFrom rfl (Nat.le_of_ble_eq_true rfl) dX12_memory_170 (fun rv σ' hpo => ?_)
            obtain ⟨hpo, hσ⟩ := hpo
            rw [hσ]
            rcases hpo with ⟨j, hat, rfl⟩ | ⟨hno, rfl⟩
            · obtain ⟨hj, -, -⟩ := id hat
              have hlen2 := hB.len
              have b1 := hB.1.1
              refine n_istore hC dX12_memory_173 (Nat.le_of_ble_eq_true rfl) ?_
              refine n_iload hC dX12_memory_175 rfl ?_
              refine n_iconst (v := -1) hC dX12_memory_177 (by decide) ?_
              refine n_icmp_eq (tgt := 193) hC dX12_memory_178 (by decide) (fun h => ?_) (fun h => ?_)
              · exact absurd h (nI_nm1 (by omega))
              · clear h
                refine n_aload_n hC dX12_memory_181 rfl rfl ?_
                refine n_iload_n hC dX12_memory_182 rfl rfl ?_
                refine n_callV hC (x_isAlive (d + 2) x _ M _ hM) (Nat.le_refl _) (by decide) (by first | exact rfl | with_reducible assumption) rfl rfl rfl ⟨wmX12_364, wi_yX12_isAlive, wv_yX12_isAlive, wzX12, wc_yX12_isAlive⟩ hy_yX12_isAlive rfl (Nat.le_of_ble_eq_true rfl) dX12_memory_183 (fun rv σ' hpo => ?_)
                obtain ⟨hpo, hσ⟩ := hpo
                rw [hσ]
                rcases hpo with ⟨r, hr, rfl, hal, rfl⟩ | ⟨hno, rfl⟩
                · refine n_if_eq (tgt := 193) hC dX12_memory_186 (by decide) (fun h => ?_) (fun h => ?_)
                  · exact absurd h (by decide)
                  · clear h
                    refine n_iconst (v := 1) hC dX12_memory_189 (by decide) ?_
                    refine n_goto (tgt := 194) hC dX12_memory_190 (by decide) ?_
                    refine n_istore hC dX12_memory_194 (Nat.le_of_ble_eq_true rfl) ?_
                    refine n_iload hC dX12_memory_196 rfl ?_
                    refine n_if_eq (tgt := 209) hC dX12_memory_198 (by decide) (fun h => ?_) (fun h => ?_)
                    · exact absurd h (by decide)
                    · clear h
                      refine n_aload_n hC dX12_memory_201 rfl rfl ?_
                      refine gm_blockOf hC wfX12_218 dX12_memory_202 ?_
                      refine n_iload hC dX12_memory_205 rfl ?_
                      refine n_iload_n hC dX12_memory_207 rfl rfl ?_
                      refine r_st hC rfl (fun _ h => h) (fun _ => rfl) (by decide) (by first | omega | with_reducible assumption) dX12_memory_208 ?_
                      have g1 := hM.mem (m_bw_own (o := nI r) hB.1 hj) ((r_bk.refl _).up (Or.inr (Or.inr (Or.inl rfl)))) (RB.own (hM.rb hB) b1 hj)
                      have g1 : RQ τ (m_own1 M j (nI r)) _ := g1
                      refine n_aload_n hC dX12_memory_209 rfl rfl ?_
                      refine n_iload_n hC dX12_memory_210 rfl rfl ?_
                      refine n_iconst (v := 2) hC dX12_memory_211 (by decide) ?_
                      refine n_iload hC dX12_memory_212 rfl ?_
                      refine n_if_eq (tgt := 221) hC dX12_memory_214 (by decide) (fun h => ?_) (fun h => ?_)
                      · exact absurd h (by decide)
                      · clear h
                        refine n_iconst (v := 0) hC dX12_memory_217 (by decide) ?_
                        refine n_goto (tgt := 222) hC dX12_memory_218 (by decide) ?_
                        refine n_callV hC (x_result (d + 2) q 2 n0 0 _ (m_own1 M j (nI r)) _ t2 ([a] ++ [nI r]) g1 hq (by unfold m_own1; rw [m_mem_s (by omega)]; exact hn) (by unfold m_own1; rw [m_mem_l (by omega)]; exact hst2) rfl (by omega)) (Nat.le_refl _) (by decide) (by first | exact rfl | with_reducible assumption) rfl rfl rfl ⟨wmX12_345, wi_yX12_result, wv_yX12_result, wzX12, wc_yX12_result⟩ hy_yX12_result rfl (Nat.le_of_ble_eq_true rfl) dX12_memory_222 (fun rv σ' hpo => ?_)
                        obtain ⟨rfl, g⟩ := hpo
                        refine n_vret hC dX12_memory_225 ?_
                        have e : m_l (m_own1 (m_l (m_s M 5 q (nI (n0 + 1))) 0 q t2) j (nI r)) 0 q (t2 ++ [0]) = m_l (m_s (m_own1 M j (nI r)) 5 q (nI (n0 + 1))) 0 q (t2 ++ [0]) := by
                          rw [m_own1_lc (by omega), m_own1_sc (by omega), ml_ml]
                        rw [← e] at g
                        have e0 : ∀ c i, c ≠ 5 → c ≠ 11 → c ≠ 13 → (m_l (m_own1 (m_l (m_s M 5 q (nI (n0 + 1))) 0 q t2) j (nI r)) 0 q (t2 ++ [0])).1 c i = M.1 c i := by
                          intro c i c5 c11 c13
                          rw [m_l_s]
                          unfold m_own1
                          rw [m_mem_s ⟨c11, c13⟩, m_l_s, ms_n (by omega)]
                        exact ⟨rfl, XA.done hmv (hS.of g (fun i _ => (ms_n (by omega)).trans (e0 12 i (by omega) (by omega) (by omega)))) ((e0 0 q (by omega) (by omega) (by omega)).trans h1) (m_nw_t (by omega)) hl40 (Or.inr (Or.inr (Or.inr (Or.inr (Or.inr (Or.inr (Or.inr (Or.inr (Or.inr (Or.inr (Or.inr (Or.inl (⟨rfl, rfl, t2, a, nI r, hst, Or.inl ⟨r, j, hr, rfl, hal, hat, rfl⟩⟩)))))))))))))⟩
                · refine n_if_eq (tgt := 193) hC dX12_memory_186 (by decide) (fun h => ?_) (fun h => ?_)
                  · exact fail _ (fun ⟨r, z1, z2, z3, _⟩ => hno ⟨r, z1, z2, z3⟩)
                  · exact absurd rfl h
            · refine n_istore hC dX12_memory_173 (Nat.le_of_ble_eq_true rfl) ?_
              refine n_iload hC dX12_memory_175 rfl ?_
              refine n_iconst (v := -1) hC dX12_memory_177 (by decide) ?_
              refine n_icmp_eq (tgt := 193) hC dX12_memory_178 (by decide) (fun h => ?_) (fun h => ?_)
              · exact fail _ (fun ⟨r, _, _, _, z⟩ => hno (m_hf_j hB z))
              · exact absurd rfl h
          · exact absurd h (by decide)
        · exact absurd h (by decide)
      · exact absurd h (by decide)
end RMY
