section RSX
variable {l : Launch} {D : va_G} {ca : Nat → ClassId} {ad : Nat → Nat → Nat} {Ex : State → Heap → Prop}
theorem x_shares (d k q n0 i0 : Nat) (n o a : Int32) (ho : o = nI (r_op (k + 1))) (hk : k = 24 ∨ k = 32 ∨ k = 33 ∨ (38 ≤ k ∧ k ≤ 42)) (τ0 : n_S) (M : n_M) (τ : n_S) (hmv : τ0 0 0 52 = 0) (hS : RS τ0 M τ) (hI : II M) (hq : n_V q) (h1 : M.1 0 q = 1) (h7 : M.1 7 q = 0) (hn : M.1 5 q = nI n0) (hst : k ≠ 33 → k ≠ 39 → ∃ t, M.2 0 q = t ++ [a]) (hi0 : i0 < 12) (h4 : M.1 4 q = nI (i0 + 1)) (hn0 : n0 < (M.2 12 i0).length) : n_Ct l (rw D ca ad Ex) (d + 5) yX12_shares cX12_shares 5 none [.ref (ad 0 0), .int (nI q), .int o, .int a] τ (fun rv τ' => rv = none ∧ XA τ0 M q k n0 n τ') := by
  obtain ⟨hq1, hq2⟩ := id hq
  have ha := m_al1 h1
  have hM := hS.q
  obtain ⟨e1, hl40, -⟩ := hM.stk hq
  have iA := II_adv hI hq h1 hi0 h4 hn0
  have hlv := hI.1.lv hq
  rcases (show k = 24 ∨ k = 32 ∨ k = 33 ∨ k = 38 ∨ k = 39 ∨ k = 40 ∨ k = 41 ∨ k = 42 by omega) with rfl | rfl | rfl | rfl | rfl | rfl | rfl | rfl
  · obtain rfl : o = 38 := ho
    obtain ⟨t, hst⟩ := hst (by omega) (by omega)
    refine n_ofW (by decide) (Nat.le_of_ble_eq_true rfl) ?_
    intro p e s m below meth c hC
    refine n_iload_n hC dX12_shares_0 rfl rfl ?_
    refine n_tableOut (tgt := 364) hC dX12_shares_1 (by decide) (by decide) ?_
    refine n_aload_n hC dX12_shares_364 rfl rfl ?_
    refine n_iload_n hC dX12_shares_365 rfl rfl ?_
    refine n_iload_n hC dX12_shares_366 rfl rfl ?_
    refine n_callV hC (x_finish (d + 2) q a τ0 M _ hS hI hq ha) (Nat.le_refl _) (by decide) (by first | exact rfl | with_reducible assumption) rfl rfl rfl ⟨wmX12_330, wi_yX12_finish, wv_yX12_finish, wzX12, wc_yX12_finish⟩ hy_yX12_finish rfl (Nat.le_of_ble_eq_true rfl) dX12_shares_367 (fun rv σ' hpo => ?_)
    obtain ⟨rfl, g⟩ := hpo
    refine n_vret hC dX12_shares_370 ?_
    exact ⟨rfl, XA.exit (t := t) hI hq ha g (m_nw_t (by omega)) hl40 (Or.inr (Or.inr (Or.inr (Or.inr (Or.inr (Or.inr (Or.inl (⟨rfl, rfl, rfl⟩)))))))) hst m_fin_ab'⟩
  · obtain rfl : o = 36 := ho
    obtain ⟨t, hst⟩ := hst (by omega) (by omega)
    have hlen : (M.2 0 q).length = t.length + 1 := by rw [hst, len1]
    have g0 := rq_pop hM hq hst
    obtain ⟨c1, c2, c3⟩ := g0.con
    have c1 : (n_up τ 26 0 q (nI t.length)) 0 0 50 = nI (M.2 7 0).length := c1
    have c2 : (M.2 7 0).length ≤ 2000 := c2
    have c3 : ∀ j, j < (M.2 7 0).length → (n_up τ 26 0 q (nI t.length)) 50 0 j = (M.2 7 0).getD j 0 := c3
    refine n_ofW (by decide) (Nat.le_of_ble_eq_true rfl) ?_
    intro p e s m below meth c hC
    refine n_iload_n hC dX12_shares_0 rfl rfl ?_
    refine n_tableIn (off := 196) (tgt := 197) hC dX12_shares_1 (by decide) (by decide) (by decide) (by decide) ?_
    refine n_aload_n hC dX12_shares_197 rfl rfl ?_
    refine gm_deep hC wfX12_155 dX12_shares_198 ?_
    refine n_iload_n hC dX12_shares_201 rfl rfl ?_
    refine n_dup2_11 hC dX12_shares_202 rfl rfl ?_
    first | refine r_ld hC rfl (fun _ => rfl) (by decide) (by first | omega | with_reducible assumption) dX12_shares_203 ?_ | refine r_needs hC (by first | exact vp_in_nI (by omega) (by decide) | with_reducible assumption) dX12_shares_203 ?_
    rw [e1, hlen]
    refine n_iconst (v := 1) hC dX12_shares_204 (by decide) ?_
    refine n_isub hC dX12_shares_205 ?_
    rw [show nI (t.length + 1) - 1 = nI t.length from nI_m1 (by omega)]
    refine r_st hC rfl (fun _ h => h) (fun _ => rfl) (by decide) (by first | omega | with_reducible assumption) dX12_shares_206 ?_
    refine n_aload_n hC dX12_shares_207 rfl rfl ?_
    refine gm_told hC wfX12_406 dX12_shares_208 ?_
    rw [c1]
    refine n_sipush (v := 2000) hC dX12_shares_211 (by decide) ?_
    refine n_icmp_ne (tgt := 230) hC dX12_shares_214 (by decide) (fun h => ?_) (fun h => ?_)
    · have hlt : (M.2 7 0).length < 2000 := by
        rcases Nat.lt_or_ge (M.2 7 0).length 2000 with z | z
        · exact z
        · exact absurd (congrArg nI (show (M.2 7 0).length = 2000 by omega)) h
      clear h
      refine n_aload_n hC dX12_shares_230 rfl rfl ?_
      refine gm_console hC wfX12_224 dX12_shares_231 ?_
      refine n_aload_n hC dX12_shares_234 rfl rfl ?_
      refine gm_told hC wfX12_406 dX12_shares_235 ?_
      rw [c1]
      refine n_iload_n hC dX12_shares_238 rfl rfl ?_
      refine r_st hC rfl (fun _ h => h) (fun _ => rfl) (by decide) (by first | omega | with_reducible assumption) dX12_shares_239 ?_
      refine n_aload_n hC dX12_shares_240 rfl rfl ?_
      refine n_dup hC dX12_shares_241 rfl ?_
      refine gm_told hC wfX12_406 dX12_shares_242 ?_
      rw [n_up_o (by omega), c1]
      refine n_iconst (v := 1) hC dX12_shares_245 (by decide) ?_
      refine n_iadd hC dX12_shares_246 ?_
      rw [nI_1]
      refine pm_told hC wfX12_406 dX12_shares_247 ?_
      refine n_aload_n hC dX12_shares_250 rfl rfl ?_
      refine n_iload_n hC dX12_shares_251 rfl rfl ?_
      have g1 := rql_7 (τ' := n_up (n_up (n_up τ 26 0 q (nI t.length)) 50 0 (M.2 7 0).length a) 0 0 50 (nI ((M.2 7 0).length + 1))) (l0 := M.2 7 0 ++ [a]) g0 (fun κ x b1 b2 => by rw [n_up_o (by omega), n_up_o (by omega)]) (by rw [n_up_e, len1]) (by rw [len1]; omega) (fun j hj => by
        rw [len1] at hj
        rw [n_up_o (by omega)]
        by_cases z : j = (M.2 7 0).length
        · rw [z, n_up_e, getD_snoc_e]
        · rw [n_up_o (by omega), c3 j (by omega), getD_snoc_l _ _ _ (by omega)])
      refine n_callV hC (x_done (d + 4) q n0 _ _ _ g1 hq hn) (Nat.le_refl _) (by decide) (by first | exact rfl | with_reducible assumption) rfl rfl rfl ⟨wmX12_336, wi_yX12_done, wv_yX12_done, wzX12, wc_yX12_done⟩ hy_yX12_done rfl (Nat.le_of_ble_eq_true rfl) dX12_shares_252 (fun rv σ' hpo => ?_)
      obtain ⟨rfl, g⟩ := hpo
      refine n_goto (tgt := 370) hC dX12_shares_255 (by decide) ?_
      refine n_vret hC dX12_shares_370 ?_
      exact ⟨rfl, XA.done (M1 := m_l (m_l (m_s M 5 q (nI (n0 + 1))) 0 q t) 7 0 (M.2 7 0 ++ [a])) hmv (hS.of g (fun i _ => rfl)) h1 (m_nw_t (by omega)) hl40 (Or.inr (Or.inr (Or.inr (Or.inr (Or.inr (Or.inr (Or.inr (Or.inr (Or.inr (Or.inr (Or.inr (Or.inr (Or.inr (Or.inr (Or.inl (⟨rfl, rfl, t, a, hst, (if_pos hlt).symm⟩))))))))))))))))⟩
    · have he : (M.2 7 0).length = 2000 := (nI_eq (b := 2000) (by omega) (by omega)).mp h
      clear h
      refine n_aload_n hC dX12_shares_217 rfl rfl ?_
      refine n_dup hC dX12_shares_218 rfl ?_
      refine gm_lost hC wfX12_409 dX12_shares_219 ?_
      rw [show (n_up τ 26 0 q (nI t.length)) 0 0 51 = M.1 18 0 from g0.lost]
      refine n_iconst (v := 1) hC dX12_shares_222 (by decide) ?_
      refine n_iadd hC dX12_shares_223 ?_
      refine pm_lost hC wfX12_409 dX12_shares_224 ?_
      refine n_goto (tgt := 250) hC dX12_shares_227 (by decide) ?_
      refine n_aload_n hC dX12_shares_250 rfl rfl ?_
      refine n_iload_n hC dX12_shares_251 rfl rfl ?_
      refine n_callV hC (x_done (d + 4) q n0 _ _ _ (rq_18 (v := M.1 18 0 + 1) g0 rfl) hq hn) (Nat.le_refl _) (by decide) (by first | exact rfl | with_reducible assumption) rfl rfl rfl ⟨wmX12_336, wi_yX12_done, wv_yX12_done, wzX12, wc_yX12_done⟩ hy_yX12_done rfl (Nat.le_of_ble_eq_true rfl) dX12_shares_252 (fun rv σ' hpo => ?_)
      obtain ⟨rfl, g⟩ := hpo
      refine n_goto (tgt := 370) hC dX12_shares_255 (by decide) ?_
      refine n_vret hC dX12_shares_370 ?_
      rw [show m_s (m_s (m_l M 0 q t) 18 0 (M.1 18 0 + 1)) 5 q (nI (n0 + 1)) = m_s (m_l (m_s M 5 q (nI (n0 + 1))) 0 q t) 18 0 (M.1 18 0 + 1) from ms_c (m_l M 0 q t) _ _ (by omega)] at g
      exact ⟨rfl, XA.done hmv (hS.of g (fun i _ => rfl)) h1 (m_nw_t (by omega)) hl40 (Or.inr (Or.inr (Or.inr (Or.inr (Or.inr (Or.inr (Or.inr (Or.inr (Or.inr (Or.inr (Or.inr (Or.inr (Or.inr (Or.inr (Or.inl (⟨rfl, rfl, t, a, hst, (if_neg (by show ¬ (M.2 7 0).length < 2000; omega)).symm⟩))))))))))))))))⟩
  · obtain rfl : o = 37 := ho
    obtain ⟨k1, k2, k3⟩ := hM.key hq
    have hv3 : m_vL 3 (2 * q + 1) := by
      show 2 ≤ 2 * q + 1 ∧ 2 * q + 1 ≤ 25
      omega
    have hv2 : m_vL 2 (2 * q + 1) := hv3
    obtain ⟨w1, w2, -⟩ := hM.1.1.2 3 (2 * q + 1) hv3
    obtain ⟨-, w3, -⟩ := hM.1.1.2 2 (2 * q + 1) hv2
    have w1 : (M.2 3 (2 * q + 1)).length ≤ 8 := w1
    have el : (M.2 3 (2 * q + 1)).length = (M.2 2 (2 * q + 1)).length := (nI_eq (by omega) (by omega)).mp (w2.symm.trans w3)
    refine n_ofW (by decide) (Nat.le_of_ble_eq_true rfl) ?_
    intro p e s m below meth c hC
    refine n_iload_n hC dX12_shares_0 rfl rfl ?_
    refine n_tableIn (off := 257) (tgt := 258) hC dX12_shares_1 (by decide) (by decide) (by decide) (by decide) ?_
    refine n_aload_n hC dX12_shares_258 rfl rfl ?_
    refine gm_keyed hC wfX12_176 dX12_shares_259 ?_
    refine n_iload_n hC dX12_shares_262 rfl rfl ?_
    first | refine r_ld hC rfl (fun _ => rfl) (by decide) (by first | omega | with_reducible assumption) dX12_shares_263 ?_ | refine r_needs hC (by first | exact vp_in_nI (by omega) (by decide) | with_reducible assumption) dX12_shares_263 ?_
    rw [k1]
    refine n_if_ne (tgt := 277) hC dX12_shares_264 (by decide) (fun h => ?_) (fun h => ?_)
    · have hne : M.2 2 (2 * q + 1) ≠ [] := fun z => h (by rw [z]; rfl)
      clear h
      cases hx : M.2 2 (2 * q + 1) with
      | nil => exact absurd hx hne
      | cons x bs =>
      rw [hx] at k1 k2 k3 el
      have k1 : τ 33 0 q = nI (bs.length + 1) := k1
      have k2 : bs.length + 1 ≤ 8 := k2
      have el : (M.2 3 (2 * q + 1)).length = bs.length + 1 := el
      have hnw : m_nw M q 33 := ⟨fun z => absurd z (by omega), fun _ => hne, fun z => absurd z (by omega)⟩
      refine n_aload_n hC dX12_shares_277 rfl rfl ?_
      refine n_iload_n hC dX12_shares_278 rfl rfl ?_
      refine n_iconst (v := 1) hC dX12_shares_279 (by decide) ?_
      refine n_callV hC (x_fits (d + 1) q 1 τ0 M _ hS hI hq ha (by omega)) (Nat.le_refl _) (by decide) (by first | exact rfl | with_reducible assumption) rfl rfl rfl ⟨wmX12_342, wi_yX12_fits, wv_yX12_fits, wzX12, wc_yX12_fits⟩ hy_yX12_fits rfl (Nat.le_of_ble_eq_true rfl) dX12_shares_280 (fun rv σ' hpo => ?_)
      rcases hpo with ⟨hle, rfl, hσ⟩ | ⟨hgt, rfl, g⟩
      · rw [hσ]
        refine n_if_eq (tgt := 370) hC dX12_shares_283 (by decide) (fun h => ?_) (fun h => ?_)
        · exact absurd h (by decide)
        · clear h
          refine n_aload_n hC dX12_shares_286 rfl rfl ?_
          refine n_iload_n hC dX12_shares_287 rfl rfl ?_
          refine n_aload_n hC dX12_shares_288 rfl rfl ?_
          refine gm_keys hC wfX12_179 dX12_shares_289 ?_
          refine n_bipush (v := 8) hC dX12_shares_292 (by decide) ?_
          refine n_iload_n hC dX12_shares_294 rfl rfl ?_
          refine n_imul hC dX12_shares_295 ?_
          rw [show (8 : Int32) * nI q = nI (8 * q) from nI_mulL 8 q]
          first | refine r_ld hC rfl (fun _ => rfl) (by decide) (by first | omega | with_reducible assumption) dX12_shares_296 ?_ | refine r_needs hC (by first | exact vp_in_nI (by omega) (by decide) | with_reducible assumption) dX12_shares_296 ?_
          rw [show τ 34 0 (8 * q) = x from k3 0 (by simp)]
          refine n_callV hC (x_push (d + 4) q x _ M _ hM hq (by omega)) (Nat.le_refl _) (by decide) (by first | exact rfl | with_reducible assumption) rfl rfl rfl ⟨wmX12_333, wi_yX12_push, wv_yX12_push, wzX12, wc_yX12_push⟩ hy_yX12_push rfl (Nat.le_of_ble_eq_true rfl) dX12_shares_297 (fun rv τ2 hpo => ?_)
          obtain ⟨rfl, g2⟩ := hpo
          have b2 : ∀ j, j ≤ bs.length → τ2 34 0 (8 * q + j) = (x :: bs).getD j 0 := by
            intro j hj
            have := (g2.key hq).2.2 j (show j < (M.2 2 (2 * q + 1)).length by rw [hx]; simp; omega)
            rw [show (m_l M 0 q (M.2 0 q ++ [x])).2 2 (2 * q + 1) = x :: bs from hx] at this
            exact this
          have n2 : τ2 33 0 q = nI (bs.length + 1) := by
            have := (g2.key hq).1
            rw [show (m_l M 0 q (M.2 0 q ++ [x])).2 2 (2 * q + 1) = x :: bs from hx] at this
            exact this
          have loop : ∀ (t i : Nat) (τ4 : n_S), t + i = bs.length → (∀ κ z, ¬ (κ = 33 ∧ z = q) → ¬ (κ = 34 ∧ 8 * q ≤ z ∧ z < 8 * q + 8) → τ4 κ 0 z = τ2 κ 0 z) → τ4 33 0 q = nI bs.length → (∀ j, j ≤ bs.length → τ4 34 0 (8 * q + j) = if j < i then bs.getD j 0 else (x :: bs).getD j 0) →
              n_W p l e s m [Value.ref (ad 0 0), Value.int (nI q), Value.int 37, Value.int a].toArray below meth c (rw D ca ad Ex) (d + 5) (fun rv τ' => rv = none ∧ XA τ0 M q 33 n0 n τ') 313 [some (.ref (ad 0 0)), some (.int (nI q)), some (.int 37), some (.int a), some (.int (nI i))] [] τ4 := by
            intro t
            induction t with
            | zero =>
              intro i τ4 ht hf h33 h34
              have hi : i = bs.length := by omega
              subst hi
              refine n_iload hC dX12_shares_313 rfl ?_
              refine n_aload_n hC dX12_shares_315 rfl rfl ?_
              refine gm_keyed hC wfX12_176 dX12_shares_316 ?_
              refine n_iload_n hC dX12_shares_319 rfl rfl ?_
              first | refine r_ld hC rfl (fun _ => rfl) (by decide) (by first | omega | with_reducible assumption) dX12_shares_320 ?_ | refine r_needs hC (by first | exact vp_in_nI (by omega) (by decide) | with_reducible assumption) dX12_shares_320 ?_
              rw [h33]
              refine n_icmp_ge (tgt := 356) hC dX12_shares_321 (by decide) (fun h => ?_) (fun h => ?_)
              · clear h
                have g3 : RQ τ (m_l (m_l (m_l M 0 q (M.2 0 q ++ [x])) 2 (2 * q + 1) bs) 3 (2 * q + 1) (M.2 3 (2 * q + 1)).tail) τ4 := by
                  refine rql_k g2 hq hf h33 (by omega) ?_ (fun j hj => ?_)
                  · rw [List.length_tail]; omega
                  · rw [h34 j (by omega), if_pos hj]
                refine n_aload_n hC dX12_shares_356 rfl rfl ?_
                refine n_iload_n hC dX12_shares_357 rfl rfl ?_
                refine n_callV hC (x_done (d + 4) q n0 _ _ _ g3 hq hn) (Nat.le_refl _) (by decide) (by first | exact rfl | with_reducible assumption) rfl rfl rfl ⟨wmX12_336, wi_yX12_done, wv_yX12_done, wzX12, wc_yX12_done⟩ hy_yX12_done rfl (Nat.le_of_ble_eq_true rfl) dX12_shares_358 (fun rv σ' hpo => ?_)
                obtain ⟨rfl, g⟩ := hpo
                refine n_goto (tgt := 370) hC dX12_shares_361 (by decide) ?_
                refine n_vret hC dX12_shares_370 ?_
                exact ⟨rfl, XA.done (M1 := m_l (m_l (m_l (m_s M 5 q (nI (n0 + 1))) 0 q (M.2 0 q ++ [x])) 2 (2 * q + 1) bs) 3 (2 * q + 1) (M.2 3 (2 * q + 1)).tail) hmv (hS.of g (fun i _ => rfl)) h1 hnw hle (Or.inr (Or.inr (Or.inr (Or.inr (Or.inr (Or.inr (Or.inr (Or.inr (Or.inr (Or.inr (Or.inr (Or.inr (Or.inr (Or.inr (Or.inr (Or.inl (⟨rfl, rfl, x, bs, hx, rfl⟩)))))))))))))))))⟩
              · exact absurd (Int32.le_refl _) h
            | succ t ih =>
              intro i τ4 ht hf h33 h34
              refine n_iload hC dX12_shares_313 rfl ?_
              refine n_aload_n hC dX12_shares_315 rfl rfl ?_
              refine gm_keyed hC wfX12_176 dX12_shares_316 ?_
              refine n_iload_n hC dX12_shares_319 rfl rfl ?_
              first | refine r_ld hC rfl (fun _ => rfl) (by decide) (by first | omega | with_reducible assumption) dX12_shares_320 ?_ | refine r_needs hC (by first | exact vp_in_nI (by omega) (by decide) | with_reducible assumption) dX12_shares_320 ?_
              rw [h33]
              refine n_icmp_ge (tgt := 356) hC dX12_shares_321 (by decide) (fun h => ?_) (fun h => ?_)
              · exact absurd h (nI_ge (by omega) (by omega))
              · clear h
                refine n_aload_n hC dX12_shares_324 rfl rfl ?_
                refine gm_keys hC wfX12_179 dX12_shares_325 ?_
                refine n_bipush (v := 8) hC dX12_shares_328 (by decide) ?_
                refine n_iload_n hC dX12_shares_330 rfl rfl ?_
                refine n_imul hC dX12_shares_331 ?_
                refine n_iload hC dX12_shares_332 rfl ?_
                refine n_iadd hC dX12_shares_334 ?_
                rw [show (8 : Int32) * nI q + nI i = nI (8 * q + i) from by rw [← nI_add, ← nI_mulL]; rfl]
                refine n_aload_n hC dX12_shares_335 rfl rfl ?_
                refine gm_keys hC wfX12_179 dX12_shares_336 ?_
                refine n_bipush (v := 8) hC dX12_shares_339 (by decide) ?_
                refine n_iload_n hC dX12_shares_341 rfl rfl ?_
                refine n_imul hC dX12_shares_342 ?_
                refine n_iload hC dX12_shares_343 rfl ?_
                refine n_iadd hC dX12_shares_345 ?_
                refine n_iconst (v := 1) hC dX12_shares_346 (by decide) ?_
                refine n_iadd hC dX12_shares_347 ?_
                rw [show (8 : Int32) * nI q + nI i + 1 = nI (8 * q + (i + 1)) from by rw [← nI_add, ← nI_add, ← nI_mulL, Int32.add_assoc]; rfl]
                first | refine r_ld hC rfl (fun _ => rfl) (by decide) (by first | omega | with_reducible assumption) dX12_shares_348 ?_ | refine r_needs hC (by first | exact vp_in_nI (by omega) (by decide) | with_reducible assumption) dX12_shares_348 ?_
                refine r_st hC rfl (fun _ h => h) (fun _ => rfl) (by decide) (by first | omega | with_reducible assumption) dX12_shares_349 ?_
                refine n_iinc hC dX12_shares_350 rfl (show _ + Int32.ofInt 1 = _ + 1 from rfl) ?_
                refine n_goto (tgt := 313) hC dX12_shares_353 (by decide) ?_
                rw [nI_1, h34 (i + 1) (by omega), if_neg (by omega), List.getD_cons_succ]
                refine ih (i + 1) _ (by omega) (fun κ z a b => ?_) ?_ (fun j hj => ?_)
                · rw [n_up_o (by omega)]
                  exact hf κ z a b
                · rw [n_up_o (by omega)]
                  exact h33
                · by_cases z : j = i
                  · rw [z, n_up_e, if_pos (by omega)]
                  · rw [n_up_o (by omega), h34 j hj]
                    by_cases z2 : j < i
                    · rw [if_pos z2, if_pos (by omega)]
                    · rw [if_neg z2, if_neg (by omega)]
          refine n_aload_n hC dX12_shares_300 rfl rfl ?_
          refine gm_keyed hC wfX12_176 dX12_shares_301 ?_
          refine n_iload_n hC dX12_shares_304 rfl rfl ?_
          refine n_dup2_11 hC dX12_shares_305 rfl rfl ?_
          first | refine r_ld hC rfl (fun _ => rfl) (by decide) (by first | omega | with_reducible assumption) dX12_shares_306 ?_ | refine r_needs hC (by first | exact vp_in_nI (by omega) (by decide) | with_reducible assumption) dX12_shares_306 ?_
          rw [n2]
          refine n_iconst (v := 1) hC dX12_shares_307 (by decide) ?_
          refine n_isub hC dX12_shares_308 ?_
          rw [show nI (bs.length + 1) - 1 = nI bs.length from nI_m1 (by omega)]
          refine r_st hC rfl (fun _ h => h) (fun _ => rfl) (by decide) (by first | omega | with_reducible assumption) dX12_shares_309 ?_
          refine n_iconst (v := 0) hC dX12_shares_310 (by decide) ?_
          refine n_istore hC dX12_shares_311 (Nat.le_of_ble_eq_true rfl) ?_
          refine loop bs.length 0 _ (by omega) (fun κ z a b => n_up_o a) (n_up_e _ _ _ _) (fun j hj => ?_)
          rw [n_up_o (by omega), if_neg (by omega), b2 j hj]
      · refine n_if_eq (tgt := 370) hC dX12_shares_283 (by decide) (fun h => ?_) (fun h => ?_)
        · refine n_vret hC dX12_shares_370 ?_
          exact ⟨rfl, XA.full hI hq ha g hnw hgt⟩
        · exact absurd rfl h
    · have hnil : M.2 2 (2 * q + 1) = [] := by
        have := (nI_eq (a := (M.2 2 (2 * q + 1)).length) (b := 0) (by omega) (by omega)).mp h
        exact List.eq_nil_of_length_eq_zero this
      refine n_aload_n hC dX12_shares_267 rfl rfl ?_
      refine n_iload_n hC dX12_shares_268 rfl rfl ?_
      refine n_iconst (v := 4) hC dX12_shares_269 (by decide) ?_
      refine n_iconst (v := 0) hC dX12_shares_270 (by decide) ?_
      refine n_callV hC (x_waitFor (d + 3) q 4 0 _ M _ hM hq (hI.1.1 q hq)) (Nat.le_refl _) (by decide) (by first | exact rfl | with_reducible assumption) rfl rfl rfl ⟨wmX12_367, wi_yX12_waitFor, wv_yX12_waitFor, wzX12, wc_yX12_waitFor⟩ hy_yX12_waitFor rfl (Nat.le_of_ble_eq_true rfl) dX12_shares_271 (fun rv σ' hpo => ?_)
      obtain ⟨rfl, g⟩ := hpo
      refine n_goto (tgt := 370) hC dX12_shares_274 (by decide) ?_
      refine n_vret hC dX12_shares_370 ?_
      exact ⟨rfl, XA.wait (hS.of g (fun i _ => m_susp_sn (by omega))) (Or.inr (Or.inl ⟨rfl, hnil, rfl⟩))⟩
  · obtain rfl : o = 31 := ho
    obtain ⟨t, hst⟩ := hst (by omega) (by omega)
    have hlen : (M.2 0 q).length = t.length + 1 := by rw [hst, len1]
    have iN : II (m_dn (m_l (m_s M 5 q (nI (n0 + 1))) 0 q t) q) := II_dn (II_stk iA hq ha _) hq ha
    refine n_ofW (by decide) (Nat.le_of_ble_eq_true rfl) ?_
    intro p e s m below meth c hC
    have trap : (¬ ∃ r, r < 3 ∧ a = nI r) → n_W p l e s m [Value.ref (ad 0 0), Value.int (nI q), Value.int 31, Value.int a].toArray below meth c (rw D ca ad Ex) (d + 5) (fun rv τ' => rv = none ∧ XA τ0 M q 38 n0 n τ') 53 [some (.ref (ad 0 0)), some (.int (nI q)), some (.int 31), some (.int a), none] [] τ := by
      intro hno
      refine n_aload_n hC dX12_shares_53 rfl rfl ?_
      refine n_iload_n hC dX12_shares_54 rfl rfl ?_
      refine n_bipush (v := -9) hC dX12_shares_55 (by decide) ?_
      refine n_callV hC (x_finish (d + 2) q (-9) τ0 M _ hS hI hq ha) (Nat.le_refl _) (by decide) (by first | exact rfl | with_reducible assumption) rfl rfl rfl ⟨wmX12_330, wi_yX12_finish, wv_yX12_finish, wzX12, wc_yX12_finish⟩ hy_yX12_finish rfl (Nat.le_of_ble_eq_true rfl) dX12_shares_57 (fun rv σ' hpo => ?_)
      obtain ⟨rfl, g⟩ := hpo
      refine n_goto (tgt := 370) hC dX12_shares_60 (by decide) ?_
      refine n_vret hC dX12_shares_370 ?_
      exact ⟨rfl, XA.trap hI hq ha g (m_nw_t (by omega)) hl40 (by decide) (Or.inr (Or.inr (Or.inr (Or.inr (Or.inr (Or.inr (Or.inr (Or.inr (Or.inr (Or.inr (Or.inr (Or.inr (Or.inr (Or.inr (Or.inr (Or.inr (Or.inr (Or.inr (Or.inr (Or.inr (Or.inl (⟨rfl, t, a, hst, Or.inr ⟨hno, rfl, rfl⟩⟩)))))))))))))))))))))) m_fin_ab'⟩
    refine n_iload_n hC dX12_shares_0 rfl rfl ?_
    refine n_tableIn (off := 43) (tgt := 44) hC dX12_shares_1 (by decide) (by decide) (by decide) (by decide) ?_
    refine n_iload_n hC dX12_shares_44 rfl rfl ?_
    refine n_if_lt (tgt := 53) hC dX12_shares_45 (by decide) (fun h => ?_) (fun h => ?_)
    · refine trap (fun ⟨κ, hκ, z⟩ => ?_)
      rw [z] at h
      exact absurd h (Int32.not_lt.mpr (nI_pos' (by omega)))
    · have h0 := h
      clear h
      refine n_iload_n hC dX12_shares_48 rfl rfl ?_
      refine n_iconst (v := 3) hC dX12_shares_49 (by decide) ?_
      refine n_icmp_lt (tgt := 63) hC dX12_shares_50 (by decide) (fun h => ?_) (fun h => ?_)
      · obtain ⟨r, hr31, rfl⟩ := nI_of h0
        have hr : r < 3 := (nI_ltI (b := 3) hr31 (by omega)).mp h
        clear h h0 trap
        refine n_aload_n hC dX12_shares_63 rfl rfl ?_
        refine gm_deep hC wfX12_155 dX12_shares_64 ?_
        refine n_iload_n hC dX12_shares_67 rfl rfl ?_
        refine n_dup2_11 hC dX12_shares_68 rfl rfl ?_
        first | refine r_ld hC rfl (fun _ => rfl) (by decide) (by first | omega | with_reducible assumption) dX12_shares_69 ?_ | refine r_needs hC (by first | exact vp_in_nI (by omega) (by decide) | with_reducible assumption) dX12_shares_69 ?_
        rw [e1, hlen]
        refine n_iconst (v := 1) hC dX12_shares_70 (by decide) ?_
        refine n_isub hC dX12_shares_71 ?_
        rw [show nI (t.length + 1) - 1 = nI t.length from nI_m1 (by omega)]
        refine r_st hC rfl (fun _ h => h) (fun _ => rfl) (by decide) (by first | omega | with_reducible assumption) dX12_shares_72 ?_
        refine n_aload_n hC dX12_shares_73 rfl rfl ?_
        refine n_iload_n hC dX12_shares_74 rfl rfl ?_
        refine n_callV hC (x_done (d + 4) q n0 _ _ _ (rq_pop hM hq hst) hq hn) (Nat.le_refl _) (by decide) (by first | exact rfl | with_reducible assumption) rfl rfl rfl ⟨wmX12_336, wi_yX12_done, wv_yX12_done, wzX12, wc_yX12_done⟩ hy_yX12_done rfl (Nat.le_of_ble_eq_true rfl) dX12_shares_75 (fun rv σ' hpo => ?_)
        obtain ⟨rfl, g⟩ := hpo
        have g : RQ τ (m_dn (m_l (m_s M 5 q (nI (n0 + 1))) 0 q t) q) σ' := g
        have iO := IR_out (st := 2) iN.1 hq h1 ⟨r, hr, rfl⟩ (by decide)
        have hll := iO.row hq hr (iO.notrow hq hr (by rw [ms_e]; decide))
        refine n_aload_n hC dX12_shares_78 rfl rfl ?_
        refine n_iload_n hC dX12_shares_79 rfl rfl ?_
        refine n_callV hC (x_leaveRow (d + 4) q (m_lv M q) _ _ _ g hq hlv.1 hlv.2) (Nat.le_refl _) (by decide) (by first | exact rfl | with_reducible assumption) rfl rfl rfl ⟨wmX12_306, wi_yX12_leaveRow, wv_yX12_leaveRow, wzX12, wc_yX12_leaveRow⟩ hy_yX12_leaveRow rfl (Nat.le_of_ble_eq_true rfl) dX12_shares_80 (fun rv σ' hpo => ?_)
        obtain ⟨rfl, g2⟩ := hpo
        have g3 := rq_2 (v := nI r) g2 hq
        refine n_aload_n hC dX12_shares_83 rfl rfl ?_
        refine gm_level hC wfX12_143 dX12_shares_84 ?_
        refine n_iload_n hC dX12_shares_87 rfl rfl ?_
        refine n_iload_n hC dX12_shares_88 rfl rfl ?_
        refine r_st hC rfl (fun _ h => h) (fun _ => rfl) (by decide) (by first | omega | with_reducible assumption) dX12_shares_89 ?_
        refine n_aload_n hC dX12_shares_90 rfl rfl ?_
        refine n_iload_n hC dX12_shares_91 rfl rfl ?_
        refine n_callV hC (x_joinRow (d + 4) q _ _ _ g3 hq ⟨r, hr, ms_e _ _ _ _⟩ (by rw [m_lv_i hr (ms_e _ _ _ _)]; exact hll)) (Nat.le_refl _) (by decide) (by first | exact rfl | with_reducible assumption) rfl rfl rfl ⟨wmX12_309, wi_yX12_joinRow, wv_yX12_joinRow, wzX12, wc_yX12_joinRow⟩ hy_yX12_joinRow rfl (Nat.le_of_ble_eq_true rfl) dX12_shares_92 (fun rv σ' hpo => ?_)
        obtain ⟨rfl, g4⟩ := hpo
        refine n_aload_n hC dX12_shares_95 rfl rfl ?_
        refine n_iconst (v := 1) hC dX12_shares_96 (by decide) ?_
        refine pm_moved hC ⟨rfl, rfl⟩ wfX12_392 dX12_shares_97 ?_
        refine n_goto (tgt := 370) hC dX12_shares_100 (by decide) ?_
        refine n_vret hC dX12_shares_370 ?_
        have e := m_plast_ref (M := m_dn (m_l (m_s M 5 q (nI (n0 + 1))) 0 q t) q) (q := q) (a := nI r) h1 h7
        have g5 : RQ τ (m_plast (m_dn (m_l (m_s M 5 q (nI (n0 + 1))) 0 q t) q) q (nI r)) σ' := by rw [e]; exact g4
        have e2 : m_plast (m_dn (m_l (m_s M 5 q (nI (n0 + 1))) 0 q t) q) q (nI r) = m_dn (m_plast (m_l (m_s M 5 q (nI (n0 + 1))) 0 q t) q (nI r)) q := by
          unfold m_dn
          rw [m_plast_sc (by omega), m_plast_sn (by omega)]
        rw [e2] at g5
        exact ⟨rfl, XA.moved (hS.of g5 (fun i _ => by unfold m_dn; rw [ms_n (by omega), m_plast_sn (by omega), m_l_s, ms_n (by omega)])) (m_nw_t (by omega)) hl40 (Or.inr (Or.inr (Or.inr (Or.inr (Or.inr (Or.inr (Or.inr (Or.inr (Or.inr (Or.inr (Or.inr (Or.inr (Or.inr (Or.inr (Or.inr (Or.inr (Or.inr (Or.inr (Or.inr (Or.inr (Or.inl (⟨rfl, t, nI r, hst, Or.inl ⟨⟨r, hr, rfl⟩, rfl, rfl⟩⟩))))))))))))))))))))))⟩
      · refine trap (fun ⟨κ, hκ, z⟩ => ?_)
        rw [z] at h
        exact h (nI_lt (b := 3) hκ (by omega))
  · obtain rfl : o = 32 := ho
    have iN : II (m_dn (m_s M 5 q (nI (n0 + 1))) q) := II_dn iA hq ha
    refine n_ofW (by decide) (Nat.le_of_ble_eq_true rfl) ?_
    intro p e s m below meth c hC
    refine n_iload_n hC dX12_shares_0 rfl rfl ?_
    refine n_tableIn (off := 102) (tgt := 103) hC dX12_shares_1 (by decide) (by decide) (by decide) (by decide) ?_
    refine n_aload_n hC dX12_shares_103 rfl rfl ?_
    refine n_iload_n hC dX12_shares_104 rfl rfl ?_
    refine n_callV hC (x_done (d + 4) q n0 _ M _ hM hq hn) (Nat.le_refl _) (by decide) (by first | exact rfl | with_reducible assumption) rfl rfl rfl ⟨wmX12_336, wi_yX12_done, wv_yX12_done, wzX12, wc_yX12_done⟩ hy_yX12_done rfl (Nat.le_of_ble_eq_true rfl) dX12_shares_105 (fun rv σ' hpo => ?_)
    obtain ⟨rfl, g⟩ := hpo
    refine n_aload_n hC dX12_shares_108 rfl rfl ?_
    refine n_iload_n hC dX12_shares_109 rfl rfl ?_
    refine n_callV hC (x_toEnd (d + 3) q _ _ _ g hq iN.1 h1 h7) (Nat.le_refl _) (by decide) (by first | exact rfl | with_reducible assumption) rfl rfl rfl ⟨wmX12_396, wi_yX12_toEnd, wv_yX12_toEnd, wzX12, wc_yX12_toEnd⟩ hy_yX12_toEnd rfl (Nat.le_of_ble_eq_true rfl) dX12_shares_110 (fun rv σ' hpo => ?_)
    obtain ⟨rfl, g2⟩ := hpo
    refine n_aload_n hC dX12_shares_113 rfl rfl ?_
    refine n_iconst (v := 1) hC dX12_shares_114 (by decide) ?_
    refine pm_moved hC ⟨rfl, rfl⟩ wfX12_392 dX12_shares_115 ?_
    refine n_goto (tgt := 370) hC dX12_shares_118 (by decide) ?_
    refine n_vret hC dX12_shares_370 ?_
    have e2 : m_plast (m_dn (m_s M 5 q (nI (n0 + 1))) q) q (M.1 2 q) = m_dn (m_plast (m_s M 5 q (nI (n0 + 1))) q (M.1 2 q)) q := by
      unfold m_dn
      rw [m_plast_sc (by omega), m_plast_sn (by omega)]
    have g5 : RQ τ (m_plast (m_dn (m_s M 5 q (nI (n0 + 1))) q) q (M.1 2 q)) _ := g2
    rw [e2] at g5
    exact ⟨rfl, XA.moved (hS.of g5 (fun i _ => by unfold m_dn; rw [ms_n (by omega), m_plast_sn (by omega), ms_n (by omega)])) (m_nw_t (by omega)) hl40 (Or.inr (Or.inr (Or.inr (Or.inr (Or.inr (Or.inr (Or.inr (Or.inr (Or.inr (Or.inr (Or.inr (Or.inr (Or.inr (Or.inr (Or.inr (Or.inr (Or.inr (Or.inr (Or.inr (Or.inr (Or.inr (Or.inl (⟨rfl, rfl, rfl⟩)))))))))))))))))))))))⟩
  · obtain rfl : o = 33 := ho
    obtain ⟨t, hst⟩ := hst (by omega) (by omega)
    have hlen : (M.2 0 q).length = t.length + 1 := by rw [hst, len1]
    have iN : II (m_dn (m_l (m_s M 5 q (nI (n0 + 1))) 0 q t) q) := II_dn (II_stk iA hq ha _) hq ha
    refine n_ofW (by decide) (Nat.le_of_ble_eq_true rfl) ?_
    intro p e s m below meth c hC
    refine n_iload_n hC dX12_shares_0 rfl rfl ?_
    refine n_tableIn (off := 120) (tgt := 121) hC dX12_shares_1 (by decide) (by decide) (by decide) (by decide) ?_
    refine n_aload_n hC dX12_shares_121 rfl rfl ?_
    refine gm_deep hC wfX12_155 dX12_shares_122 ?_
    refine n_iload_n hC dX12_shares_125 rfl rfl ?_
    refine n_dup2_11 hC dX12_shares_126 rfl rfl ?_
    first | refine r_ld hC rfl (fun _ => rfl) (by decide) (by first | omega | with_reducible assumption) dX12_shares_127 ?_ | refine r_needs hC (by first | exact vp_in_nI (by omega) (by decide) | with_reducible assumption) dX12_shares_127 ?_
    rw [e1, hlen]
    refine n_iconst (v := 1) hC dX12_shares_128 (by decide) ?_
    refine n_isub hC dX12_shares_129 ?_
    rw [show nI (t.length + 1) - 1 = nI t.length from nI_m1 (by omega)]
    refine r_st hC rfl (fun _ h => h) (fun _ => rfl) (by decide) (by first | omega | with_reducible assumption) dX12_shares_130 ?_
    refine n_aload_n hC dX12_shares_131 rfl rfl ?_
    refine n_iload_n hC dX12_shares_132 rfl rfl ?_
    refine n_callV hC (x_done (d + 4) q n0 _ _ _ (rq_pop hM hq hst) hq hn) (Nat.le_refl _) (by decide) (by first | exact rfl | with_reducible assumption) rfl rfl rfl ⟨wmX12_336, wi_yX12_done, wv_yX12_done, wzX12, wc_yX12_done⟩ hy_yX12_done rfl (Nat.le_of_ble_eq_true rfl) dX12_shares_133 (fun rv τ1 hpo => ?_)
    obtain ⟨rfl, g⟩ := hpo
    have g : RQ τ (m_dn (m_l (m_s M 5 q (nI (n0 + 1))) 0 q t) q) τ1 := g
    refine n_iload_n hC dX12_shares_136 rfl rfl ?_
    refine n_iconst (v := 1) hC dX12_shares_137 (by decide) ?_
    refine n_icmp_ge (tgt := 154) hC dX12_shares_138 (by decide) (fun h => ?_) (fun h => ?_)
    · have h9 : ¬ a < 1 := Int32.not_lt.mpr h
      clear h
      have hclk : τ1 0 0 39 = M.1 15 0 := g.clock
      have wait : ∀ w : Int32, w = m_wk (M.1 15 0) a → n_W p l e s m [Value.ref (ad 0 0), Value.int (nI q), Value.int 33, Value.int a].toArray below meth c (rw D ca ad Ex) (d + 5) (fun rv τ' => rv = none ∧ XA τ0 M q 40 n0 n τ') 181 [some (.ref (ad 0 0)), some (.int (nI q)), some (.int 33), some (.int a), none] [.int w, .int 5, .int (nI q), .ref (ad 0 0)] τ1 := by
        rintro w rfl
        refine n_callV hC (x_waitFor (d + 3) q 5 (m_wk (M.1 15 0) a) _ _ _ g hq (iN.1.1 q hq)) (Nat.le_refl _) (by decide) (by first | exact rfl | with_reducible assumption) rfl rfl rfl ⟨wmX12_367, wi_yX12_waitFor, wv_yX12_waitFor, wzX12, wc_yX12_waitFor⟩ hy_yX12_waitFor rfl (Nat.le_of_ble_eq_true rfl) dX12_shares_181 (fun rv σ' hpo => ?_)
        obtain ⟨rfl, g2⟩ := hpo
        refine n_goto (tgt := 370) hC dX12_shares_184 (by decide) ?_
        refine n_vret hC dX12_shares_370 ?_
        have g3 : RQ τ (m_s (m_susp (m_dn (m_l (m_s M 5 q (nI (n0 + 1))) 0 q t) q) q 5 (m_wk (M.1 15 0) a)) 19 0 (m_min (M.1 19 0) (m_wk (M.1 15 0) a))) _ := g2.gh (fun c i _ _ z => ms_n (by omega)) (fun _ _ => rfl) (fun p' i' _ _ z => by rw [ms_n (by omega)] at z; exact z) (fun i' _ z => by rw [ms_n (by omega)] at z; exact z)
        have e : m_s (m_susp (m_dn (m_l (m_s M 5 q (nI (n0 + 1))) 0 q t) q) q 5 (m_wk (M.1 15 0) a)) 19 0 (m_min (M.1 19 0) (m_wk (M.1 15 0) a)) = m_dn (m_slp (m_l (m_s M 5 q (nI (n0 + 1))) 0 q t) q a) q := by
          unfold m_dn m_slp
          rw [m_susp_sc (by omega), ms_c _ _ _ (by omega), m_susp_sc (by omega), ms_n (c := 19) (by omega), m_susp_sn (by omega)]
          rfl
        rw [e] at g3
        have s12 : ∀ c i, c ≠ 0 → c ≠ 7 → c ≠ 8 → c ≠ 6 → c ≠ 5 → c ≠ 19 → (m_dn (m_slp (m_l (m_s M 5 q (nI (n0 + 1))) 0 q t) q a) q).1 c i = M.1 c i := by
          intro c i c0 c7 c8 c6 c5 c19
          unfold m_dn m_slp
          rw [ms_n (by omega), m_susp_sn (by omega), ms_n (by omega), m_l_s, ms_n (by omega)]
        have gS := hS.of g3 (fun i _ => s12 12 i (by omega) (by omega) (by omega) (by omega) (by omega) (by omega))
        refine ⟨rfl, XA.placed gS.1 gS.2.1 gS.2.2.2 (Or.inr ?_) (m_nw_t (by omega)) hl40 (Or.inr (Or.inr (Or.inr (Or.inr (Or.inr (Or.inr (Or.inr (Or.inr (Or.inr (Or.inr (Or.inr (Or.inr (Or.inr (Or.inr (Or.inr (Or.inr (Or.inr (Or.inr (Or.inr (Or.inr (Or.inr (Or.inr (Or.inl (⟨rfl, rfl, t, a, hst, (if_neg h9).symm⟩))))))))))))))))))))))))⟩
        unfold m_slp
        rw [m_susp_0]
        decide
      refine n_aload_n hC dX12_shares_154 rfl rfl ?_
      refine n_iload_n hC dX12_shares_155 rfl rfl ?_
      refine n_iconst (v := 5) hC dX12_shares_156 (by decide) ?_
      refine n_aload_n hC dX12_shares_157 rfl rfl ?_
      refine gm_clock hC wfX12_399 dX12_shares_158 ?_
      rw [hclk]
      refine n_ldcw hC wkX12_402 dX12_shares_161 ?_
      refine n_iload_n hC dX12_shares_164 rfl rfl ?_
      refine n_isub hC dX12_shares_165 ?_
      refine n_icmp_le (tgt := 175) hC dX12_shares_166 (by decide) (fun h => ?_) (fun h => ?_)
      · refine n_aload_n hC dX12_shares_175 rfl rfl ?_
        refine gm_clock hC wfX12_399 dX12_shares_176 ?_
        rw [hclk]
        refine n_iload_n hC dX12_shares_179 rfl rfl ?_
        refine n_iadd hC dX12_shares_180 ?_
        exact wait _ ((m_wk_e h9).1 h).symm
      · refine n_ldcw hC wkX12_402 dX12_shares_169 ?_
        refine n_goto (tgt := 181) hC dX12_shares_172 (by decide) ?_
        exact wait _ ((m_wk_e h9).2 h).symm
    · have h9 : a < 1 := Int32.not_le.mp h
      clear h
      refine n_aload_n hC dX12_shares_141 rfl rfl ?_
      refine n_iload_n hC dX12_shares_142 rfl rfl ?_
      refine n_callV hC (x_toEnd (d + 3) q _ _ _ g hq iN.1 h1 h7) (Nat.le_refl _) (by decide) (by first | exact rfl | with_reducible assumption) rfl rfl rfl ⟨wmX12_396, wi_yX12_toEnd, wv_yX12_toEnd, wzX12, wc_yX12_toEnd⟩ hy_yX12_toEnd rfl (Nat.le_of_ble_eq_true rfl) dX12_shares_143 (fun rv σ' hpo => ?_)
      obtain ⟨rfl, g2⟩ := hpo
      refine n_aload_n hC dX12_shares_146 rfl rfl ?_
      refine n_iconst (v := 1) hC dX12_shares_147 (by decide) ?_
      refine pm_moved hC ⟨rfl, rfl⟩ wfX12_392 dX12_shares_148 ?_
      refine n_goto (tgt := 370) hC dX12_shares_151 (by decide) ?_
      refine n_vret hC dX12_shares_370 ?_
      have e2 : m_plast (m_dn (m_l (m_s M 5 q (nI (n0 + 1))) 0 q t) q) q (M.1 2 q) = m_dn (m_plast (m_l (m_s M 5 q (nI (n0 + 1))) 0 q t) q (M.1 2 q)) q := by
        unfold m_dn
        rw [m_plast_sc (by omega), m_plast_sn (by omega)]
      have g5 : RQ τ (m_plast (m_dn (m_l (m_s M 5 q (nI (n0 + 1))) 0 q t) q) q (M.1 2 q)) _ := g2
      rw [e2] at g5
      exact ⟨rfl, XA.moved (hS.of g5 (fun i _ => by unfold m_dn; rw [ms_n (by omega), m_plast_sn (by omega), m_l_s, ms_n (by omega)])) (m_nw_t (by omega)) hl40 (Or.inr (Or.inr (Or.inr (Or.inr (Or.inr (Or.inr (Or.inr (Or.inr (Or.inr (Or.inr (Or.inr (Or.inr (Or.inr (Or.inr (Or.inr (Or.inr (Or.inr (Or.inr (Or.inr (Or.inr (Or.inr (Or.inr (Or.inl (⟨rfl, rfl, t, a, hst, (if_pos h9).symm⟩))))))))))))))))))))))))⟩
  · obtain rfl : o = 34 := ho
    obtain ⟨t, hst⟩ := hst (by omega) (by omega)
    refine n_ofW (by decide) (Nat.le_of_ble_eq_true rfl) ?_
    intro p e s m below meth c hC
    refine n_iload_n hC dX12_shares_0 rfl rfl ?_
    refine n_tableIn (off := 186) (tgt := 187) hC dX12_shares_1 (by decide) (by decide) (by decide) (by decide) ?_
    refine n_aload_n hC dX12_shares_187 rfl rfl ?_
    refine n_iload_n hC dX12_shares_188 rfl rfl ?_
    refine n_iload_n hC dX12_shares_189 rfl rfl ?_
    refine n_iload_n hC dX12_shares_190 rfl rfl ?_
    refine n_callV hC (x_semaphore d 41 q n0 i0 n 34 a t (Or.inl ⟨rfl, rfl⟩) τ0 M _ hmv hS hI hq h1 hn hst hi0 h4 hn0) (Nat.le_refl _) (by decide) (by first | exact rfl | with_reducible assumption) rfl rfl rfl ⟨wmX12_403, wi_yX12_semaphore, wv_yX12_semaphore, wzX12, wc_yX12_semaphore⟩ hy_yX12_semaphore rfl (Nat.le_of_ble_eq_true rfl) dX12_shares_191 (fun rv σ' hpo => ?_)
    obtain ⟨rfl, g⟩ := hpo
    refine n_goto (tgt := 370) hC dX12_shares_194 (by decide) ?_
    refine n_vret hC dX12_shares_370 ?_
    exact ⟨rfl, g⟩
  · obtain rfl : o = 35 := ho
    obtain ⟨t, hst⟩ := hst (by omega) (by omega)
    refine n_ofW (by decide) (Nat.le_of_ble_eq_true rfl) ?_
    intro p e s m below meth c hC
    refine n_iload_n hC dX12_shares_0 rfl rfl ?_
    refine n_tableIn (off := 186) (tgt := 187) hC dX12_shares_1 (by decide) (by decide) (by decide) (by decide) ?_
    refine n_aload_n hC dX12_shares_187 rfl rfl ?_
    refine n_iload_n hC dX12_shares_188 rfl rfl ?_
    refine n_iload_n hC dX12_shares_189 rfl rfl ?_
    refine n_iload_n hC dX12_shares_190 rfl rfl ?_
    refine n_callV hC (x_semaphore d 42 q n0 i0 n 35 a t (Or.inr ⟨rfl, rfl⟩) τ0 M _ hmv hS hI hq h1 hn hst hi0 h4 hn0) (Nat.le_refl _) (by decide) (by first | exact rfl | with_reducible assumption) rfl rfl rfl ⟨wmX12_403, wi_yX12_semaphore, wv_yX12_semaphore, wzX12, wc_yX12_semaphore⟩ hy_yX12_semaphore rfl (Nat.le_of_ble_eq_true rfl) dX12_shares_191 (fun rv σ' hpo => ?_)
    obtain ⟨rfl, g⟩ := hpo
    refine n_goto (tgt := 370) hC dX12_shares_194 (by decide) ?_
    refine n_vret hC dX12_shares_370 ?_
    exact ⟨rfl, g⟩
end RSX
