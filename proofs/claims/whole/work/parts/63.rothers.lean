theorem m_del_o {M : n_M} {r c i : Nat} {x y : Int32} (h : ¬ ((c = 0 ∨ c = 7 ∨ c = 8) ∧ i = r)) : (m_del M r x y).1 c i = M.1 c i := by
  unfold m_del
  split
  · rw [m_rdy_sn h]
    rfl
  · rfl
theorem m_del_l0 {M : n_M} {r q : Nat} {x y : Int32} : (m_del M r x y).2 0 q = M.2 0 q := by
  unfold m_del
  split
  · rfl
  · rfl
theorem m_fin1_2 {M : n_M} {r q : Nat} {v : Int32} (hne : q ≠ r) (h3 : M.1 3 q ≠ nI r) : (m_fin1 M r v).2 0 q = M.2 0 q := by
  have e := m_fin1_l0 (M := M) (t := M.2 0 q) (v := v) hne h3
  rw [ml_id rfl] at e
  rw [e, ml_e]
theorem rql_ret {τ0 τ : n_S} {M : n_M} {q : Nat} {t u : List Int32} (hM : RQ τ0 M τ) (hq : n_V q) (hst : M.2 1 q = t ++ u) : RQ τ0 (m_l M 1 q t) (n_up τ 28 0 q (nI t.length)) := by
  obtain ⟨e1, h1, h3⟩ := hM.ret hq
  rw [hst, List.length_append] at h1
  refine rql_1 hM hq (fun κ x a b => n_up_o (by omega)) (n_up_e _ _ _ _) (by omega) (fun j hj => ?_)
  rw [n_up_o (by omega), h3 j (by rw [hst, List.length_append]; omega), hst, List.getD_eq_getElem?_getD, List.getD_eq_getElem?_getD, List.getElem?_append_left hj]
theorem r_op_lt : ∀ k, k < 43 → r_op (k + 1) < 43 := by decide +kernel
theorem r_op_ne : ∀ k, k < 43 → rw_ne.getD (nI (r_op (k + 1))).toNatClampNeg 0 = nI (m_ne k) := by decide +kernel
section ROT
variable {l : Launch} {D : va_G} {ca : Nat → ClassId} {ad : Nat → Nat → Nat} {Ex : State → Heap → Prop}
set_option maxHeartbeats 8000000 in
theorem x_others (d k q n0 i0 : Nat) (n o : Int32) (ho : o = nI (r_op (k + 1))) (hk : (20 ≤ k ∧ k ≤ 24) ∨ (30 ≤ k ∧ k ≤ 42)) (τ0 : n_S) (M : n_M) (τ : n_S) (hmv : τ0 0 0 52 = 0) (hS : RS τ0 M τ) (hI : II M) (hq : n_V q) (h1 : M.1 0 q = 1) (h7 : M.1 7 q = 0) (hn : M.1 5 q = nI n0) (hne : m_ne k ≤ (M.2 0 q).length) (hi0 : i0 < 12) (h4 : M.1 4 q = nI (i0 + 1)) (hn0 : n0 < (M.2 12 i0).length) (hu : 0 < M.1 12 i0) : n_Ct l (rw D ca ad Ex) (d + 6) yX12_others cX12_others 6 none [.ref (ad 0 0), .int (nI q), .int o, .int n] τ (fun rv τ' => rv = none ∧ XA τ0 M q k n0 n τ') := by
  obtain ⟨hq1, hq2⟩ := id hq
  have ha := m_al1 h1
  have hM := hS.q
  obtain ⟨e1, hl40, -⟩ := hM.stk hq
  obtain ⟨er, hr20, hrr⟩ := hM.ret hq
  have iA := II_adv hI hq h1 hi0 h4 hn0
  have hin : vp_in o 43 := by rw [ho]; exact vp_in_nI (r_op_lt k (by omega)) (by decide)
  have hnd : rw_ne.getD o.toNatClampNeg 0 = nI (m_ne k) := by rw [ho]; exact r_op_ne k (by omega)
  have hnl := m_ne_le k (by omega)
  refine n_ofW (by decide) (Nat.le_of_ble_eq_true rfl) ?_
  intro p e s m below meth c hC
  have main : ∀ a : Int32, (0 < m_ne k → ∃ t, M.2 0 q = t ++ [a]) → n_W p l e s m [Value.ref (ad 0 0), Value.int (nI q), Value.int o, Value.int n].toArray below meth c (rw D ca ad Ex) (d + 6) (fun rv τ' => rv = none ∧ XA τ0 M q k n0 n τ') 19 [some (.ref (ad 0 0)), some (.int (nI q)), some (.int o), some (.int n), none, none] [.int a] τ := by
    intro a hst
    have dflt : (k = 24 ∨ k = 32 ∨ k = 33 ∨ (38 ≤ k ∧ k ≤ 42)) → (k ≠ 33 → k ≠ 39 → 0 < m_ne k) → n_W p l e s m [Value.ref (ad 0 0), Value.int (nI q), Value.int o, Value.int n].toArray below meth c (rw D ca ad Ex) (d + 6) (fun rv τ' => rv = none ∧ XA τ0 M q k n0 n τ') 448 [some (.ref (ad 0 0)), some (.int (nI q)), some (.int o), some (.int n), some (.int a), none] [] τ := by
      intro hk2 hk3
      refine n_aload_n hC dX12_others_448 rfl rfl ?_
      refine n_iload_n hC dX12_others_449 rfl rfl ?_
      refine n_iload_n hC dX12_others_450 rfl rfl ?_
      refine n_iload hC dX12_others_451 rfl ?_
      refine n_callV hC (x_shares d k q n0 i0 n o a ho hk2 τ0 M _ hmv hS hI hq h1 h7 hn (fun z1 z2 => hst (hk3 z1 z2)) hi0 h4 hn0) (Nat.le_refl _) (by decide) (by first | exact rfl | with_reducible assumption) rfl rfl rfl ⟨wmX12_389, wi_yX12_shares, wv_yX12_shares, wzX12, wc_yX12_shares⟩ hy_yX12_shares rfl (Nat.le_of_ble_eq_true rfl) dX12_others_453 (fun rv σ' hpo => ?_)
      obtain ⟨rfl, g⟩ := hpo
      refine n_vret hC dX12_others_456 ?_
      exact ⟨rfl, g⟩
    refine n_istore hC dX12_others_19 (Nat.le_of_ble_eq_true rfl) ?_
    refine n_iload_n hC dX12_others_21 rfl rfl ?_
    rcases (show k = 20 ∨ k = 21 ∨ k = 22 ∨ k = 23 ∨ k = 24 ∨ k = 30 ∨ k = 31 ∨ k = 32 ∨ k = 33 ∨ k = 34 ∨ k = 35 ∨ k = 36 ∨ k = 37 ∨ k = 38 ∨ k = 39 ∨ k = 40 ∨ k = 41 ∨ k = 42 by omega) with rfl | rfl | rfl | rfl | rfl | rfl | rfl | rfl | rfl | rfl | rfl | rfl | rfl | rfl | rfl | rfl | rfl | rfl
    · obtain rfl : o = 39 := ho
      refine n_tableIn (off := 162) (tgt := 184) hC dX12_others_22 (by decide) (by decide) (by decide) (by decide) ?_
      have g := rq_5 (v := n) hM hq
      refine n_aload_n hC dX12_others_184 rfl rfl ?_
      refine gm_next hC wfX12_152 dX12_others_185 ?_
      refine n_iload_n hC dX12_others_188 rfl rfl ?_
      refine n_iload_n hC dX12_others_189 rfl rfl ?_
      refine r_st hC rfl (fun _ h => h) (fun _ => rfl) (by decide) (by first | omega | with_reducible assumption) dX12_others_190 ?_
      refine n_aload_n hC dX12_others_191 rfl rfl ?_
      refine gm_did hC wfX12_182 dX12_others_192 ?_
      refine n_iload_n hC dX12_others_195 rfl rfl ?_
      refine n_dup2_11 hC dX12_others_196 rfl rfl ?_
      first | refine r_ld hC rfl (fun _ => rfl) (by decide) (by first | omega | with_reducible assumption) dX12_others_197 ?_ | refine r_needs hC (by first | exact vp_in_nI (by omega) (by decide) | with_reducible assumption) dX12_others_197 ?_
      rw [g.did hq]
      refine n_iconst (v := 1) hC dX12_others_198 (by decide) ?_
      refine n_iadd hC dX12_others_199 ?_
      refine r_st hC rfl (fun _ h => h) (fun _ => rfl) (by decide) (by first | omega | with_reducible assumption) dX12_others_200 ?_
      refine n_goto (tgt := 456) hC dX12_others_201 (by decide) ?_
      refine n_vret hC dX12_others_456 ?_
      exact ⟨rfl, XA.done (M1 := m_s M 5 q n) hmv (hS.of (rq_6 g hq) (fun i _ => rfl)) h1 (m_nw_t (by omega)) hl40 (Or.inr (Or.inr (Or.inl (⟨rfl, rfl, (ms_ms _ _ _ _ _).symm⟩))))⟩
    · obtain rfl : o = 40 := ho
      obtain ⟨t, hst⟩ := hst (by decide)
      have hlen : (M.2 0 q).length = t.length + 1 := by rw [hst, len1]
      have g0 := rq_pop hM hq hst
      refine n_tableIn (off := 182) (tgt := 204) hC dX12_others_22 (by decide) (by decide) (by decide) (by decide) ?_
      refine n_aload_n hC dX12_others_204 rfl rfl ?_
      refine gm_deep hC wfX12_155 dX12_others_205 ?_
      refine n_iload_n hC dX12_others_208 rfl rfl ?_
      refine n_dup2_11 hC dX12_others_209 rfl rfl ?_
      first | refine r_ld hC rfl (fun _ => rfl) (by decide) (by first | omega | with_reducible assumption) dX12_others_210 ?_ | refine r_needs hC (by first | exact vp_in_nI (by omega) (by decide) | with_reducible assumption) dX12_others_210 ?_
      rw [e1, hlen]
      refine n_iconst (v := 1) hC dX12_others_211 (by decide) ?_
      refine n_isub hC dX12_others_212 ?_
      rw [show nI (t.length + 1) - 1 = nI t.length from nI_m1 (by omega)]
      refine r_st hC rfl (fun _ h => h) (fun _ => rfl) (by decide) (by first | omega | with_reducible assumption) dX12_others_213 ?_
      refine n_aload_n hC dX12_others_214 rfl rfl ?_
      refine gm_next hC wfX12_152 dX12_others_215 ?_
      refine n_iload_n hC dX12_others_218 rfl rfl ?_
      refine n_iload hC dX12_others_219 rfl ?_
      refine n_if_ne (tgt := 228) hC dX12_others_221 (by decide) (fun h => ?_) (fun h => ?_)
      · refine n_aload_n hC dX12_others_228 rfl rfl ?_
        refine gm_next hC wfX12_152 dX12_others_229 ?_
        refine n_iload_n hC dX12_others_232 rfl rfl ?_
        first | refine r_ld hC rfl (fun _ => rfl) (by decide) (by first | omega | with_reducible assumption) dX12_others_233 ?_ | refine r_needs hC (by first | exact vp_in_nI (by omega) (by decide) | with_reducible assumption) dX12_others_233 ?_
        rw [show (n_up τ 26 0 q (nI t.length)) 25 0 q = nI n0 from (g0.next hq).trans hn]
        refine n_iconst (v := 1) hC dX12_others_234 (by decide) ?_
        refine n_iadd hC dX12_others_235 ?_
        rw [nI_1]
        have g := rq_5 (v := nI (n0 + 1)) g0 hq
        refine r_st hC rfl (fun _ h => h) (fun _ => rfl) (by decide) (by first | omega | with_reducible assumption) dX12_others_236 ?_
        refine n_aload_n hC dX12_others_237 rfl rfl ?_
        refine gm_did hC wfX12_182 dX12_others_238 ?_
        refine n_iload_n hC dX12_others_241 rfl rfl ?_
        refine n_dup2_11 hC dX12_others_242 rfl rfl ?_
        first | refine r_ld hC rfl (fun _ => rfl) (by decide) (by first | omega | with_reducible assumption) dX12_others_243 ?_ | refine r_needs hC (by first | exact vp_in_nI (by omega) (by decide) | with_reducible assumption) dX12_others_243 ?_
        rw [g.did hq]
        refine n_iconst (v := 1) hC dX12_others_244 (by decide) ?_
        refine n_iadd hC dX12_others_245 ?_
        refine r_st hC rfl (fun _ h => h) (fun _ => rfl) (by decide) (by first | omega | with_reducible assumption) dX12_others_246 ?_
        refine n_goto (tgt := 456) hC dX12_others_247 (by decide) ?_
        refine n_vret hC dX12_others_456 ?_
        exact ⟨rfl, XA.done (M1 := m_l (m_s M 5 q (nI (n0 + 1))) 0 q t) hmv (hS.of (rq_6 g hq) (fun i _ => rfl)) h1 (m_nw_t (by omega)) hl40 (Or.inr (Or.inr (Or.inr (Or.inl (⟨rfl, rfl, t, a, hst, (if_neg h).symm⟩)))))⟩
      · refine n_iload_n hC dX12_others_224 rfl rfl ?_
        refine n_goto (tgt := 236) hC dX12_others_225 (by decide) ?_
        have g := rq_5 (v := n) g0 hq
        refine r_st hC rfl (fun _ h => h) (fun _ => rfl) (by decide) (by first | omega | with_reducible assumption) dX12_others_236 ?_
        refine n_aload_n hC dX12_others_237 rfl rfl ?_
        refine gm_did hC wfX12_182 dX12_others_238 ?_
        refine n_iload_n hC dX12_others_241 rfl rfl ?_
        refine n_dup2_11 hC dX12_others_242 rfl rfl ?_
        first | refine r_ld hC rfl (fun _ => rfl) (by decide) (by first | omega | with_reducible assumption) dX12_others_243 ?_ | refine r_needs hC (by first | exact vp_in_nI (by omega) (by decide) | with_reducible assumption) dX12_others_243 ?_
        rw [g.did hq]
        refine n_iconst (v := 1) hC dX12_others_244 (by decide) ?_
        refine n_iadd hC dX12_others_245 ?_
        refine r_st hC rfl (fun _ h => h) (fun _ => rfl) (by decide) (by first | omega | with_reducible assumption) dX12_others_246 ?_
        refine n_goto (tgt := 456) hC dX12_others_247 (by decide) ?_
        refine n_vret hC dX12_others_456 ?_
        refine ⟨rfl, XA.done (M1 := m_s (m_l M 0 q t) 5 q n) hmv (hS.of (rq_6 g hq) (fun i _ => rfl)) h1 (m_nw_t (by omega)) hl40 (Or.inr (Or.inr (Or.inr (Or.inl (⟨rfl, rfl, t, a, hst, ?_⟩)))))⟩
        rw [if_pos h]
        exact (ms_ms (m_l M 0 q t) _ _ _ _).symm
    · obtain rfl : o = 41 := ho
      refine n_tableIn (off := 228) (tgt := 250) hC dX12_others_22 (by decide) (by decide) (by decide) (by decide) ?_
      refine n_aload_n hC dX12_others_250 rfl rfl ?_
      refine gm_called hC wfX12_161 dX12_others_251 ?_
      refine n_iload_n hC dX12_others_254 rfl rfl ?_
      first | refine r_ld hC rfl (fun _ => rfl) (by decide) (by first | omega | with_reducible assumption) dX12_others_255 ?_ | refine r_needs hC (by first | exact vp_in_nI (by omega) (by decide) | with_reducible assumption) dX12_others_255 ?_
      rw [er]
      refine n_bipush (v := 20) hC dX12_others_256 (by decide) ?_
      refine n_icmp_ne (tgt := 271) hC dX12_others_258 (by decide) (fun h => ?_) (fun h => ?_)
      · have hlt : (M.2 1 q).length < 20 := by
          rcases Nat.lt_or_ge (M.2 1 q).length 20 with z | z
          · exact z
          · exact absurd (congrArg nI (show (M.2 1 q).length = 20 by omega)) h
        clear h
        refine n_aload_n hC dX12_others_271 rfl rfl ?_
        refine gm_returns hC wfX12_164 dX12_others_272 ?_
        refine n_bipush (v := 20) hC dX12_others_275 (by decide) ?_
        refine n_iload_n hC dX12_others_277 rfl rfl ?_
        refine n_imul hC dX12_others_278 ?_
        refine n_aload_n hC dX12_others_279 rfl rfl ?_
        refine gm_called hC wfX12_161 dX12_others_280 ?_
        refine n_iload_n hC dX12_others_283 rfl rfl ?_
        first | refine r_ld hC rfl (fun _ => rfl) (by decide) (by first | omega | with_reducible assumption) dX12_others_284 ?_ | refine r_needs hC (by first | exact vp_in_nI (by omega) (by decide) | with_reducible assumption) dX12_others_284 ?_
        rw [er]
        refine n_iadd hC dX12_others_285 ?_
        rw [show (20 : Int32) * nI q + nI (M.2 1 q).length = nI (20 * q + (M.2 1 q).length) from by rw [← nI_add, ← nI_mulL]; rfl]
        refine n_aload_n hC dX12_others_286 rfl rfl ?_
        refine gm_next hC wfX12_152 dX12_others_287 ?_
        refine n_iload_n hC dX12_others_290 rfl rfl ?_
        first | refine r_ld hC rfl (fun _ => rfl) (by decide) (by first | omega | with_reducible assumption) dX12_others_291 ?_ | refine r_needs hC (by first | exact vp_in_nI (by omega) (by decide) | with_reducible assumption) dX12_others_291 ?_
        rw [hM.next hq, hn]
        refine n_iconst (v := 1) hC dX12_others_292 (by decide) ?_
        refine n_iadd hC dX12_others_293 ?_
        rw [nI_1]
        refine r_st hC rfl (fun _ h => h) (fun _ => rfl) (by decide) (by first | omega | with_reducible assumption) dX12_others_294 ?_
        refine n_aload_n hC dX12_others_295 rfl rfl ?_
        refine gm_called hC wfX12_161 dX12_others_296 ?_
        refine n_iload_n hC dX12_others_299 rfl rfl ?_
        refine n_dup2_11 hC dX12_others_300 rfl rfl ?_
        first | refine r_ld hC rfl (fun _ => rfl) (by decide) (by first | omega | with_reducible assumption) dX12_others_301 ?_ | refine r_needs hC (by first | exact vp_in_nI (by omega) (by decide) | with_reducible assumption) dX12_others_301 ?_
        rw [n_up_o (by omega), er]
        refine n_iconst (v := 1) hC dX12_others_302 (by decide) ?_
        refine n_iadd hC dX12_others_303 ?_
        rw [nI_1]
        have g0 := rql_1 (τ' := n_up (n_up τ 29 0 (20 * q + (M.2 1 q).length) (nI (n0 + 1))) 28 0 q (nI ((M.2 1 q).length + 1))) (l0 := M.2 1 q ++ [nI (n0 + 1)]) hM hq (fun κ x b1 b2 => by rw [n_up_o (by omega), n_up_o (by omega)]) (by rw [n_up_e, len1]) (by rw [len1]; omega) (fun j hj => by
          rw [len1] at hj
          rw [n_up_o (by omega)]
          by_cases z : j = (M.2 1 q).length
          · rw [z, n_up_e, getD_snoc_e]
          · rw [n_up_o (by omega), hrr j (by omega), getD_snoc_l _ _ _ (by omega)])
        have g := rq_5 (v := n) g0 hq
        refine r_st hC rfl (fun _ h => h) (fun _ => rfl) (by decide) (by first | omega | with_reducible assumption) dX12_others_304 ?_
        refine n_aload_n hC dX12_others_305 rfl rfl ?_
        refine gm_next hC wfX12_152 dX12_others_306 ?_
        refine n_iload_n hC dX12_others_309 rfl rfl ?_
        refine n_iload_n hC dX12_others_310 rfl rfl ?_
        refine r_st hC rfl (fun _ h => h) (fun _ => rfl) (by decide) (by first | omega | with_reducible assumption) dX12_others_311 ?_
        refine n_aload_n hC dX12_others_312 rfl rfl ?_
        refine gm_did hC wfX12_182 dX12_others_313 ?_
        refine n_iload_n hC dX12_others_316 rfl rfl ?_
        refine n_dup2_11 hC dX12_others_317 rfl rfl ?_
        first | refine r_ld hC rfl (fun _ => rfl) (by decide) (by first | omega | with_reducible assumption) dX12_others_318 ?_ | refine r_needs hC (by first | exact vp_in_nI (by omega) (by decide) | with_reducible assumption) dX12_others_318 ?_
        rw [g.did hq]
        refine n_iconst (v := 1) hC dX12_others_319 (by decide) ?_
        refine n_iadd hC dX12_others_320 ?_
        refine r_st hC rfl (fun _ h => h) (fun _ => rfl) (by decide) (by first | omega | with_reducible assumption) dX12_others_321 ?_
        refine n_goto (tgt := 456) hC dX12_others_322 (by decide) ?_
        refine n_vret hC dX12_others_456 ?_
        refine ⟨rfl, XA.done (M1 := m_s (m_l M 1 q (M.2 1 q ++ [nI (n0 + 1)])) 5 q n) hmv (hS.of (rq_6 g hq) (fun i _ => rfl)) h1 (m_nw_t (by omega)) hl40 (Or.inr (Or.inr (Or.inr (Or.inr (Or.inl (⟨rfl, Or.inr ⟨hlt, rfl, ?_⟩⟩))))))⟩
        rw [ms_e]
        exact (ms_ms (m_l M 1 q (M.2 1 q ++ [nI (n0 + 1)])) _ _ _ _).symm
      · have he : (M.2 1 q).length = 20 := (nI_eq (b := 20) (by omega) (by omega)).mp h
        refine n_aload_n hC dX12_others_261 rfl rfl ?_
        refine n_iload_n hC dX12_others_262 rfl rfl ?_
        refine n_bipush (v := -6) hC dX12_others_263 (by decide) ?_
        refine n_callV hC (x_finish (d + 3) q (-6) τ0 M _ hS hI hq ha) (Nat.le_refl _) (by decide) (by first | exact rfl | with_reducible assumption) rfl rfl rfl ⟨wmX12_330, wi_yX12_finish, wv_yX12_finish, wzX12, wc_yX12_finish⟩ hy_yX12_finish rfl (Nat.le_of_ble_eq_true rfl) dX12_others_265 (fun rv σ' hpo => ?_)
        obtain ⟨rfl, g⟩ := hpo
        refine n_goto (tgt := 456) hC dX12_others_268 (by decide) ?_
        refine n_vret hC dX12_others_456 ?_
        exact ⟨rfl, XA.trap hI hq ha g (m_nw_t (by omega)) hl40 (by decide) (Or.inr (Or.inr (Or.inr (Or.inr (Or.inl (⟨rfl, Or.inl ⟨by show 20 ≤ (M.2 1 q).length; omega, rfl, rfl⟩⟩)))))) (m_fin_ab (fun _ _ z => ms_n z) (fun _ _ _ => rfl))⟩
    · obtain rfl : o = 22 := ho
      refine n_tableIn (off := 98) (tgt := 120) hC dX12_others_22 (by decide) (by decide) (by decide) (by decide) ?_
      refine n_aload_n hC dX12_others_120 rfl rfl ?_
      refine gm_called hC wfX12_161 dX12_others_121 ?_
      refine n_iload_n hC dX12_others_124 rfl rfl ?_
      first | refine r_ld hC rfl (fun _ => rfl) (by decide) (by first | omega | with_reducible assumption) dX12_others_125 ?_ | refine r_needs hC (by first | exact vp_in_nI (by omega) (by decide) | with_reducible assumption) dX12_others_125 ?_
      rw [er]
      refine n_if_ne (tgt := 139) hC dX12_others_126 (by decide) (fun h => ?_) (fun h => ?_)
      · obtain ⟨t, b, hrs⟩ := m_last1 (show 1 ≤ (M.2 1 q).length from by
          rcases Nat.eq_zero_or_pos (M.2 1 q).length with z | z
          · exact absurd (by rw [z]; rfl) h
          · exact z)
        clear h
        have hlen : (M.2 1 q).length = t.length + 1 := by rw [hrs, len1]
        have g0 := rql_ret hM hq hrs
        refine n_aload_n hC dX12_others_139 rfl rfl ?_
        refine gm_called hC wfX12_161 dX12_others_140 ?_
        refine n_iload_n hC dX12_others_143 rfl rfl ?_
        refine n_dup2_11 hC dX12_others_144 rfl rfl ?_
        first | refine r_ld hC rfl (fun _ => rfl) (by decide) (by first | omega | with_reducible assumption) dX12_others_145 ?_ | refine r_needs hC (by first | exact vp_in_nI (by omega) (by decide) | with_reducible assumption) dX12_others_145 ?_
        rw [er, hlen]
        refine n_iconst (v := 1) hC dX12_others_146 (by decide) ?_
        refine n_isub hC dX12_others_147 ?_
        rw [show nI (t.length + 1) - 1 = nI t.length from nI_m1 (by omega)]
        refine r_st hC rfl (fun _ h => h) (fun _ => rfl) (by decide) (by first | omega | with_reducible assumption) dX12_others_148 ?_
        refine n_aload_n hC dX12_others_149 rfl rfl ?_
        refine gm_next hC wfX12_152 dX12_others_150 ?_
        refine n_iload_n hC dX12_others_153 rfl rfl ?_
        refine n_aload_n hC dX12_others_154 rfl rfl ?_
        refine gm_returns hC wfX12_164 dX12_others_155 ?_
        refine n_bipush (v := 20) hC dX12_others_158 (by decide) ?_
        refine n_iload_n hC dX12_others_160 rfl rfl ?_
        refine n_imul hC dX12_others_161 ?_
        refine n_aload_n hC dX12_others_162 rfl rfl ?_
        refine gm_called hC wfX12_161 dX12_others_163 ?_
        refine n_iload_n hC dX12_others_166 rfl rfl ?_
        first | refine r_ld hC rfl (fun _ => rfl) (by decide) (by first | omega | with_reducible assumption) dX12_others_167 ?_ | refine r_needs hC (by first | exact vp_in_nI (by omega) (by decide) | with_reducible assumption) dX12_others_167 ?_
        rw [n_up_e]
        refine n_iadd hC dX12_others_168 ?_
        rw [show (20 : Int32) * nI q + nI t.length = nI (20 * q + t.length) from by rw [← nI_add, ← nI_mulL]; rfl]
        first | refine r_ld hC rfl (fun _ => rfl) (by decide) (by first | omega | with_reducible assumption) dX12_others_169 ?_ | refine r_needs hC (by first | exact vp_in_nI (by omega) (by decide) | with_reducible assumption) dX12_others_169 ?_
        rw [n_up_o (by omega), hrr t.length (by omega), hrs, getD_snoc_e]
        have g := rq_5 (v := b) g0 hq
        refine r_st hC rfl (fun _ h => h) (fun _ => rfl) (by decide) (by first | omega | with_reducible assumption) dX12_others_170 ?_
        refine n_aload_n hC dX12_others_171 rfl rfl ?_
        refine gm_did hC wfX12_182 dX12_others_172 ?_
        refine n_iload_n hC dX12_others_175 rfl rfl ?_
        refine n_dup2_11 hC dX12_others_176 rfl rfl ?_
        first | refine r_ld hC rfl (fun _ => rfl) (by decide) (by first | omega | with_reducible assumption) dX12_others_177 ?_ | refine r_needs hC (by first | exact vp_in_nI (by omega) (by decide) | with_reducible assumption) dX12_others_177 ?_
        rw [g.did hq]
        refine n_iconst (v := 1) hC dX12_others_178 (by decide) ?_
        refine n_iadd hC dX12_others_179 ?_
        refine r_st hC rfl (fun _ h => h) (fun _ => rfl) (by decide) (by first | omega | with_reducible assumption) dX12_others_180 ?_
        refine n_goto (tgt := 456) hC dX12_others_181 (by decide) ?_
        refine n_vret hC dX12_others_456 ?_
        exact ⟨rfl, XA.done (M1 := m_s (m_l M 1 q t) 5 q b) hmv (hS.of (rq_6 g hq) (fun i _ => rfl)) h1 (m_nw_t (by omega)) hl40 (Or.inr (Or.inr (Or.inr (Or.inr (Or.inr (Or.inl (⟨rfl, Or.inr ⟨t, b, hrs, rfl, (ms_ms (m_l M 1 q t) _ _ _ _).symm⟩⟩)))))))⟩
      · have hnil : M.2 1 q = [] := by
          have := (nI_eq (a := (M.2 1 q).length) (b := 0) (by omega) (by omega)).mp h
          exact List.eq_nil_of_length_eq_zero this
        refine n_aload_n hC dX12_others_129 rfl rfl ?_
        refine n_iload_n hC dX12_others_130 rfl rfl ?_
        refine n_bipush (v := -6) hC dX12_others_131 (by decide) ?_
        refine n_callV hC (x_finish (d + 3) q (-6) τ0 M _ hS hI hq ha) (Nat.le_refl _) (by decide) (by first | exact rfl | with_reducible assumption) rfl rfl rfl ⟨wmX12_330, wi_yX12_finish, wv_yX12_finish, wzX12, wc_yX12_finish⟩ hy_yX12_finish rfl (Nat.le_of_ble_eq_true rfl) dX12_others_133 (fun rv σ' hpo => ?_)
        obtain ⟨rfl, g⟩ := hpo
        refine n_goto (tgt := 456) hC dX12_others_136 (by decide) ?_
        refine n_vret hC dX12_others_456 ?_
        exact ⟨rfl, XA.trap hI hq ha g (m_nw_t (by omega)) hl40 (by decide) (Or.inr (Or.inr (Or.inr (Or.inr (Or.inr (Or.inl (⟨rfl, Or.inl ⟨hnil, rfl, rfl⟩⟩))))))) (m_fin_ab (fun _ _ z => ms_n z) (fun _ _ _ => rfl))⟩
    · obtain rfl : o = 38 := ho
      refine n_tableIn (off := 426) (tgt := 448) hC dX12_others_22 (by decide) (by decide) (by decide) (by decide) ?_
      exact dflt (by omega) (fun _ _ => by decide)
    · obtain rfl : o = 26 := ho
      obtain ⟨t, hst⟩ := hst (by decide)
      have hlen : (M.2 0 q).length = t.length + 1 := by rw [hst, len1]
      have hne : 2 ≤ (M.2 0 q).length := hne
      obtain ⟨t2, x, rfl⟩ := m_last1 (show 1 ≤ t.length by omega)
      rw [len1] at hlen
      have hst2 : M.2 0 q = t2 ++ ([x] ++ [a]) := by rw [hst, List.append_assoc]
      refine n_tableIn (off := 312) (tgt := 334) hC dX12_others_22 (by decide) (by decide) (by decide) (by decide) ?_
      refine n_aload_n hC dX12_others_334 rfl rfl ?_
      refine n_iload_n hC dX12_others_335 rfl rfl ?_
      refine n_iconst (v := 2) hC dX12_others_336 (by decide) ?_
      refine n_aload_n hC dX12_others_337 rfl rfl ?_
      refine n_iload_n hC dX12_others_338 rfl rfl ?_
      refine n_iload hC dX12_others_339 rfl ?_
      refine n_aload_n hC dX12_others_341 rfl rfl ?_
      refine n_iload_n hC dX12_others_342 rfl rfl ?_
      refine n_iconst (v := 1) hC dX12_others_343 (by decide) ?_
      refine n_callV hC (x_t1 (d + 5) q _ M _ hM hq hst) (Nat.le_refl _) (by decide) (by first | exact rfl | with_reducible assumption) rfl rfl rfl ⟨wmX12_339, wi_yX12_top, wv_yX12_top, wzX12, wc_yX12_top⟩ hy_yX12_top rfl (Nat.le_of_ble_eq_true rfl) dX12_others_344 (fun rv σ' hpo => ?_)
      obtain ⟨rfl, hσ⟩ := hpo
      rw [hσ]
      refine n_callV hC (x_deliver (d + 3) (nI q) a x _ M _ hM hI) (Nat.le_refl _) (by decide) (by first | exact rfl | with_reducible assumption) rfl rfl rfl ⟨wmX12_380, wi_yX12_deliver, wv_yX12_deliver, wzX12, wc_yX12_deliver⟩ hy_yX12_deliver rfl (Nat.le_of_ble_eq_true rfl) dX12_others_347 (fun rv σ' hpo => ?_)
      rcases hpo with ⟨hno, rfl, hσ⟩ | ⟨r, hr, rfl, hal, ⟨h8, rfl, hσ⟩ | ⟨h8, rfl, g⟩⟩
      · rw [hσ]
        refine n_callV hC (x_result (d + 4) q 2 n0 (-1) _ M _ t2 ([x] ++ [a]) hM hq hn hst2 rfl (by omega)) (Nat.le_refl _) (by decide) (by first | exact rfl | with_reducible assumption) rfl rfl rfl ⟨wmX12_345, wi_yX12_result, wv_yX12_result, wzX12, wc_yX12_result⟩ hy_yX12_result rfl (Nat.le_of_ble_eq_true rfl) dX12_others_350 (fun rv σ' hpo => ?_)
        obtain ⟨rfl, g⟩ := hpo
        refine n_goto (tgt := 456) hC dX12_others_353 (by decide) ?_
        refine n_vret hC dX12_others_456 ?_
        exact ⟨rfl, XA.stk hmv hS h1 g (m_nw_t (by omega)) hl40 (Or.inr (Or.inr (Or.inr (Or.inr (Or.inr (Or.inr (Or.inr (Or.inr (Or.inr (Or.inr (Or.inr (Or.inr (Or.inl (⟨rfl, rfl, t2, x, a, hst, Or.inl ⟨hno, rfl⟩⟩))))))))))))))⟩
      · rw [hσ]
        refine n_callV hC (x_result (d + 4) q 2 n0 (-2) _ M _ t2 ([x] ++ [nI r]) hM hq hn hst2 rfl (by omega)) (Nat.le_refl _) (by decide) (by first | exact rfl | with_reducible assumption) rfl rfl rfl ⟨wmX12_345, wi_yX12_result, wv_yX12_result, wzX12, wc_yX12_result⟩ hy_yX12_result rfl (Nat.le_of_ble_eq_true rfl) dX12_others_350 (fun rv σ' hpo => ?_)
        obtain ⟨rfl, g⟩ := hpo
        refine n_goto (tgt := 456) hC dX12_others_353 (by decide) ?_
        refine n_vret hC dX12_others_456 ?_
        exact ⟨rfl, XA.stk hmv hS h1 g (m_nw_t (by omega)) hl40 (Or.inr (Or.inr (Or.inr (Or.inr (Or.inr (Or.inr (Or.inr (Or.inr (Or.inr (Or.inr (Or.inr (Or.inr (Or.inl (⟨rfl, rfl, t2, x, nI r, hst, Or.inr ⟨r, hr, rfl, hal, Or.inl ⟨h8, rfl⟩⟩⟩))))))))))))))⟩
      · refine n_callV hC (x_result (d + 4) q 2 n0 0 _ (m_del M r x (nI q)) _ t2 ([x] ++ [nI r]) g hq ((m_del_o (by omega)).trans hn) (m_del_l0.trans hst2) rfl (by omega)) (Nat.le_refl _) (by decide) (by first | exact rfl | with_reducible assumption) rfl rfl rfl ⟨wmX12_345, wi_yX12_result, wv_yX12_result, wzX12, wc_yX12_result⟩ hy_yX12_result rfl (Nat.le_of_ble_eq_true rfl) dX12_others_350 (fun rv σ' hpo => ?_)
        obtain ⟨rfl, g⟩ := hpo
        refine n_goto (tgt := 456) hC dX12_others_353 (by decide) ?_
        refine n_vret hC dX12_others_456 ?_
        have ee : m_l (m_del (m_l (m_s M 5 q (nI (n0 + 1))) 0 q t2) r x (nI q)) 0 q (t2 ++ [0]) = m_l (m_s (m_del M r x (nI q)) 5 q (nI (n0 + 1))) 0 q (t2 ++ [0]) := by
          rw [m_del_lc (by omega), m_del_sc (by omega), ml_ml]
        rw [← ee] at g
        refine ⟨rfl, XA.done hmv (hS.of g (fun i _ => ?_)) ?_ (m_nw_t (by omega)) hl40 (Or.inr (Or.inr (Or.inr (Or.inr (Or.inr (Or.inr (Or.inr (Or.inr (Or.inr (Or.inr (Or.inr (Or.inr (Or.inl (⟨rfl, rfl, t2, x, nI r, hst, Or.inr ⟨r, hr, rfl, hal, Or.inr ⟨h8, rfl⟩⟩⟩))))))))))))))⟩
        · unfold m_dn
          rw [ms_n (by omega), m_l_s, m_del_o (by omega), m_l_s, ms_n (by omega)]
        · rw [m_l_s]
          exact m_del_st h1
    · obtain rfl : o = 27 := ho
      refine n_tableIn (off := 334) (tgt := 356) hC dX12_others_22 (by decide) (by decide) (by decide) (by decide) ?_
      refine n_aload_n hC dX12_others_356 rfl rfl ?_
      refine n_iload_n hC dX12_others_357 rfl rfl ?_
      refine n_callV hC (x_receive (d + 1) q n0 n τ0 M _ hmv hS hI hq h1 hn) (Nat.le_refl _) (by decide) (by first | exact rfl | with_reducible assumption) rfl rfl rfl ⟨wmX12_383, wi_yX12_receive, wv_yX12_receive, wzX12, wc_yX12_receive⟩ hy_yX12_receive rfl (Nat.le_of_ble_eq_true rfl) dX12_others_358 (fun rv σ' hpo => ?_)
      obtain ⟨rfl, g⟩ := hpo
      refine n_goto (tgt := 456) hC dX12_others_361 (by decide) ?_
      refine n_vret hC dX12_others_456 ?_
      exact ⟨rfl, g⟩
    · obtain rfl : o = 36 := ho
      refine n_tableIn (off := 426) (tgt := 448) hC dX12_others_22 (by decide) (by decide) (by decide) (by decide) ?_
      exact dflt (by omega) (fun _ _ => by decide)
    · obtain rfl : o = 37 := ho
      refine n_tableIn (off := 426) (tgt := 448) hC dX12_others_22 (by decide) (by decide) (by decide) (by decide) ?_
      exact dflt (by omega) (fun z _ => absurd rfl z)
    · obtain rfl : o = 42 := ho
      refine n_tableIn (off := 303) (tgt := 325) hC dX12_others_22 (by decide) (by decide) (by decide) (by decide) ?_
      refine n_aload_n hC dX12_others_325 rfl rfl ?_
      refine n_iload_n hC dX12_others_326 rfl rfl ?_
      refine n_iload_n hC dX12_others_327 rfl rfl ?_
      refine n_callV hC (x_spawn (d + 1) q n0 i0 n τ0 M _ hmv hS hI hq h1 hn hi0 h4 hu) (Nat.le_refl _) (by decide) (by first | exact rfl | with_reducible assumption) rfl rfl rfl ⟨wmX12_377, wi_yX12_spawn, wv_yX12_spawn, wzX12, wc_yX12_spawn⟩ hy_yX12_spawn rfl (Nat.le_of_ble_eq_true rfl) dX12_others_328 (fun rv σ' hpo => ?_)
      obtain ⟨rfl, g⟩ := hpo
      refine n_goto (tgt := 456) hC dX12_others_331 (by decide) ?_
      refine n_vret hC dX12_others_456 ?_
      exact ⟨rfl, g⟩
    · obtain rfl : o = 28 := ho
      refine n_tableIn (off := 342) (tgt := 364) hC dX12_others_22 (by decide) (by decide) (by decide) (by decide) ?_
      refine n_aload_n hC dX12_others_364 rfl rfl ?_
      refine n_iload_n hC dX12_others_365 rfl rfl ?_
      refine n_callV hC (x_await (d + 1) q n0 i0 n τ0 M _ hmv hS hI hq h1 hn hi0 h4 hn0 hne) (Nat.le_refl _) (by decide) (by first | exact rfl | with_reducible assumption) rfl rfl rfl ⟨wmX12_386, wi_yX12_await, wv_yX12_await, wzX12, wc_yX12_await⟩ hy_yX12_await rfl (Nat.le_of_ble_eq_true rfl) dX12_others_366 (fun rv σ' hpo => ?_)
      obtain ⟨rfl, g⟩ := hpo
      refine n_goto (tgt := 456) hC dX12_others_369 (by decide) ?_
      refine n_vret hC dX12_others_456 ?_
      exact ⟨rfl, g⟩
    · obtain rfl : o = 29 := ho
      obtain ⟨t, hst⟩ := hst (by decide)
      have hlen : (M.2 0 q).length = t.length + 1 := by rw [hst, len1]
      have fail : (¬ ∃ r, m_kid M q a r ∧ m_al M r) → n_W p l e s m [Value.ref (ad 0 0), Value.int (nI q), Value.int 29, Value.int n].toArray below meth c (rw D ca ad Ex) (d + 6) (fun rv τ' => rv = none ∧ XA τ0 M q 36 n0 n τ') 395 [some (.ref (ad 0 0)), some (.int (nI q)), some (.int 29), some (.int n), some (.int a), none] [] τ := by
        intro hno
        refine n_iconst (v := 0) hC dX12_others_395 (by decide) ?_
        refine n_istore hC dX12_others_396 (Nat.le_of_ble_eq_true rfl) ?_
        refine n_iload hC dX12_others_398 rfl ?_
        refine n_if_eq (tgt := 410) hC dX12_others_400 (by decide) (fun h => ?_) (fun h => ?_)
        · clear h
          refine n_aload_n hC dX12_others_410 rfl rfl ?_
          refine n_iload_n hC dX12_others_411 rfl rfl ?_
          refine n_iconst (v := 1) hC dX12_others_412 (by decide) ?_
          refine n_iload hC dX12_others_413 rfl ?_
          refine n_if_eq (tgt := 422) hC dX12_others_415 (by decide) (fun h => ?_) (fun h => ?_)
          · clear h
            refine n_iconst (v := -1) hC dX12_others_422 (by decide) ?_
            refine n_callV hC (x_result (d + 4) q 1 n0 (-1) _ M _ t [a] hM hq hn hst rfl (by omega)) (Nat.le_refl _) (by decide) (by first | exact rfl | with_reducible assumption) rfl rfl rfl ⟨wmX12_345, wi_yX12_result, wv_yX12_result, wzX12, wc_yX12_result⟩ hy_yX12_result rfl (Nat.le_of_ble_eq_true rfl) dX12_others_423 (fun rv σ' hpo => ?_)
            obtain ⟨rfl, g⟩ := hpo
            refine n_goto (tgt := 456) hC dX12_others_426 (by decide) ?_
            refine n_vret hC dX12_others_456 ?_
            exact ⟨rfl, XA.stk hmv hS h1 g (m_nw_t (by omega)) hl40 (Or.inr (Or.inr (Or.inr (Or.inr (Or.inr (Or.inr (Or.inr (Or.inr (Or.inr (Or.inr (Or.inr (Or.inr (Or.inr (Or.inr (Or.inr (Or.inr (Or.inr (Or.inr (Or.inl (⟨rfl, rfl, t, a, hst, Or.inr ⟨hno, rfl⟩⟩))))))))))))))))))))⟩
          · exact absurd rfl h
        · exact absurd rfl h
      refine n_tableIn (off := 350) (tgt := 372) hC dX12_others_22 (by decide) (by decide) (by decide) (by decide) ?_
      refine n_aload_n hC dX12_others_372 rfl rfl ?_
      refine n_iload_n hC dX12_others_373 rfl rfl ?_
      refine n_iload hC dX12_others_374 rfl ?_
      refine n_callV hC (x_isChild (d + 4) q a _ M _ hM hI hq) (Nat.le_refl _) (by decide) (by first | exact rfl | with_reducible assumption) rfl rfl rfl ⟨wmX12_370, wi_yX12_isChild, wv_yX12_isChild, wzX12, wc_yX12_isChild⟩ hy_yX12_isChild rfl (Nat.le_of_ble_eq_true rfl) dX12_others_376 (fun rv σ' hpo => ?_)
      obtain ⟨hpo, hσ⟩ := hpo
      rw [hσ]
      rcases hpo with ⟨r, hkid, rfl⟩ | ⟨hno, rfl⟩
      · refine n_if_eq (tgt := 395) hC dX12_others_379 (by decide) (fun h => ?_) (fun h => ?_)
        · exact absurd h (by decide)
        · clear h
          refine n_aload_n hC dX12_others_382 rfl rfl ?_
          refine n_iload hC dX12_others_383 rfl ?_
          refine n_callV hC (x_isAlive (d + 4) a _ M _ hM) (Nat.le_refl _) (by decide) (by first | exact rfl | with_reducible assumption) rfl rfl rfl ⟨wmX12_364, wi_yX12_isAlive, wv_yX12_isAlive, wzX12, wc_yX12_isAlive⟩ hy_yX12_isAlive rfl (Nat.le_of_ble_eq_true rfl) dX12_others_385 (fun rv σ' hpo => ?_)
          obtain ⟨hpo, hσ⟩ := hpo
          rw [hσ]
          rcases hpo with ⟨r2, hr2, e2, hal, rfl⟩ | ⟨hno, rfl⟩
          · obtain ⟨hr, rfl, h3r⟩ := id hkid
            obtain rfl := nV_inj hr hr2 e2
            have hqr : q ≠ r := fun z => hI.pn hq (by rw [← z] at h3r; exact h3r)
            have h3q : M.1 3 q ≠ nI r := by
              rcases hI.2.2.2.1 r hr with z | ⟨r3, k1, k2, k3, k4, k5⟩
              · rw [z] at h3r
                exact absurd h3r.symm (nI_ne0 (by omega) (by omega))
              · rw [nV_inj hq k1 (h3r.symm.trans k3)]
                exact k5
            obtain ⟨f1, f2, -⟩ := m_fin_kid (v := -1) hI hr hq h1 h3r
            have iS : II (m_l (m_s M 5 q (nI (n0 + 1))) 0 q t) := II_stk iA hq ha _
            obtain ⟨f3, -, -⟩ := m_fin_kid (v := -1) iS hr hq h1 h3r
            refine n_if_eq (tgt := 395) hC dX12_others_388 (by decide) (fun h => ?_) (fun h => ?_)
            · exact absurd h (by decide)
            · clear h
              refine n_iconst (v := 1) hC dX12_others_391 (by decide) ?_
              refine n_goto (tgt := 396) hC dX12_others_392 (by decide) ?_
              refine n_istore hC dX12_others_396 (Nat.le_of_ble_eq_true rfl) ?_
              refine n_iload hC dX12_others_398 rfl ?_
              refine n_if_eq (tgt := 410) hC dX12_others_400 (by decide) (fun h => ?_) (fun h => ?_)
              · exact absurd h (by decide)
              · clear h
                refine n_aload_n hC dX12_others_403 rfl rfl ?_
                refine n_iload hC dX12_others_404 rfl ?_
                refine n_iconst (v := -1) hC dX12_others_406 (by decide) ?_
                refine n_callV hC (x_finish (d + 3) r (-1) τ0 M _ hS hI hr hal) (Nat.le_refl _) (by decide) (by first | exact rfl | with_reducible assumption) rfl rfl rfl ⟨wmX12_330, wi_yX12_finish, wv_yX12_finish, wzX12, wc_yX12_finish⟩ hy_yX12_finish rfl (Nat.le_of_ble_eq_true rfl) dX12_others_407 (fun rv σ' hpo => ?_)
                obtain ⟨rfl, gf⟩ := hpo
                refine n_aload_n hC dX12_others_410 rfl rfl ?_
                refine n_iload_n hC dX12_others_411 rfl rfl ?_
                refine n_iconst (v := 1) hC dX12_others_412 (by decide) ?_
                refine n_iload hC dX12_others_413 rfl ?_
                refine n_if_eq (tgt := 422) hC dX12_others_415 (by decide) (fun h => ?_) (fun h => ?_)
                · exact absurd h (by decide)
                · clear h
                  refine n_iconst (v := 0) hC dX12_others_418 (by decide) ?_
                  refine n_goto (tgt := 423) hC dX12_others_419 (by decide) ?_
                  refine n_callV hC (x_result (d + 4) q 1 n0 0 _ (m_fin M r (-1)) _ t [nI r] gf.q hq (by rw [f1, m_fin1_o (hI.pn hr) hqr h3q (by omega)]; exact hn) (by rw [f1, m_fin1_2 hqr h3q]; exact hst) rfl (by omega)) (Nat.le_refl _) (by decide) (by first | exact rfl | with_reducible assumption) rfl rfl rfl ⟨wmX12_345, wi_yX12_result, wv_yX12_result, wzX12, wc_yX12_result⟩ hy_yX12_result rfl (Nat.le_of_ble_eq_true rfl) dX12_others_423 (fun rv σ' hpo => ?_)
                  obtain ⟨rfl, g⟩ := hpo
                  refine n_goto (tgt := 456) hC dX12_others_426 (by decide) ?_
                  refine n_vret hC dX12_others_456 ?_
                  have ee : m_l (m_fin (m_l (m_s M 5 q (nI (n0 + 1))) 0 q t) r (-1)) 0 q (t ++ [0]) = m_l (m_s (m_fin M r (-1)) 5 q (nI (n0 + 1))) 0 q (t ++ [0]) := by
                    rw [f3, f1, m_fin1_l0 hqr (by rw [ms_n (by omega)]; exact h3q), m_fin1_s5 hqr h3q, ml_ml]
                  have gS := gf.of g (fun i _ => by unfold m_dn; rw [ms_n (by omega), m_l_s, ms_n (by omega)])
                  rw [← ee] at gS
                  refine ⟨rfl, XA.done hmv gS ?_ (m_nw_t (by omega)) hl40 (Or.inr (Or.inr (Or.inr (Or.inr (Or.inr (Or.inr (Or.inr (Or.inr (Or.inr (Or.inr (Or.inr (Or.inr (Or.inr (Or.inr (Or.inr (Or.inr (Or.inr (Or.inr (Or.inl (⟨rfl, rfl, t, nI r, hst, Or.inl ⟨r, hkid, hal, rfl⟩⟩))))))))))))))))))))⟩
                  rw [ee, m_l_s, ms_n (by omega)]
                  exact f2
          · refine n_if_eq (tgt := 395) hC dX12_others_388 (by decide) (fun h => ?_) (fun h => ?_)
            · exact fail (fun ⟨r', z1, z2⟩ => hno ⟨r', z1.1, z1.2.1, z2⟩)
            · exact absurd rfl h
      · refine n_if_eq (tgt := 395) hC dX12_others_379 (by decide) (fun h => ?_) (fun h => ?_)
        · exact fail (fun ⟨r', z1, z2⟩ => hno ⟨r', z1⟩)
        · exact absurd rfl h
    · obtain rfl : o = 30 := ho
      refine n_tableIn (off := 407) (tgt := 429) hC dX12_others_22 (by decide) (by decide) (by decide) (by decide) ?_
      refine n_aload_n hC dX12_others_429 rfl rfl ?_
      refine n_iload_n hC dX12_others_430 rfl rfl ?_
      refine n_iconst (v := 1) hC dX12_others_431 (by decide) ?_
      refine n_callV hC (x_fits (d + 2) q 1 τ0 M _ hS hI hq ha (by omega)) (Nat.le_refl _) (by decide) (by first | exact rfl | with_reducible assumption) rfl rfl rfl ⟨wmX12_342, wi_yX12_fits, wv_yX12_fits, wzX12, wc_yX12_fits⟩ hy_yX12_fits rfl (Nat.le_of_ble_eq_true rfl) dX12_others_432 (fun rv σ' hpo => ?_)
      rcases hpo with ⟨hle, rfl, hσ⟩ | ⟨hgt, rfl, g⟩
      · rw [hσ]
        refine n_if_eq (tgt := 456) hC dX12_others_435 (by decide) (fun h => ?_) (fun h => ?_)
        · exact absurd h (by decide)
        · clear h
          refine n_aload_n hC dX12_others_438 rfl rfl ?_
          refine n_iload_n hC dX12_others_439 rfl rfl ?_
          refine n_iconst (v := 0) hC dX12_others_440 (by decide) ?_
          refine n_iload_n hC dX12_others_441 rfl rfl ?_
          refine n_callV hC (x_result (d + 4) q 0 n0 (nI q) _ M _ (M.2 0 q) [] hM hq hn (List.append_nil _).symm rfl (by omega)) (Nat.le_refl _) (by decide) (by first | exact rfl | with_reducible assumption) rfl rfl rfl ⟨wmX12_345, wi_yX12_result, wv_yX12_result, wzX12, wc_yX12_result⟩ hy_yX12_result rfl (Nat.le_of_ble_eq_true rfl) dX12_others_442 (fun rv σ' hpo => ?_)
          obtain ⟨rfl, g⟩ := hpo
          refine n_goto (tgt := 456) hC dX12_others_445 (by decide) ?_
          refine n_vret hC dX12_others_456 ?_
          exact ⟨rfl, XA.stk hmv hS h1 g (m_nw_t (by omega)) hle (Or.inr (Or.inr (Or.inr (Or.inr (Or.inr (Or.inr (Or.inr (Or.inr (Or.inr (Or.inr (Or.inr (Or.inr (Or.inr (Or.inr (Or.inr (Or.inr (Or.inr (Or.inr (Or.inr (Or.inl (⟨rfl, rfl, rfl⟩)))))))))))))))))))))⟩
      · refine n_if_eq (tgt := 456) hC dX12_others_435 (by decide) (fun h => ?_) (fun h => ?_)
        · refine n_vret hC dX12_others_456 ?_
          exact ⟨rfl, XA.full hI hq ha g (m_nw_t (by omega)) hgt⟩
        · exact absurd rfl h
    · obtain rfl : o = 31 := ho
      refine n_tableIn (off := 426) (tgt := 448) hC dX12_others_22 (by decide) (by decide) (by decide) (by decide) ?_
      exact dflt (by omega) (fun _ _ => by decide)
    · obtain rfl : o = 32 := ho
      refine n_tableIn (off := 426) (tgt := 448) hC dX12_others_22 (by decide) (by decide) (by decide) (by decide) ?_
      exact dflt (by omega) (fun _ z => absurd rfl z)
    · obtain rfl : o = 33 := ho
      refine n_tableIn (off := 426) (tgt := 448) hC dX12_others_22 (by decide) (by decide) (by decide) (by decide) ?_
      exact dflt (by omega) (fun _ _ => by decide)
    · obtain rfl : o = 34 := ho
      refine n_tableIn (off := 426) (tgt := 448) hC dX12_others_22 (by decide) (by decide) (by decide) (by decide) ?_
      exact dflt (by omega) (fun _ _ => by decide)
    · obtain rfl : o = 35 := ho
      refine n_tableIn (off := 426) (tgt := 448) hC dX12_others_22 (by decide) (by decide) (by decide) (by decide) ?_
      exact dflt (by omega) (fun _ _ => by decide)
  refine n_aload_n hC dX12_others_0 rfl rfl ?_
  refine gm_needs hC wfX12_101 dX12_others_1 ?_
  refine n_iload_n hC dX12_others_4 rfl rfl ?_
  first | refine r_ld hC rfl (fun _ => rfl) (by decide) (by first | omega | with_reducible assumption) dX12_others_5 ?_ | refine r_needs hC (by first | exact vp_in_nI (by omega) (by decide) | with_reducible assumption) dX12_others_5 ?_
  rw [hnd]
  refine n_if_le (tgt := 18) hC dX12_others_6 (by decide) (fun h => ?_) (fun h => ?_)
  · refine n_iconst (v := 0) hC dX12_others_18 (by decide) ?_
    refine main 0 (fun z => ?_)
    have := (nI_leI (a := m_ne k) (b := 0) (by omega) (by omega)).mp h
    omega
  · have hpos : 1 ≤ m_ne k := by
      rcases Nat.eq_zero_or_pos (m_ne k) with z | z
      · rw [z] at h
        exact absurd (by decide) h
      · exact z
    obtain ⟨t, a, hst⟩ := m_last1 (Nat.le_trans hpos hne)
    refine n_aload_n hC dX12_others_9 rfl rfl ?_
    refine n_iload_n hC dX12_others_10 rfl rfl ?_
    refine n_iconst (v := 0) hC dX12_others_11 (by decide) ?_
    refine n_callV hC (x_t0 (d + 5) q _ M _ hM hq hst) (Nat.le_refl _) (by decide) (by first | exact rfl | with_reducible assumption) rfl rfl rfl ⟨wmX12_339, wi_yX12_top, wv_yX12_top, wzX12, wc_yX12_top⟩ hy_yX12_top rfl (Nat.le_of_ble_eq_true rfl) dX12_others_12 (fun rv σ' hpo => ?_)
    obtain ⟨rfl, hσ⟩ := hpo
    rw [hσ]
    refine n_goto (tgt := 19) hC dX12_others_15 (by decide) ?_
    exact main a (fun _ => ⟨t, hst⟩)
end ROT
