/-! the law's cases -/
abbrev l_LS (b z0 i : Nat) : List (Option Value) := [some (.ref b), some (.ref z0), some (.ref (z0 + 187)), some (.ref (z0 + 228)), some (.int (nI i)), none, none]
theorem l_fg {b z0 i : Nat} {x5 x6 : Option Value} : (l_LS b z0 i).length = ([some (.ref b), some (.ref z0), some (.ref (z0 + 187)), some (.ref (z0 + 228)), some (.int (nI i)), x5, x6] : List (Option Value)).length ∧ ∀ (j : Nat) (v : Value), (l_LS b z0 i)[j]? = some (some v) → ([some (.ref b), some (.ref z0), some (.ref (z0 + 187)), some (.ref (z0 + 228)), some (.int (nI i)), x5, x6] : List (Option Value))[j]? = some (some v) := by
  refine ⟨rfl, fun j v h => ?_⟩
  match j, h with
  | 0, h => exact h
  | 1, h => exact h
  | 2, h => exact h
  | 3, h => exact h
  | 4, h => exact h
  | 5, h => cases h
  | 6, h => cases h
  | j + 7, h => exact absurd h (by simp)
section LC
variable {p : Program} {l : Launch} {e : Env} {s : State} {m : MethodId} {b : Nat} {below : List Frame} {meth : Method} {c : Code} {D : va_G} {ca : Nat → ClassId} {ae sk sv : Nat → Nat} {ts ta sf : Nat} {Ex : State → Heap → Prop} {z0 L : Nat} {xs : Nat → Int32}
variable {σ τ : n_S} {v : Int64} {n k : Nat}
def l_K (p : Program) (l : Launch) (e : Env) (s : State) (m : MethodId) (b : Nat) (below : List Frame) (meth : Method) (c : Code) (D : va_G) (ca : Nat → ClassId) (ae : Nat → Nat) (Ex : State → Heap → Prop) (z0 i ck n k : Nat) : Prop :=
  ∀ (M' : n_M) (σ' τ' : n_S) (v' : Int64) (ck' n' k' : Nat), LI M' ck' → RepC M' σ' → RepR M' τ' → ck' ≤ ck + 5000 → n' ≤ n + 1 → k' ≤ k + 6 → l_W p l e s m b below meth c D ca ae Ex z0 1343 (l_LS b z0 i) [] (σ', τ', v', n', k')
theorem lc_feed (hL : l_C p s m b meth c D ca ae Ex z0 L xs) (hl : l.stackTraces = false) (hT : ∀ U H, Ex U H → xT (cw_A (c_ad z0)) U H) (hXc : ∀ U H, Ex U H → cE (c_ad z0) ae ts U H) (hS : ∀ U H, Ex U H → sX (c_ad z0) ae sk sv ta sf U H) {i ck : Nat} (hi : i + 5 < L) {M : n_M} (hI : LI M ck) (hM : RepC M σ) (hR : RepR M τ) (hck : ck + 5000 < 2147483646) (hnk : n + 1 ≤ 601024 ∧ k + 6 ≤ 7293034) (K : l_K p l e s m b below meth c D ca ae Ex z0 i ck n k) : l_W p l e s m b below meth c D ca ae Ex z0 136 (l_LS b z0 i) [] (σ, τ, v, n, k) := by
  refine jg_aload_n hL.1 dW_136 rfl rfl ?_
  refine l_arg (i := i) (j := 1) hL rfl rfl (by omega) rfl dW_137 dW_138 dW_140 dW_141 dW_142 ?_
  refine l_arg (i := i) (j := 2) hL rfl rfl (by omega) rfl dW_143 dW_144 dW_146 dW_147 dW_148 ?_
  refine l_arg (i := i) (j := 3) hL rfl rfl (by omega) rfl dW_149 dW_150 dW_152 dW_153 dW_154 ?_
  refine l_arg (i := i) (j := 4) hL rfl rfl (by omega) rfl dW_155 dW_156 dW_158 dW_159 dW_160 ?_
  refine l_arg (i := i) (j := 5) hL rfl rfl (by omega) rfl dW_161 dW_162 dW_164 dW_165 dW_166 ?_
  refine jg_aload_n hL.1 dW_167 rfl rfl ?_
  refine l_callH (np := 7) (As := [.ref z0, .int (xs (i + 1)), .int (xs (i + 2)), .int (xs (i + 3)), .int (xs (i + 4)), .int (xs (i + 5)), .ref (z0 + 228)]) hL (hl_feed hl hT hL.2.2.1 (xs (i + 1)) (xs (i + 2)) (xs (i + 3)) (xs (i + 4)) (xs (i + 5)) M σ v hM) (by decide) ⟨wmL_82, ws_yL_feed, wzL, wcw_feed⟩ hy_yL_feed rfl (Nat.le_of_ble_eq_true rfl) hnk dW_168 (fun r σ' v' hpo => ?_)
  obtain ⟨hr, hv, hC2⟩ := hpo
  refine jg_istore hL.1 dW_171 (Nat.le_of_ble_eq_true rfl) ?_
  refine jg_aload_n hL.1 dW_173 rfl rfl ?_
  refine l_arg (i := i) (j := 1) hL rfl rfl (by omega) rfl dW_174 dW_175 dW_177 dW_178 dW_179 ?_
  refine l_arg (i := i) (j := 2) hL rfl rfl (by omega) rfl dW_180 dW_181 dW_183 dW_184 dW_185 ?_
  refine l_arg (i := i) (j := 3) hL rfl rfl (by omega) rfl dW_186 dW_187 dW_189 dW_190 dW_191 ?_
  refine l_arg (i := i) (j := 4) hL rfl rfl (by omega) rfl dW_192 dW_193 dW_195 dW_196 dW_197 ?_
  refine l_arg (i := i) (j := 5) hL rfl rfl (by omega) rfl dW_198 dW_199 dW_201 dW_202 dW_203 ?_
  refine l_callR (np := 5) (As := [.int (xs (i + 1)), .int (xs (i + 2)), .int (xs (i + 3)), .int (xs (i + 4)), .int (xs (i + 5))]) hL (x_feed 0 (xs (i + 1)) (xs (i + 2)) (xs (i + 3)) (xs (i + 4)) (xs (i + 5)) M τ hR) (by decide) (by decide) rfl ⟨wmL_87, wi_yX12_feed, wv_yX12_feed, wzX12, wc_yX12_feed⟩ hy_yX12_feed rfl (Nat.le_of_ble_eq_true rfl) hnk dW_204 (fun rv2 τ2 hp2 => ?_)
  obtain ⟨rfl, ht, hR2⟩ := hp2
  refine jg_istore hL.1 dW_207 (Nat.le_of_ble_eq_true rfl) ?_
  refine jg_aload_n hL.1 dW_209 rfl rfl ?_
  refine l_callR (np := 0) (As := []) hL (x_thrown 0 _) (by decide) (by decide) rfl ⟨wmL_88, wi_yX12_thrown, wv_yX12_thrown, wzX12, wc_yX12_thrown⟩ hy_yX12_thrown rfl (Nat.le_of_ble_eq_true rfl) hnk dW_210 (fun rv3 τ3 hp3 => ?_)
  obtain ⟨rfl, rfl⟩ := hp3
  refine jg_iload hL.1 dW_213 rfl ?_
  refine jg_icmp_eq (tgt := 220) hL.1 dW_215 (by decide) (fun h => ?_) (fun h => absurd (ht.trans hr.symm) h)
  refine jg_iload hL.1 dW_220 rfl ?_
  refine jg_if_ne (tgt := 237) hL.1 dW_222 (by decide) (fun h0 => ?_) (fun h0 => ?_)
  · refine jg_goto (tgt := 1343) hL.1 dW_237 (by decide) ?_
    exact jg_ls l_fg (K (u_feed M (xs (i + 1)) (xs (i + 2)) (xs (i + 3)) (xs (i + 4)) (xs (i + 5))).2.2 σ' _ v' ck (n + 1) (k + 6) (LI_feed hI (xs (i + 1)) (xs (i + 2)) (xs (i + 3)) (xs (i + 4)) (xs (i + 5))) hC2 hR2 (by omega) (Nat.le_refl _) (Nat.le_refl _))
  refine jg_aload_n hL.1 dW_225 rfl rfl ?_
  refine jg_iconst (v := 0) hL.1 dW_226 (by decide) ?_
  refine l_laload hL dW_227 ?_
  refine jg_iload hL.1 dW_228 rfl ?_
  refine jg_i2l hL.1 dW_230 rfl ?_
  refine jg_lcmp hL.1 dW_231 ?_
  refine jg_if_eq (tgt := 237) hL.1 dW_232 (by decide) (fun h2 => ?_) (fun h2 => absurd (by rw [hv (hr.symm.trans h0)]; exact lg_cmp_rf _) h2)
  refine jg_goto (tgt := 1343) hL.1 dW_237 (by decide) ?_
  exact jg_ls l_fg (K (u_feed M (xs (i + 1)) (xs (i + 2)) (xs (i + 3)) (xs (i + 4)) (xs (i + 5))).2.2 σ' _ v' ck (n + 1) (k + 6) (LI_feed hI (xs (i + 1)) (xs (i + 2)) (xs (i + 3)) (xs (i + 4)) (xs (i + 5))) hC2 hR2 (by omega) (Nat.le_refl _) (Nat.le_refl _))
theorem lc_end (hL : l_C p s m b meth c D ca ae Ex z0 L xs) (hl : l.stackTraces = false) (hT : ∀ U H, Ex U H → xT (cw_A (c_ad z0)) U H) (hXc : ∀ U H, Ex U H → cE (c_ad z0) ae ts U H) (hS : ∀ U H, Ex U H → sX (c_ad z0) ae sk sv ta sf U H) {i ck : Nat} (hi : i + 5 < L) {M : n_M} (hI : LI M ck) (hM : RepC M σ) (hR : RepR M τ) (hck : ck + 5000 < 2147483646) (hnk : n + 1 ≤ 601024 ∧ k + 6 ≤ 7293034) (K : l_K p l e s m b below meth c D ca ae Ex z0 i ck n k) : l_W p l e s m b below meth c D ca ae Ex z0 240 (l_LS b z0 i) [] (σ, τ, v, n, k) := by
  refine jg_aload_n hL.1 dW_240 rfl rfl ?_
  refine l_arg (i := i) (j := 1) hL rfl rfl (by omega) rfl dW_241 dW_242 dW_244 dW_245 dW_246 ?_
  refine l_callH (np := 2) (As := [.ref z0, .int (xs (i + 1))]) hL (hl_end hl hT hL.2.2.1 (xs (i + 1)) M σ v hM) (by decide) ⟨wmL_92, ws_yL_end, wzL, wcw_end⟩ hy_yL_end rfl (Nat.le_of_ble_eq_true rfl) hnk dW_247 (fun r σ' v' hpo => ?_)
  obtain ⟨hr, hC2⟩ := hpo
  refine jg_istore hL.1 dW_250 (Nat.le_of_ble_eq_true rfl) ?_
  refine jg_aload_n hL.1 dW_252 rfl rfl ?_
  refine l_arg (i := i) (j := 1) hL rfl rfl (by omega) rfl dW_253 dW_254 dW_256 dW_257 dW_258 ?_
  refine l_callR (np := 1) (As := [.int (xs (i + 1))]) hL (x_end 0 (xs (i + 1)) M τ hR) (by decide) (by decide) rfl ⟨wmL_95, wi_yX12_end, wv_yX12_end, wzX12, wc_yX12_end⟩ hy_yX12_end rfl (Nat.le_of_ble_eq_true rfl) hnk dW_259 (fun rv2 τ2 hp2 => ?_)
  obtain ⟨rfl, ht, hR2⟩ := hp2
  refine jg_aload_n hL.1 dW_262 rfl rfl ?_
  refine l_callR (np := 0) (As := []) hL (x_thrown 0 _) (by decide) (by decide) rfl ⟨wmL_88, wi_yX12_thrown, wv_yX12_thrown, wzX12, wc_yX12_thrown⟩ hy_yX12_thrown rfl (Nat.le_of_ble_eq_true rfl) hnk dW_263 (fun rv3 τ3 hp3 => ?_)
  obtain ⟨rfl, rfl⟩ := hp3
  refine jg_iload hL.1 dW_266 rfl ?_
  refine jg_icmp_eq (tgt := 273) hL.1 dW_268 (by decide) (fun h => ?_) (fun h => absurd (ht.trans hr.symm) h)
  refine jg_goto (tgt := 1343) hL.1 dW_273 (by decide) ?_
  exact jg_ls l_fg (K (u_end M (xs (i + 1))).2 σ' _ v' ck (n + 1) (k + 6) (LI_end hI (xs (i + 1))) hC2 hR2 (by omega) (Nat.le_refl _) (Nat.le_refl _))
theorem lc_load (hL : l_C p s m b meth c D ca ae Ex z0 L xs) (hl : l.stackTraces = false) (hT : ∀ U H, Ex U H → xT (cw_A (c_ad z0)) U H) (hXc : ∀ U H, Ex U H → cE (c_ad z0) ae ts U H) (hS : ∀ U H, Ex U H → sX (c_ad z0) ae sk sv ta sf U H) {i ck : Nat} (hi : i + 5 < L) {M : n_M} (hI : LI M ck) (hM : RepC M σ) (hR : RepR M τ) (hck : ck + 5000 < 2147483646) (hnk : n + 1 ≤ 601024 ∧ k + 6 ≤ 7293034) (K : l_K p l e s m b below meth c D ca ae Ex z0 i ck n k) : l_W p l e s m b below meth c D ca ae Ex z0 276 (l_LS b z0 i) [] (σ, τ, v, n, k) := by
  refine jg_aload_n hL.1 dW_276 rfl rfl ?_
  refine l_arg (i := i) (j := 1) hL rfl rfl (by omega) rfl dW_277 dW_278 dW_280 dW_281 dW_282 ?_
  refine jg_aload_n hL.1 dW_283 rfl rfl ?_
  refine l_callH (np := 3) (As := [.ref z0, .int (xs (i + 1)), .ref (z0 + 228)]) hL (hl_load hl hT hL.2.2.1 (xs (i + 1)) M σ v hM hXc hS hI.1 hI.2.2.1) (by decide) ⟨wmL_96, ws_yL_load, wzL, wcw_load⟩ hy_yL_load rfl (Nat.le_of_ble_eq_true rfl) hnk dW_284 (fun r σ' v' hpo => ?_)
  refine jg_istore hL.1 dW_287 (Nat.le_of_ble_eq_true rfl) ?_
  refine jg_aload_n hL.1 dW_289 rfl rfl ?_
  refine l_arg (i := i) (j := 1) hL rfl rfl (by omega) rfl dW_290 dW_291 dW_293 dW_294 dW_295 ?_
  refine l_callR (np := 1) (As := [.int (xs (i + 1))]) hL (x_load 0 (xs (i + 1)) M τ hR hI.1) (by decide) (by decide) rfl ⟨wmL_99, wi_yX12_load, wv_yX12_load, wzX12, wc_yX12_load⟩ hy_yX12_load rfl (Nat.le_of_ble_eq_true rfl) hnk dW_296 (fun rv2 τ2 hp2 => ?_)
  have key : ∃ (w : Int32) (M1 : n_M), rv2 = some (.int w) ∧ τ2 0 0 2 = r ∧ (r = 0 → v' = w.toInt64) ∧ RepC M1 σ' ∧ RepR M1 τ2 ∧ LI M1 ck := by
    rcases hpo with ⟨rfl, w, q1, hx, r1, i1, hf1, hs1, q2⟩ | ⟨rfl, q1, q2⟩ | ⟨rfl, q1, q2, q3⟩
    · rcases hp2 with ⟨g1, -⟩ | ⟨-, g1, -⟩ | ⟨-, r2, i2, hf2, hs2, ht, g2⟩
      · exact absurd hx g1
      · exact absurd hf1.2.1 (g1 r1 hf1.1.1 hf1.1.2)
      · have hrr := m_lfree_un hf1 hf2
        subst hrr
        have hii := m_sp_un hs1 hs2
        subst hii
        rcases q2 with ⟨f, a1, a2, go, gn, a3, a4, a5⟩ | ⟨o1, n1, a1, a2, a3⟩
        · rcases g2 with ⟨f2, b1, b2, b3⟩ | ⟨o2, n2, b1, -⟩
          · have hff : f = f2 := Sum.inl.inj (a1.symm.trans b1)
            subst hff
            have hw : w = -1 - nI f.2 := by injection a2 with a2; injection a2
            exact ⟨w, _, by rw [hw]; exact b2, ht, fun _ => q1, a5, b3 go gn a3 a4, LI_ld hI hs1 go gn _⟩
          · exact absurd (a1.symm.trans b1) (by intro z; cases z)
        · rcases g2 with ⟨f2, b1, -⟩ | ⟨o2, n2, b1, b2, b3⟩
          · exact absurd (a1.symm.trans b1) (by intro z; cases z)
          · have hoo : (o1, n1) = (o2, n2) := Sum.inr.inj (a1.symm.trans b1)
            cases hoo
            have hw : w = nI r1 := by injection a2 with a2; injection a2
            exact ⟨w, _, by rw [hw]; exact b2, ht, fun _ => q1, a3, b3, LI_load hI hf1 hs1 a1 hx⟩
    · rcases hp2 with ⟨-, g1, g2, g3⟩ | ⟨g1, -⟩ | ⟨g1, -⟩
      · exact ⟨0, M, g1, g2, fun z => absurd z (by decide), q2, g3, hI⟩
      · exact absurd g1 q1
      · exact absurd g1 q1
    · rcases hp2 with ⟨g1, -⟩ | ⟨-, -, g1, g2, g3⟩ | ⟨-, r2, i2, hf2, -⟩
      · exact absurd q1 g1
      · exact ⟨0, M, g1, g2, fun z => absurd z (by decide), q3, g3, hI⟩
      · exact absurd hf2.2.1 (q2 r2 hf2.1.1 hf2.1.2)
  obtain ⟨w, M1, rfl, ht, hv, hC2, hR2, hI2⟩ := key
  refine jg_istore hL.1 dW_299 (Nat.le_of_ble_eq_true rfl) ?_
  refine jg_aload_n hL.1 dW_301 rfl rfl ?_
  refine l_callR (np := 0) (As := []) hL (x_thrown 0 _) (by decide) (by decide) rfl ⟨wmL_88, wi_yX12_thrown, wv_yX12_thrown, wzX12, wc_yX12_thrown⟩ hy_yX12_thrown rfl (Nat.le_of_ble_eq_true rfl) hnk dW_302 (fun rv3 τ3 hp3 => ?_)
  obtain ⟨rfl, rfl⟩ := hp3
  refine jg_iload hL.1 dW_305 rfl ?_
  refine jg_icmp_eq (tgt := 312) hL.1 dW_307 (by decide) (fun h => ?_) (fun h => absurd (ht.trans (rfl : r = r).symm) h)
  refine jg_iload hL.1 dW_312 rfl ?_
  refine jg_if_ne (tgt := 329) hL.1 dW_314 (by decide) (fun h0 => ?_) (fun h0 => ?_)
  · refine jg_goto (tgt := 1343) hL.1 dW_329 (by decide) ?_
    exact jg_ls l_fg (K M1 σ' _ v' ck (n + 1) (k + 6) hI2 hC2 hR2 (by omega) (Nat.le_refl _) (Nat.le_refl _))
  refine jg_aload_n hL.1 dW_317 rfl rfl ?_
  refine jg_iconst (v := 0) hL.1 dW_318 (by decide) ?_
  refine l_laload hL dW_319 ?_
  refine jg_iload hL.1 dW_320 rfl ?_
  refine jg_i2l hL.1 dW_322 rfl ?_
  refine jg_lcmp hL.1 dW_323 ?_
  refine jg_if_eq (tgt := 329) hL.1 dW_324 (by decide) (fun h2 => ?_) (fun h2 => absurd (by rw [hv h0]; exact lg_cmp_rf _) h2)
  refine jg_goto (tgt := 1343) hL.1 dW_329 (by decide) ?_
  exact jg_ls l_fg (K M1 σ' _ v' ck (n + 1) (k + 6) hI2 hC2 hR2 (by omega) (Nat.le_refl _) (Nat.le_refl _))
theorem lc_fault (hL : l_C p s m b meth c D ca ae Ex z0 L xs) (hl : l.stackTraces = false) (hT : ∀ U H, Ex U H → xT (cw_A (c_ad z0)) U H) (hXc : ∀ U H, Ex U H → cE (c_ad z0) ae ts U H) (hS : ∀ U H, Ex U H → sX (c_ad z0) ae sk sv ta sf U H) {i ck : Nat} (hi : i + 5 < L) {M : n_M} (hI : LI M ck) (hM : RepC M σ) (hR : RepR M τ) (hck : ck + 5000 < 2147483646) (hnk : n + 1 ≤ 601024 ∧ k + 6 ≤ 7293034) (K : l_K p l e s m b below meth c D ca ae Ex z0 i ck n k) : l_W p l e s m b below meth c D ca ae Ex z0 332 (l_LS b z0 i) [] (σ, τ, v, n, k) := by
  refine jg_aload_n hL.1 dW_332 rfl rfl ?_
  refine l_callC (np := 0) (As := []) hL (cp_fault 0 M σ hM) (by decide) (by decide) rfl ⟨wmL_100, wi_yX11_fault, wv_yX11_fault, wzX11, wc_yX11_fault⟩ hy_yX11_fault rfl (Nat.le_of_ble_eq_true rfl) ⟨by omega, by omega⟩ dW_333 (fun rv σ' hpo => ?_)
  obtain ⟨rfl, rfl⟩ := hpo
  refine jg_aload_n hL.1 dW_336 rfl rfl ?_
  refine l_callR (np := 0) (As := []) hL (x_fault 0 M τ hR) (by decide) (by decide) rfl ⟨wmL_103, wi_yX12_fault, wv_yX12_fault, wzX12, wc_yX12_fault⟩ hy_yX12_fault rfl (Nat.le_of_ble_eq_true rfl) ⟨by omega, by omega⟩ dW_337 (fun rv2 τ2 hp2 => ?_)
  obtain ⟨rfl, -, hR2⟩ := hp2
  refine jg_icmp_eq (tgt := 1343) hL.1 dW_340 (by decide) (fun h => ?_) (fun h => absurd rfl h)
  exact K M _ τ2 v ck n k hI hM hR2 (by omega) (by omega) (by omega)
theorem lc_tick (hL : l_C p s m b meth c D ca ae Ex z0 L xs) (hl : l.stackTraces = false) (hT : ∀ U H, Ex U H → xT (cw_A (c_ad z0)) U H) (hXc : ∀ U H, Ex U H → cE (c_ad z0) ae ts U H) (hS : ∀ U H, Ex U H → sX (c_ad z0) ae sk sv ta sf U H) {i ck : Nat} (hi : i + 5 < L) {M : n_M} (hI : LI M ck) (hM : RepC M σ) (hR : RepR M τ) (hck : ck + 5000 < 2147483646) (hnk : n + 1 ≤ 601024 ∧ k + 6 ≤ 7293034) (K : l_K p l e s m b below meth c D ca ae Ex z0 i ck n k) : l_W p l e s m b below meth c D ca ae Ex z0 345 (l_LS b z0 i) [] (σ, τ, v, n, k) := by
  refine jg_aload_n hL.1 dW_345 rfl rfl ?_
  have hclk : M.1 15 0 + 1 < 2147483647 := by rw [hI.2.2.2, nI_1]; exact (nI_ltI (a := ck + 1) (b := 2147483647) (by omega) (by decide)).mpr (by omega)
  refine l_callC (np := 0) (As := []) hL (cp_tick hXc 0 M σ hM hI.1 hclk) (by decide) (by decide) rfl ⟨wmL_104, wi_yX11_tick, wv_yX11_tick, wzX11, wc_yX11_tick⟩ hy_yX11_tick rfl (Nat.le_of_ble_eq_true rfl) ⟨by omega, by omega⟩ dW_346 (fun rv σ' hpo => ?_)
  obtain ⟨w1, M1, ht1, rfl, hC2⟩ := hpo
  refine jg_aload_n hL.1 dW_349 rfl rfl ?_
  refine l_callR (np := 0) (As := []) hL (x_tick 0 M τ hR hI.1 hI.2.1 hclk) (by decide) (by decide) rfl ⟨wmL_107, wi_yX12_tick, wv_yX12_tick, wzX12, wc_yX12_tick⟩ hy_yX12_tick rfl (Nat.le_of_ble_eq_true rfl) ⟨by omega, by omega⟩ dW_350 (fun rv2 τ2 hp2 => ?_)
  obtain ⟨w2, M2, ht2, rfl, -, hR2⟩ := hp2
  obtain ⟨rfl, rfl⟩ := m_tick_det hI.1 ht1 ht2
  refine jg_icmp_eq (tgt := 1343) hL.1 dW_353 (by decide) (fun h => ?_) (fun h => absurd rfl h)
  exact K M1 σ' τ2 v (ck + 1) n k (LI_tick hI (by omega) ht1) hC2 hR2 (by omega) (by omega) (by omega)
theorem lc_run (hL : l_C p s m b meth c D ca ae Ex z0 L xs) (hl : l.stackTraces = false) (hT : ∀ U H, Ex U H → xT (cw_A (c_ad z0)) U H) (hXc : ∀ U H, Ex U H → cE (c_ad z0) ae ts U H) (hS : ∀ U H, Ex U H → sX (c_ad z0) ae sk sv ta sf U H) {i ck : Nat} (hi : i + 5 < L) {M : n_M} (hI : LI M ck) (hM : RepC M σ) (hR : RepR M τ) (hck : ck + 5000 < 2147483646) (hnk : n + 1 ≤ 601024 ∧ k + 6 ≤ 7293034) (K : l_K p l e s m b below meth c D ca ae Ex z0 i ck n k) : l_W p l e s m b below meth c D ca ae Ex z0 358 (l_LS b z0 i) [] (σ, τ, v, n, k) := by
  refine jg_aload_n hL.1 dW_358 rfl rfl ?_
  refine l_arg (i := i) (j := 1) hL rfl rfl (by omega) rfl dW_359 dW_360 dW_362 dW_363 dW_364 ?_
  refine jg_aload_n hL.1 dW_365 rfl rfl ?_
  refine l_callH (np := 3) (As := [.ref z0, .int (xs (i + 1)), .ref (z0 + 228)]) hL (hl_run hl hT hL.2.2.1 (xs (i + 1)) M σ v hM hXc hI.1 ck hI.2.2.2 hck) (by decide) ⟨wmL_108, ws_yL_run, wzL, wcw_run⟩ hy_yL_run rfl (Nat.le_of_ble_eq_true rfl) hnk dW_366 (fun r σ' v' hpo => ?_)
  refine jg_istore hL.1 dW_369 (Nat.le_of_ble_eq_true rfl) ?_
  refine jg_aload_n hL.1 dW_371 rfl rfl ?_
  refine l_arg (i := i) (j := 1) hL rfl rfl (by omega) rfl dW_372 dW_373 dW_375 dW_376 dW_377 ?_
  refine l_callR (np := 1) (As := [.int (xs (i + 1))]) hL (x_run 0 (xs (i + 1)) M τ hR hI.1 hI.2.1 ck hI.2.2.2 hck) (by decide) (by decide) rfl ⟨wmL_110, wi_yX12_run, wv_yX12_run, wzX12, wc_yX12_run⟩ hy_yX12_run rfl (Nat.le_of_ble_eq_true rfl) hnk dW_378 (fun rv2 τ2 hp2 => ?_)
  have key : ∃ (w : Int32) (M1 : n_M) (ck1 : Nat), rv2 = some (.int w) ∧ τ2 0 0 2 = r ∧ (r = 0 → v' = w.toInt64) ∧ RepC M1 σ' ∧ RepR M1 τ2 ∧ LI M1 ck1 ∧ ck1 ≤ ck + 5000 := by
    rcases hpo with ⟨rfl, k1, a1, M1, q1, q2, q3, q4, q5⟩ | ⟨rfl, q1, q2⟩
    · rcases hp2 with ⟨k2, a2, M2, g1, g2, g3, g4, g5, g6, g7, g8, g9⟩ | ⟨g1, -⟩
      · have hk : k1 = k2 := (nI_eq (by omega) (by omega)).mp (q2.symm.trans g2)
        subst hk
        obtain ⟨rfl, rfl⟩ := m_runs_det k1 ck hI.1 hI.2.2.2 (by omega) q3 g3
        exact ⟨nI a1, M1, ck + k1, g4, g5, fun _ => q4, q5, g6, LI_runs k1 hI (by omega) q3, by omega⟩
      · exact absurd ⟨k1, q1, q2⟩ g1
    · rcases hp2 with ⟨k2, a2, M2, g1, g2, -⟩ | ⟨g1, g2, w, g3, g4⟩
      · exact absurd ⟨k2, g1, g2⟩ q1
      · exact ⟨w, M, ck, g3, g2, fun z => absurd z (by decide), q2, g4, hI, by omega⟩
  obtain ⟨w, M1, ck1, rfl, ht, hv, hC2, hR2, hI2, hc2⟩ := key
  refine jg_istore hL.1 dW_381 (Nat.le_of_ble_eq_true rfl) ?_
  refine jg_aload_n hL.1 dW_383 rfl rfl ?_
  refine l_callR (np := 0) (As := []) hL (x_thrown 0 _) (by decide) (by decide) rfl ⟨wmL_88, wi_yX12_thrown, wv_yX12_thrown, wzX12, wc_yX12_thrown⟩ hy_yX12_thrown rfl (Nat.le_of_ble_eq_true rfl) hnk dW_384 (fun rv3 τ3 hp3 => ?_)
  obtain ⟨rfl, rfl⟩ := hp3
  refine jg_iload hL.1 dW_387 rfl ?_
  refine jg_icmp_eq (tgt := 394) hL.1 dW_389 (by decide) (fun h => ?_) (fun h => absurd (ht.trans (rfl : r = r).symm) h)
  refine jg_iload hL.1 dW_394 rfl ?_
  refine jg_if_ne (tgt := 411) hL.1 dW_396 (by decide) (fun h0 => ?_) (fun h0 => ?_)
  · refine jg_goto (tgt := 1343) hL.1 dW_411 (by decide) ?_
    exact jg_ls l_fg (K M1 σ' _ v' ck1 (n + 1) (k + 6) hI2 hC2 hR2 hc2 (Nat.le_refl _) (Nat.le_refl _))
  refine jg_aload_n hL.1 dW_399 rfl rfl ?_
  refine jg_iconst (v := 0) hL.1 dW_400 (by decide) ?_
  refine l_laload hL dW_401 ?_
  refine jg_iload hL.1 dW_402 rfl ?_
  refine jg_i2l hL.1 dW_404 rfl ?_
  refine jg_lcmp hL.1 dW_405 ?_
  refine jg_if_eq (tgt := 411) hL.1 dW_406 (by decide) (fun h2 => ?_) (fun h2 => absurd (by rw [hv h0]; exact lg_cmp_rf _) h2)
  refine jg_goto (tgt := 1343) hL.1 dW_411 (by decide) ?_
  exact jg_ls l_fg (K M1 σ' _ v' ck1 (n + 1) (k + 6) hI2 hC2 hR2 hc2 (Nat.le_refl _) (Nat.le_refl _))
theorem lc_quantum (hL : l_C p s m b meth c D ca ae Ex z0 L xs) (hl : l.stackTraces = false) (hT : ∀ U H, Ex U H → xT (cw_A (c_ad z0)) U H) (hXc : ∀ U H, Ex U H → cE (c_ad z0) ae ts U H) (hS : ∀ U H, Ex U H → sX (c_ad z0) ae sk sv ta sf U H) {i ck : Nat} (hi : i + 5 < L) {M : n_M} (hI : LI M ck) (hM : RepC M σ) (hR : RepR M τ) (hck : ck + 5000 < 2147483646) (hnk : n + 1 ≤ 601024 ∧ k + 6 ≤ 7293034) (K : l_K p l e s m b below meth c D ca ae Ex z0 i ck n k) : l_W p l e s m b below meth c D ca ae Ex z0 414 (l_LS b z0 i) [] (σ, τ, v, n, k) := by
  refine jg_aload_n hL.1 dW_414 rfl rfl ?_
  refine l_arg (i := i) (j := 1) hL rfl rfl (by omega) rfl dW_415 dW_416 dW_418 dW_419 dW_420 ?_
  refine jg_aload_n hL.1 dW_421 rfl rfl ?_
  refine l_callH (np := 3) (As := [.ref z0, .int (xs (i + 1)), .ref (z0 + 228)]) hL (hl_quantum hl hT hL.2.2.1 (xs (i + 1)) M σ v hM) (by decide) ⟨wmL_111, ws_yL_quantum, wzL, wcw_quantum⟩ hy_yL_quantum rfl (Nat.le_of_ble_eq_true rfl) hnk dW_422 (fun r σ' v' hpo => ?_)
  obtain ⟨hr, hv, hC2⟩ := hpo
  refine jg_istore hL.1 dW_425 (Nat.le_of_ble_eq_true rfl) ?_
  refine jg_aload_n hL.1 dW_427 rfl rfl ?_
  refine l_arg (i := i) (j := 1) hL rfl rfl (by omega) rfl dW_428 dW_429 dW_431 dW_432 dW_433 ?_
  refine l_callR (np := 1) (As := [.int (xs (i + 1))]) hL (x_quantum 0 (xs (i + 1)) M τ hR) (by decide) (by decide) rfl ⟨wmL_113, wi_yX12_quantum, wv_yX12_quantum, wzX12, wc_yX12_quantum⟩ hy_yX12_quantum rfl (Nat.le_of_ble_eq_true rfl) hnk dW_434 (fun rv2 τ2 hp2 => ?_)
  obtain ⟨rfl, ht, hR2⟩ := hp2
  refine jg_istore hL.1 dW_437 (Nat.le_of_ble_eq_true rfl) ?_
  refine jg_aload_n hL.1 dW_439 rfl rfl ?_
  refine l_callR (np := 0) (As := []) hL (x_thrown 0 _) (by decide) (by decide) rfl ⟨wmL_88, wi_yX12_thrown, wv_yX12_thrown, wzX12, wc_yX12_thrown⟩ hy_yX12_thrown rfl (Nat.le_of_ble_eq_true rfl) hnk dW_440 (fun rv3 τ3 hp3 => ?_)
  obtain ⟨rfl, rfl⟩ := hp3
  refine jg_iload hL.1 dW_443 rfl ?_
  refine jg_icmp_eq (tgt := 450) hL.1 dW_445 (by decide) (fun h => ?_) (fun h => absurd (ht.trans hr.symm) h)
  refine jg_iload hL.1 dW_450 rfl ?_
  refine jg_if_ne (tgt := 467) hL.1 dW_452 (by decide) (fun h0 => ?_) (fun h0 => ?_)
  · refine jg_goto (tgt := 1343) hL.1 dW_467 (by decide) ?_
    exact jg_ls l_fg (K (u_quantum M (xs (i + 1))).2.2 σ' _ v' ck (n + 1) (k + 6) (LI_quantum hI (xs (i + 1))) hC2 hR2 (by omega) (Nat.le_refl _) (Nat.le_refl _))
  refine jg_aload_n hL.1 dW_455 rfl rfl ?_
  refine jg_iconst (v := 0) hL.1 dW_456 (by decide) ?_
  refine l_laload hL dW_457 ?_
  refine jg_iload hL.1 dW_458 rfl ?_
  refine jg_i2l hL.1 dW_460 rfl ?_
  refine jg_lcmp hL.1 dW_461 ?_
  refine jg_if_eq (tgt := 467) hL.1 dW_462 (by decide) (fun h2 => ?_) (fun h2 => absurd (by rw [hv (hr.symm.trans h0)]; exact lg_cmp_rf _) h2)
  refine jg_goto (tgt := 1343) hL.1 dW_467 (by decide) ?_
  exact jg_ls l_fg (K (u_quantum M (xs (i + 1))).2.2 σ' _ v' ck (n + 1) (k + 6) (LI_quantum hI (xs (i + 1))) hC2 hR2 (by omega) (Nat.le_refl _) (Nat.le_refl _))
theorem lc_kill (hL : l_C p s m b meth c D ca ae Ex z0 L xs) (hl : l.stackTraces = false) (hT : ∀ U H, Ex U H → xT (cw_A (c_ad z0)) U H) (hXc : ∀ U H, Ex U H → cE (c_ad z0) ae ts U H) (hS : ∀ U H, Ex U H → sX (c_ad z0) ae sk sv ta sf U H) {i ck : Nat} (hi : i + 5 < L) {M : n_M} (hI : LI M ck) (hM : RepC M σ) (hR : RepR M τ) (hck : ck + 5000 < 2147483646) (hnk : n + 1 ≤ 601024 ∧ k + 6 ≤ 7293034) (K : l_K p l e s m b below meth c D ca ae Ex z0 i ck n k) : l_W p l e s m b below meth c D ca ae Ex z0 470 (l_LS b z0 i) [] (σ, τ, v, n, k) := by
  refine jg_aload_n hL.1 dW_470 rfl rfl ?_
  refine l_arg (i := i) (j := 1) hL rfl rfl (by omega) rfl dW_471 dW_472 dW_474 dW_475 dW_476 ?_
  refine jg_aload_n hL.1 dW_477 rfl rfl ?_
  refine l_callH (np := 3) (As := [.ref z0, .int (xs (i + 1)), .ref (z0 + 228)]) hL (hl_kill hl hT hL.2.2.1 (xs (i + 1)) M σ v hM hI.1) (by decide) ⟨wmL_114, ws_yL_kill, wzL, wcw_kill⟩ hy_yL_kill rfl (Nat.le_of_ble_eq_true rfl) hnk dW_478 (fun r σ' v' hpo => ?_)
  obtain ⟨hr, hv, hC2⟩ := hpo
  refine jg_istore hL.1 dW_481 (Nat.le_of_ble_eq_true rfl) ?_
  refine jg_aload_n hL.1 dW_483 rfl rfl ?_
  refine l_arg (i := i) (j := 1) hL rfl rfl (by omega) rfl dW_484 dW_485 dW_487 dW_488 dW_489 ?_
  refine l_callR (np := 1) (As := [.int (xs (i + 1))]) hL (x_kill 0 (xs (i + 1)) M τ hR hI.1) (by decide) (by decide) rfl ⟨wmL_116, wi_yX12_kill, wv_yX12_kill, wzX12, wc_yX12_kill⟩ hy_yX12_kill rfl (Nat.le_of_ble_eq_true rfl) hnk dW_490 (fun rv2 τ2 hp2 => ?_)
  obtain ⟨rfl, ht, hR2⟩ := hp2
  refine jg_istore hL.1 dW_493 (Nat.le_of_ble_eq_true rfl) ?_
  refine jg_aload_n hL.1 dW_495 rfl rfl ?_
  refine l_callR (np := 0) (As := []) hL (x_thrown 0 _) (by decide) (by decide) rfl ⟨wmL_88, wi_yX12_thrown, wv_yX12_thrown, wzX12, wc_yX12_thrown⟩ hy_yX12_thrown rfl (Nat.le_of_ble_eq_true rfl) hnk dW_496 (fun rv3 τ3 hp3 => ?_)
  obtain ⟨rfl, rfl⟩ := hp3
  refine jg_iload hL.1 dW_499 rfl ?_
  refine jg_icmp_eq (tgt := 506) hL.1 dW_501 (by decide) (fun h => ?_) (fun h => absurd (ht.trans hr.symm) h)
  refine jg_iload hL.1 dW_506 rfl ?_
  refine jg_if_ne (tgt := 530) hL.1 dW_508 (by decide) (fun h0 => ?_) (fun h0 => ?_)
  · refine jg_goto (tgt := 1343) hL.1 dW_530 (by decide) ?_
    exact jg_ls l_fg (K (u_kill M (xs (i + 1))).2.2 σ' _ v' ck (n + 1) (k + 6) (LI_kill hI (xs (i + 1))) hC2 hR2 (by omega) (Nat.le_refl _) (Nat.le_refl _))
  refine jg_aload_n hL.1 dW_511 rfl rfl ?_
  refine jg_iconst (v := 0) hL.1 dW_512 (by decide) ?_
  refine l_laload hL dW_513 ?_
  refine jg_iload hL.1 dW_514 rfl ?_
  refine jg_if_eq (tgt := 523) hL.1 dW_516 (by decide) (fun hb => ?_) (fun hb => ?_)
  · refine jg_lconst (v := 0) hL.1 dW_523 (by decide) ?_
    refine jg_lcmp hL.1 dW_524 ?_
    refine jg_if_eq (tgt := 530) hL.1 dW_525 (by decide) (fun h2 => ?_) (fun h2 => absurd (by rw [(hv (hr.symm.trans h0)).trans (if_pos hb)]; exact lg_cmp_rf _) h2)
    refine jg_goto (tgt := 1343) hL.1 dW_530 (by decide) ?_
    exact jg_ls l_fg (K (u_kill M (xs (i + 1))).2.2 σ' _ v' ck (n + 1) (k + 6) (LI_kill hI (xs (i + 1))) hC2 hR2 (by omega) (Nat.le_refl _) (Nat.le_refl _))
  · refine jg_lconst (v := 1) hL.1 dW_519 (by decide) ?_
    refine jg_goto (tgt := 524) hL.1 dW_520 (by decide) ?_
    refine jg_lcmp hL.1 dW_524 ?_
    refine jg_if_eq (tgt := 530) hL.1 dW_525 (by decide) (fun h2 => ?_) (fun h2 => absurd (by rw [(hv (hr.symm.trans h0)).trans (if_neg hb)]; exact lg_cmp_rf _) h2)
    refine jg_goto (tgt := 1343) hL.1 dW_530 (by decide) ?_
    exact jg_ls l_fg (K (u_kill M (xs (i + 1))).2.2 σ' _ v' ck (n + 1) (k + 6) (LI_kill hI (xs (i + 1))) hC2 hR2 (by omega) (Nat.le_refl _) (Nat.le_refl _))
theorem lc_reap (hL : l_C p s m b meth c D ca ae Ex z0 L xs) (hl : l.stackTraces = false) (hT : ∀ U H, Ex U H → xT (cw_A (c_ad z0)) U H) (hXc : ∀ U H, Ex U H → cE (c_ad z0) ae ts U H) (hS : ∀ U H, Ex U H → sX (c_ad z0) ae sk sv ta sf U H) {i ck : Nat} (hi : i + 5 < L) {M : n_M} (hI : LI M ck) (hM : RepC M σ) (hR : RepR M τ) (hck : ck + 5000 < 2147483646) (hnk : n + 1 ≤ 601024 ∧ k + 6 ≤ 7293034) (K : l_K p l e s m b below meth c D ca ae Ex z0 i ck n k) : l_W p l e s m b below meth c D ca ae Ex z0 533 (l_LS b z0 i) [] (σ, τ, v, n, k) := by
  refine jg_aload_n hL.1 dW_533 rfl rfl ?_
  refine l_arg (i := i) (j := 1) hL rfl rfl (by omega) rfl dW_534 dW_535 dW_537 dW_538 dW_539 ?_
  refine jg_aload_n hL.1 dW_540 rfl rfl ?_
  refine l_callH (np := 3) (As := [.ref z0, .int (xs (i + 1)), .ref (z0 + 228)]) hL (hl_reap hl hT hL.2.2.1 (xs (i + 1)) M σ v hM hI.1) (by decide) ⟨wmL_117, ws_yL_reap, wzL, wcw_reap⟩ hy_yL_reap rfl (Nat.le_of_ble_eq_true rfl) hnk dW_541 (fun r σ' v' hpo => ?_)
  obtain ⟨hr, hv, hC2⟩ := hpo
  refine jg_istore hL.1 dW_544 (Nat.le_of_ble_eq_true rfl) ?_
  refine jg_aload_n hL.1 dW_546 rfl rfl ?_
  refine l_arg (i := i) (j := 1) hL rfl rfl (by omega) rfl dW_547 dW_548 dW_550 dW_551 dW_552 ?_
  refine l_callR (np := 1) (As := [.int (xs (i + 1))]) hL (x_reap 0 (xs (i + 1)) M τ hR hI.1) (by decide) (by decide) rfl ⟨wmL_119, wi_yX12_reap, wv_yX12_reap, wzX12, wc_yX12_reap⟩ hy_yX12_reap rfl (Nat.le_of_ble_eq_true rfl) hnk dW_553 (fun rv2 τ2 hp2 => ?_)
  obtain ⟨rfl, ht, hR2⟩ := hp2
  refine jg_istore hL.1 dW_556 (Nat.le_of_ble_eq_true rfl) ?_
  refine jg_aload_n hL.1 dW_558 rfl rfl ?_
  refine l_callR (np := 0) (As := []) hL (x_thrown 0 _) (by decide) (by decide) rfl ⟨wmL_88, wi_yX12_thrown, wv_yX12_thrown, wzX12, wc_yX12_thrown⟩ hy_yX12_thrown rfl (Nat.le_of_ble_eq_true rfl) hnk dW_559 (fun rv3 τ3 hp3 => ?_)
  obtain ⟨rfl, rfl⟩ := hp3
  refine jg_iload hL.1 dW_562 rfl ?_
  refine jg_icmp_eq (tgt := 569) hL.1 dW_564 (by decide) (fun h => ?_) (fun h => absurd (ht.trans hr.symm) h)
  refine jg_iload hL.1 dW_569 rfl ?_
  refine jg_if_ne (tgt := 586) hL.1 dW_571 (by decide) (fun h0 => ?_) (fun h0 => ?_)
  · refine jg_goto (tgt := 1343) hL.1 dW_586 (by decide) ?_
    exact jg_ls l_fg (K (u_reap M (xs (i + 1))).2.2 σ' _ v' ck (n + 1) (k + 6) (LI_reap hI (xs (i + 1))) hC2 hR2 (by omega) (Nat.le_refl _) (Nat.le_refl _))
  refine jg_aload_n hL.1 dW_574 rfl rfl ?_
  refine jg_iconst (v := 0) hL.1 dW_575 (by decide) ?_
  refine l_laload hL dW_576 ?_
  refine jg_iload hL.1 dW_577 rfl ?_
  refine jg_i2l hL.1 dW_579 rfl ?_
  refine jg_lcmp hL.1 dW_580 ?_
  refine jg_if_eq (tgt := 586) hL.1 dW_581 (by decide) (fun h2 => ?_) (fun h2 => absurd (by rw [hv (hr.symm.trans h0)]; exact lg_cmp_rf _) h2)
  refine jg_goto (tgt := 1343) hL.1 dW_586 (by decide) ?_
  exact jg_ls l_fg (K (u_reap M (xs (i + 1))).2.2 σ' _ v' ck (n + 1) (k + 6) (LI_reap hI (xs (i + 1))) hC2 hR2 (by omega) (Nat.le_refl _) (Nat.le_refl _))
theorem lc_key (hL : l_C p s m b meth c D ca ae Ex z0 L xs) (hl : l.stackTraces = false) (hT : ∀ U H, Ex U H → xT (cw_A (c_ad z0)) U H) (hXc : ∀ U H, Ex U H → cE (c_ad z0) ae ts U H) (hS : ∀ U H, Ex U H → sX (c_ad z0) ae sk sv ta sf U H) {i ck : Nat} (hi : i + 5 < L) {M : n_M} (hI : LI M ck) (hM : RepC M σ) (hR : RepR M τ) (hck : ck + 5000 < 2147483646) (hnk : n + 1 ≤ 601024 ∧ k + 6 ≤ 7293034) (K : l_K p l e s m b below meth c D ca ae Ex z0 i ck n k) : l_W p l e s m b below meth c D ca ae Ex z0 589 (l_LS b z0 i) [] (σ, τ, v, n, k) := by
  refine jg_aload_n hL.1 dW_589 rfl rfl ?_
  refine l_arg (i := i) (j := 1) hL rfl rfl (by omega) rfl dW_590 dW_591 dW_593 dW_594 dW_595 ?_
  refine l_arg (i := i) (j := 2) hL rfl rfl (by omega) rfl dW_596 dW_597 dW_599 dW_600 dW_601 ?_
  refine jg_aload_n hL.1 dW_602 rfl rfl ?_
  refine l_callH (np := 4) (As := [.ref z0, .int (xs (i + 1)), .int (xs (i + 2)), .ref (z0 + 228)]) hL (hl_key hl hT hL.2.2.1 (xs (i + 1)) (xs (i + 2)) M σ v hM hI.1) (by decide) ⟨wmL_120, ws_yL_key, wzL, wcw_key⟩ hy_yL_key rfl (Nat.le_of_ble_eq_true rfl) hnk dW_603 (fun r σ' v' hpo => ?_)
  obtain ⟨hr, hv, hC2⟩ := hpo
  refine jg_istore hL.1 dW_606 (Nat.le_of_ble_eq_true rfl) ?_
  refine jg_aload_n hL.1 dW_608 rfl rfl ?_
  refine l_arg (i := i) (j := 1) hL rfl rfl (by omega) rfl dW_609 dW_610 dW_612 dW_613 dW_614 ?_
  refine l_arg (i := i) (j := 2) hL rfl rfl (by omega) rfl dW_615 dW_616 dW_618 dW_619 dW_620 ?_
  refine l_callR (np := 2) (As := [.int (xs (i + 1)), .int (xs (i + 2))]) hL (x_key 0 (xs (i + 1)) (xs (i + 2)) M τ hR hI.1) (by decide) (by decide) rfl ⟨wmL_123, wi_yX12_key, wv_yX12_key, wzX12, wc_yX12_key⟩ hy_yX12_key rfl (Nat.le_of_ble_eq_true rfl) hnk dW_621 (fun rv2 τ2 hp2 => ?_)
  obtain ⟨rfl, ht, hR2⟩ := hp2
  refine jg_istore hL.1 dW_624 (Nat.le_of_ble_eq_true rfl) ?_
  refine jg_aload_n hL.1 dW_626 rfl rfl ?_
  refine l_callR (np := 0) (As := []) hL (x_thrown 0 _) (by decide) (by decide) rfl ⟨wmL_88, wi_yX12_thrown, wv_yX12_thrown, wzX12, wc_yX12_thrown⟩ hy_yX12_thrown rfl (Nat.le_of_ble_eq_true rfl) hnk dW_627 (fun rv3 τ3 hp3 => ?_)
  obtain ⟨rfl, rfl⟩ := hp3
  refine jg_iload hL.1 dW_630 rfl ?_
  refine jg_icmp_eq (tgt := 637) hL.1 dW_632 (by decide) (fun h => ?_) (fun h => absurd (ht.trans hr.symm) h)
  refine jg_iload hL.1 dW_637 rfl ?_
  refine jg_if_ne (tgt := 661) hL.1 dW_639 (by decide) (fun h0 => ?_) (fun h0 => ?_)
  · refine jg_goto (tgt := 1343) hL.1 dW_661 (by decide) ?_
    exact jg_ls l_fg (K (u_key M (xs (i + 1)) (xs (i + 2))).2.2 σ' _ v' ck (n + 1) (k + 6) (LI_key hI (xs (i + 1)) (xs (i + 2))) hC2 hR2 (by omega) (Nat.le_refl _) (Nat.le_refl _))
  refine jg_aload_n hL.1 dW_642 rfl rfl ?_
  refine jg_iconst (v := 0) hL.1 dW_643 (by decide) ?_
  refine l_laload hL dW_644 ?_
  refine jg_iload hL.1 dW_645 rfl ?_
  refine jg_if_eq (tgt := 654) hL.1 dW_647 (by decide) (fun hb => ?_) (fun hb => ?_)
  · refine jg_lconst (v := 0) hL.1 dW_654 (by decide) ?_
    refine jg_lcmp hL.1 dW_655 ?_
    refine jg_if_eq (tgt := 661) hL.1 dW_656 (by decide) (fun h2 => ?_) (fun h2 => absurd (by rw [(hv (hr.symm.trans h0)).trans (if_pos hb)]; exact lg_cmp_rf _) h2)
    refine jg_goto (tgt := 1343) hL.1 dW_661 (by decide) ?_
    exact jg_ls l_fg (K (u_key M (xs (i + 1)) (xs (i + 2))).2.2 σ' _ v' ck (n + 1) (k + 6) (LI_key hI (xs (i + 1)) (xs (i + 2))) hC2 hR2 (by omega) (Nat.le_refl _) (Nat.le_refl _))
  · refine jg_lconst (v := 1) hL.1 dW_650 (by decide) ?_
    refine jg_goto (tgt := 655) hL.1 dW_651 (by decide) ?_
    refine jg_lcmp hL.1 dW_655 ?_
    refine jg_if_eq (tgt := 661) hL.1 dW_656 (by decide) (fun h2 => ?_) (fun h2 => absurd (by rw [(hv (hr.symm.trans h0)).trans (if_neg hb)]; exact lg_cmp_rf _) h2)
    refine jg_goto (tgt := 1343) hL.1 dW_661 (by decide) ?_
    exact jg_ls l_fg (K (u_key M (xs (i + 1)) (xs (i + 2))).2.2 σ' _ v' ck (n + 1) (k + 6) (LI_key hI (xs (i + 1)) (xs (i + 2))) hC2 hR2 (by omega) (Nat.le_refl _) (Nat.le_refl _))
theorem lc_post (hL : l_C p s m b meth c D ca ae Ex z0 L xs) (hl : l.stackTraces = false) (hT : ∀ U H, Ex U H → xT (cw_A (c_ad z0)) U H) (hXc : ∀ U H, Ex U H → cE (c_ad z0) ae ts U H) (hS : ∀ U H, Ex U H → sX (c_ad z0) ae sk sv ta sf U H) {i ck : Nat} (hi : i + 5 < L) {M : n_M} (hI : LI M ck) (hM : RepC M σ) (hR : RepR M τ) (hck : ck + 5000 < 2147483646) (hnk : n + 1 ≤ 601024 ∧ k + 6 ≤ 7293034) (K : l_K p l e s m b below meth c D ca ae Ex z0 i ck n k) : l_W p l e s m b below meth c D ca ae Ex z0 664 (l_LS b z0 i) [] (σ, τ, v, n, k) := by
  refine jg_aload_n hL.1 dW_664 rfl rfl ?_
  refine l_arg (i := i) (j := 1) hL rfl rfl (by omega) rfl dW_665 dW_666 dW_668 dW_669 dW_670 ?_
  refine l_arg (i := i) (j := 2) hL rfl rfl (by omega) rfl dW_671 dW_672 dW_674 dW_675 dW_676 ?_
  refine jg_aload_n hL.1 dW_677 rfl rfl ?_
  refine l_callH (np := 4) (As := [.ref z0, .int (xs (i + 1)), .int (xs (i + 2)), .ref (z0 + 228)]) hL (hl_post hl hT hL.2.2.1 (xs (i + 1)) (xs (i + 2)) M σ v hM hI.1) (by decide) ⟨wmL_124, ws_yL_post, wzL, wcw_post⟩ hy_yL_post rfl (Nat.le_of_ble_eq_true rfl) hnk dW_678 (fun r σ' v' hpo => ?_)
  obtain ⟨hr, hv, hC2⟩ := hpo
  refine jg_istore hL.1 dW_681 (Nat.le_of_ble_eq_true rfl) ?_
  refine jg_aload_n hL.1 dW_683 rfl rfl ?_
  refine l_arg (i := i) (j := 1) hL rfl rfl (by omega) rfl dW_684 dW_685 dW_687 dW_688 dW_689 ?_
  refine l_arg (i := i) (j := 2) hL rfl rfl (by omega) rfl dW_690 dW_691 dW_693 dW_694 dW_695 ?_
  refine l_callR (np := 2) (As := [.int (xs (i + 1)), .int (xs (i + 2))]) hL (x_post 0 (xs (i + 1)) (xs (i + 2)) M τ hR hI.1) (by decide) (by decide) rfl ⟨wmL_126, wi_yX12_post, wv_yX12_post, wzX12, wc_yX12_post⟩ hy_yX12_post rfl (Nat.le_of_ble_eq_true rfl) hnk dW_696 (fun rv2 τ2 hp2 => ?_)
  obtain ⟨rfl, ht, hR2⟩ := hp2
  refine jg_istore hL.1 dW_699 (Nat.le_of_ble_eq_true rfl) ?_
  refine jg_aload_n hL.1 dW_701 rfl rfl ?_
  refine l_callR (np := 0) (As := []) hL (x_thrown 0 _) (by decide) (by decide) rfl ⟨wmL_88, wi_yX12_thrown, wv_yX12_thrown, wzX12, wc_yX12_thrown⟩ hy_yX12_thrown rfl (Nat.le_of_ble_eq_true rfl) hnk dW_702 (fun rv3 τ3 hp3 => ?_)
  obtain ⟨rfl, rfl⟩ := hp3
  refine jg_iload hL.1 dW_705 rfl ?_
  refine jg_icmp_eq (tgt := 712) hL.1 dW_707 (by decide) (fun h => ?_) (fun h => absurd (ht.trans hr.symm) h)
  refine jg_iload hL.1 dW_712 rfl ?_
  refine jg_if_ne (tgt := 736) hL.1 dW_714 (by decide) (fun h0 => ?_) (fun h0 => ?_)
  · refine jg_goto (tgt := 1343) hL.1 dW_736 (by decide) ?_
    exact jg_ls l_fg (K (u_post M (xs (i + 1)) (xs (i + 2))).2.2 σ' _ v' ck (n + 1) (k + 6) (LI_post hI (xs (i + 1)) (xs (i + 2))) hC2 hR2 (by omega) (Nat.le_refl _) (Nat.le_refl _))
  refine jg_aload_n hL.1 dW_717 rfl rfl ?_
  refine jg_iconst (v := 0) hL.1 dW_718 (by decide) ?_
  refine l_laload hL dW_719 ?_
  refine jg_iload hL.1 dW_720 rfl ?_
  refine jg_if_eq (tgt := 729) hL.1 dW_722 (by decide) (fun hb => ?_) (fun hb => ?_)
  · refine jg_lconst (v := 0) hL.1 dW_729 (by decide) ?_
    refine jg_lcmp hL.1 dW_730 ?_
    refine jg_if_eq (tgt := 736) hL.1 dW_731 (by decide) (fun h2 => ?_) (fun h2 => absurd (by rw [(hv (hr.symm.trans h0)).trans (if_pos hb)]; exact lg_cmp_rf _) h2)
    refine jg_goto (tgt := 1343) hL.1 dW_736 (by decide) ?_
    exact jg_ls l_fg (K (u_post M (xs (i + 1)) (xs (i + 2))).2.2 σ' _ v' ck (n + 1) (k + 6) (LI_post hI (xs (i + 1)) (xs (i + 2))) hC2 hR2 (by omega) (Nat.le_refl _) (Nat.le_refl _))
  · refine jg_lconst (v := 1) hL.1 dW_725 (by decide) ?_
    refine jg_goto (tgt := 730) hL.1 dW_726 (by decide) ?_
    refine jg_lcmp hL.1 dW_730 ?_
    refine jg_if_eq (tgt := 736) hL.1 dW_731 (by decide) (fun h2 => ?_) (fun h2 => absurd (by rw [(hv (hr.symm.trans h0)).trans (if_neg hb)]; exact lg_cmp_rf _) h2)
    refine jg_goto (tgt := 1343) hL.1 dW_736 (by decide) ?_
    exact jg_ls l_fg (K (u_post M (xs (i + 1)) (xs (i + 2))).2.2 σ' _ v' ck (n + 1) (k + 6) (LI_post hI (xs (i + 1)) (xs (i + 2))) hC2 hR2 (by omega) (Nat.le_refl _) (Nat.le_refl _))
theorem lc_state (hL : l_C p s m b meth c D ca ae Ex z0 L xs) (hl : l.stackTraces = false) (hT : ∀ U H, Ex U H → xT (cw_A (c_ad z0)) U H) (hXc : ∀ U H, Ex U H → cE (c_ad z0) ae ts U H) (hS : ∀ U H, Ex U H → sX (c_ad z0) ae sk sv ta sf U H) {i ck : Nat} (hi : i + 5 < L) {M : n_M} (hI : LI M ck) (hM : RepC M σ) (hR : RepR M τ) (hck : ck + 5000 < 2147483646) (hnk : n + 1 ≤ 601024 ∧ k + 6 ≤ 7293034) (K : l_K p l e s m b below meth c D ca ae Ex z0 i ck n k) : l_W p l e s m b below meth c D ca ae Ex z0 739 (l_LS b z0 i) [] (σ, τ, v, n, k) := by
  refine jg_aload_n hL.1 dW_739 rfl rfl ?_
  refine l_arg (i := i) (j := 1) hL rfl rfl (by omega) rfl dW_740 dW_741 dW_743 dW_744 dW_745 ?_
  refine l_arg (i := i) (j := 2) hL rfl rfl (by omega) rfl dW_746 dW_747 dW_749 dW_750 dW_751 ?_
  refine jg_aload_n hL.1 dW_752 rfl rfl ?_
  refine l_callH (np := 4) (As := [.ref z0, .int (xs (i + 1)), .int (xs (i + 2)), .ref (z0 + 228)]) hL (hl_state hl hT hL.2.2.1 (xs (i + 1)) (xs (i + 2)) M σ v hM hI.1) (by decide) ⟨wmL_127, ws_yL_state, wzL, wcw_state⟩ hy_yL_state rfl (Nat.le_of_ble_eq_true rfl) hnk dW_753 (fun r σ' v' hpo => ?_)
  obtain ⟨hr, hv, rfl⟩ := hpo
  refine jg_istore hL.1 dW_756 (Nat.le_of_ble_eq_true rfl) ?_
  refine jg_aload_n hL.1 dW_758 rfl rfl ?_
  refine l_arg (i := i) (j := 1) hL rfl rfl (by omega) rfl dW_759 dW_760 dW_762 dW_763 dW_764 ?_
  refine l_arg (i := i) (j := 2) hL rfl rfl (by omega) rfl dW_765 dW_766 dW_768 dW_769 dW_770 ?_
  refine l_callR (np := 2) (As := [.int (xs (i + 1)), .int (xs (i + 2))]) hL (x_state 0 (xs (i + 1)) (xs (i + 2)) M τ hR hI.1) (by decide) (by decide) rfl ⟨wmL_129, wi_yX12_state, wv_yX12_state, wzX12, wc_yX12_state⟩ hy_yX12_state rfl (Nat.le_of_ble_eq_true rfl) hnk dW_771 (fun rv2 τ2 hp2 => ?_)
  obtain ⟨rfl, ht, hR2⟩ := hp2
  refine jg_istore hL.1 dW_774 (Nat.le_of_ble_eq_true rfl) ?_
  refine jg_aload_n hL.1 dW_776 rfl rfl ?_
  refine l_callR (np := 0) (As := []) hL (x_thrown 0 _) (by decide) (by decide) rfl ⟨wmL_88, wi_yX12_thrown, wv_yX12_thrown, wzX12, wc_yX12_thrown⟩ hy_yX12_thrown rfl (Nat.le_of_ble_eq_true rfl) hnk dW_777 (fun rv3 τ3 hp3 => ?_)
  obtain ⟨rfl, rfl⟩ := hp3
  refine jg_iload hL.1 dW_780 rfl ?_
  refine jg_icmp_eq (tgt := 787) hL.1 dW_782 (by decide) (fun h => ?_) (fun h => absurd (ht.trans hr.symm) h)
  refine jg_iload hL.1 dW_787 rfl ?_
  refine jg_if_ne (tgt := 804) hL.1 dW_789 (by decide) (fun h0 => ?_) (fun h0 => ?_)
  · refine jg_goto (tgt := 1343) hL.1 dW_804 (by decide) ?_
    exact jg_ls l_fg (K M _ _ v' ck (n + 1) (k + 6) hI hM hR2 (by omega) (Nat.le_refl _) (Nat.le_refl _))
  refine jg_aload_n hL.1 dW_792 rfl rfl ?_
  refine jg_iconst (v := 0) hL.1 dW_793 (by decide) ?_
  refine l_laload hL dW_794 ?_
  refine jg_iload hL.1 dW_795 rfl ?_
  refine jg_i2l hL.1 dW_797 rfl ?_
  refine jg_lcmp hL.1 dW_798 ?_
  refine jg_if_eq (tgt := 804) hL.1 dW_799 (by decide) (fun h2 => ?_) (fun h2 => absurd (by rw [hv (hr.symm.trans h0)]; exact lg_cmp_rf _) h2)
  refine jg_goto (tgt := 1343) hL.1 dW_804 (by decide) ?_
  exact jg_ls l_fg (K M _ _ v' ck (n + 1) (k + 6) hI hM hR2 (by omega) (Nat.le_refl _) (Nat.le_refl _))
theorem lc_stack (hL : l_C p s m b meth c D ca ae Ex z0 L xs) (hl : l.stackTraces = false) (hT : ∀ U H, Ex U H → xT (cw_A (c_ad z0)) U H) (hXc : ∀ U H, Ex U H → cE (c_ad z0) ae ts U H) (hS : ∀ U H, Ex U H → sX (c_ad z0) ae sk sv ta sf U H) {i ck : Nat} (hi : i + 5 < L) {M : n_M} (hI : LI M ck) (hM : RepC M σ) (hR : RepR M τ) (hck : ck + 5000 < 2147483646) (hnk : n + 1 ≤ 601024 ∧ k + 6 ≤ 7293034) (K : l_K p l e s m b below meth c D ca ae Ex z0 i ck n k) : l_W p l e s m b below meth c D ca ae Ex z0 807 (l_LS b z0 i) [] (σ, τ, v, n, k) := by
  refine jg_aload_n hL.1 dW_807 rfl rfl ?_
  refine l_arg (i := i) (j := 1) hL rfl rfl (by omega) rfl dW_808 dW_809 dW_811 dW_812 dW_813 ?_
  refine l_arg (i := i) (j := 2) hL rfl rfl (by omega) rfl dW_814 dW_815 dW_817 dW_818 dW_819 ?_
  refine jg_aload_n hL.1 dW_820 rfl rfl ?_
  refine l_callH (np := 4) (As := [.ref z0, .int (xs (i + 1)), .int (xs (i + 2)), .ref (z0 + 228)]) hL (hl_stack hl hT hL.2.2.1 (xs (i + 1)) (xs (i + 2)) M σ v hM) (by decide) ⟨wmL_130, ws_yL_stack, wzL, wcw_stack⟩ hy_yL_stack rfl (Nat.le_of_ble_eq_true rfl) hnk dW_821 (fun r σ' v' hpo => ?_)
  obtain ⟨hr, hv, rfl⟩ := hpo
  refine jg_istore hL.1 dW_824 (Nat.le_of_ble_eq_true rfl) ?_
  refine jg_aload_n hL.1 dW_826 rfl rfl ?_
  refine l_arg (i := i) (j := 1) hL rfl rfl (by omega) rfl dW_827 dW_828 dW_830 dW_831 dW_832 ?_
  refine l_arg (i := i) (j := 2) hL rfl rfl (by omega) rfl dW_833 dW_834 dW_836 dW_837 dW_838 ?_
  refine l_callR (np := 2) (As := [.int (xs (i + 1)), .int (xs (i + 2))]) hL (x_stack 0 (xs (i + 1)) (xs (i + 2)) M τ hR) (by decide) (by decide) rfl ⟨wmL_132, wi_yX12_stack, wv_yX12_stack, wzX12, wc_yX12_stack⟩ hy_yX12_stack rfl (Nat.le_of_ble_eq_true rfl) hnk dW_839 (fun rv2 τ2 hp2 => ?_)
  obtain ⟨rfl, ht, hR2⟩ := hp2
  refine jg_istore hL.1 dW_842 (Nat.le_of_ble_eq_true rfl) ?_
  refine jg_aload_n hL.1 dW_844 rfl rfl ?_
  refine l_callR (np := 0) (As := []) hL (x_thrown 0 _) (by decide) (by decide) rfl ⟨wmL_88, wi_yX12_thrown, wv_yX12_thrown, wzX12, wc_yX12_thrown⟩ hy_yX12_thrown rfl (Nat.le_of_ble_eq_true rfl) hnk dW_845 (fun rv3 τ3 hp3 => ?_)
  obtain ⟨rfl, rfl⟩ := hp3
  refine jg_iload hL.1 dW_848 rfl ?_
  refine jg_icmp_eq (tgt := 855) hL.1 dW_850 (by decide) (fun h => ?_) (fun h => absurd (ht.trans hr.symm) h)
  refine jg_iload hL.1 dW_855 rfl ?_
  refine jg_if_ne (tgt := 872) hL.1 dW_857 (by decide) (fun h0 => ?_) (fun h0 => ?_)
  · refine jg_goto (tgt := 1343) hL.1 dW_872 (by decide) ?_
    exact jg_ls l_fg (K M _ _ v' ck (n + 1) (k + 6) hI hM hR2 (by omega) (Nat.le_refl _) (Nat.le_refl _))
  refine jg_aload_n hL.1 dW_860 rfl rfl ?_
  refine jg_iconst (v := 0) hL.1 dW_861 (by decide) ?_
  refine l_laload hL dW_862 ?_
  refine jg_iload hL.1 dW_863 rfl ?_
  refine jg_i2l hL.1 dW_865 rfl ?_
  refine jg_lcmp hL.1 dW_866 ?_
  refine jg_if_eq (tgt := 872) hL.1 dW_867 (by decide) (fun h2 => ?_) (fun h2 => absurd (by rw [hv (hr.symm.trans h0)]; exact lg_cmp_rf _) h2)
  refine jg_goto (tgt := 1343) hL.1 dW_872 (by decide) ?_
  exact jg_ls l_fg (K M _ _ v' ck (n + 1) (k + 6) hI hM hR2 (by omega) (Nat.le_refl _) (Nat.le_refl _))
theorem lc_message (hL : l_C p s m b meth c D ca ae Ex z0 L xs) (hl : l.stackTraces = false) (hT : ∀ U H, Ex U H → xT (cw_A (c_ad z0)) U H) (hXc : ∀ U H, Ex U H → cE (c_ad z0) ae ts U H) (hS : ∀ U H, Ex U H → sX (c_ad z0) ae sk sv ta sf U H) {i ck : Nat} (hi : i + 5 < L) {M : n_M} (hI : LI M ck) (hM : RepC M σ) (hR : RepR M τ) (hck : ck + 5000 < 2147483646) (hnk : n + 1 ≤ 601024 ∧ k + 6 ≤ 7293034) (K : l_K p l e s m b below meth c D ca ae Ex z0 i ck n k) : l_W p l e s m b below meth c D ca ae Ex z0 875 (l_LS b z0 i) [] (σ, τ, v, n, k) := by
  refine jg_aload_n hL.1 dW_875 rfl rfl ?_
  refine l_arg (i := i) (j := 1) hL rfl rfl (by omega) rfl dW_876 dW_877 dW_879 dW_880 dW_881 ?_
  refine l_arg (i := i) (j := 2) hL rfl rfl (by omega) rfl dW_882 dW_883 dW_885 dW_886 dW_887 ?_
  refine l_arg (i := i) (j := 3) hL rfl rfl (by omega) rfl dW_888 dW_889 dW_891 dW_892 dW_893 ?_
  refine jg_if_eq (tgt := 901) hL.1 dW_894 (by decide) (fun hb => ?_) (fun hb => ?_)
  · refine jg_iconst (v := 0) hL.1 dW_901 (by decide) ?_
    refine jg_aload_n hL.1 dW_902 rfl rfl ?_
    refine l_callH (np := 5) (As := [.ref z0, .int (xs (i + 1)), .int (xs (i + 2)), .int 0, .ref (z0 + 228)]) hL (hl_message hl hT hL.2.2.1 (xs (i + 1)) (xs (i + 2)) 0 M σ v hM) (by decide) ⟨wmL_133, ws_yL_message, wzL, wcw_message⟩ hy_yL_message rfl (Nat.le_of_ble_eq_true rfl) hnk dW_903 (fun r σ' v' hpo => ?_)
    obtain ⟨hr, hv, rfl⟩ := hpo
    refine jg_istore hL.1 dW_906 (Nat.le_of_ble_eq_true rfl) ?_
    refine jg_aload_n hL.1 dW_908 rfl rfl ?_
    refine l_arg (i := i) (j := 1) hL rfl rfl (by omega) rfl dW_909 dW_910 dW_912 dW_913 dW_914 ?_
    refine l_arg (i := i) (j := 2) hL rfl rfl (by omega) rfl dW_915 dW_916 dW_918 dW_919 dW_920 ?_
    refine l_arg (i := i) (j := 3) hL rfl rfl (by omega) rfl dW_921 dW_922 dW_924 dW_925 dW_926 ?_
    refine jg_if_eq (tgt := 934) hL.1 dW_927 (by decide) (fun _ => ?_) (fun hb2 => absurd hb hb2)
    refine jg_iconst (v := 0) hL.1 dW_934 (by decide) ?_
    refine l_callR (np := 3) (As := [.int (xs (i + 1)), .int (xs (i + 2)), .int 0]) hL (x_message 0 (xs (i + 1)) (xs (i + 2)) 0 M τ hR) (by decide) (by decide) rfl ⟨wmL_136, wi_yX12_message, wv_yX12_message, wzX12, wc_yX12_message⟩ hy_yX12_message rfl (Nat.le_of_ble_eq_true rfl) hnk dW_935 (fun rv2 τ2 hp2 => ?_)
    obtain ⟨rfl, ht, hR2⟩ := hp2
    refine jg_istore hL.1 dW_938 (Nat.le_of_ble_eq_true rfl) ?_
    refine jg_aload_n hL.1 dW_940 rfl rfl ?_
    refine l_callR (np := 0) (As := []) hL (x_thrown 0 _) (by decide) (by decide) rfl ⟨wmL_88, wi_yX12_thrown, wv_yX12_thrown, wzX12, wc_yX12_thrown⟩ hy_yX12_thrown rfl (Nat.le_of_ble_eq_true rfl) hnk dW_941 (fun rv3 τ3 hp3 => ?_)
    obtain ⟨rfl, rfl⟩ := hp3
    refine jg_iload hL.1 dW_944 rfl ?_
    refine jg_icmp_eq (tgt := 951) hL.1 dW_946 (by decide) (fun h => ?_) (fun h => absurd (ht.trans hr.symm) h)
    refine jg_iload hL.1 dW_951 rfl ?_
    refine jg_if_ne (tgt := 968) hL.1 dW_953 (by decide) (fun h0 => ?_) (fun h0 => ?_)
    · refine jg_goto (tgt := 1343) hL.1 dW_968 (by decide) ?_
      exact jg_ls l_fg (K M _ _ v' ck (n + 1) (k + 6) hI hM hR2 (by omega) (Nat.le_refl _) (Nat.le_refl _))
    refine jg_aload_n hL.1 dW_956 rfl rfl ?_
    refine jg_iconst (v := 0) hL.1 dW_957 (by decide) ?_
    refine l_laload hL dW_958 ?_
    refine jg_iload hL.1 dW_959 rfl ?_
    refine jg_i2l hL.1 dW_961 rfl ?_
    refine jg_lcmp hL.1 dW_962 ?_
    refine jg_if_eq (tgt := 968) hL.1 dW_963 (by decide) (fun h2 => ?_) (fun h2 => absurd (by rw [hv (hr.symm.trans h0)]; exact lg_cmp_rf _) h2)
    refine jg_goto (tgt := 1343) hL.1 dW_968 (by decide) ?_
    exact jg_ls l_fg (K M _ _ v' ck (n + 1) (k + 6) hI hM hR2 (by omega) (Nat.le_refl _) (Nat.le_refl _))
  · refine jg_iconst (v := 1) hL.1 dW_897 (by decide) ?_
    refine jg_goto (tgt := 902) hL.1 dW_898 (by decide) ?_
    refine jg_aload_n hL.1 dW_902 rfl rfl ?_
    refine l_callH (np := 5) (As := [.ref z0, .int (xs (i + 1)), .int (xs (i + 2)), .int 1, .ref (z0 + 228)]) hL (hl_message hl hT hL.2.2.1 (xs (i + 1)) (xs (i + 2)) 1 M σ v hM) (by decide) ⟨wmL_133, ws_yL_message, wzL, wcw_message⟩ hy_yL_message rfl (Nat.le_of_ble_eq_true rfl) hnk dW_903 (fun r σ' v' hpo => ?_)
    obtain ⟨hr, hv, rfl⟩ := hpo
    refine jg_istore hL.1 dW_906 (Nat.le_of_ble_eq_true rfl) ?_
    refine jg_aload_n hL.1 dW_908 rfl rfl ?_
    refine l_arg (i := i) (j := 1) hL rfl rfl (by omega) rfl dW_909 dW_910 dW_912 dW_913 dW_914 ?_
    refine l_arg (i := i) (j := 2) hL rfl rfl (by omega) rfl dW_915 dW_916 dW_918 dW_919 dW_920 ?_
    refine l_arg (i := i) (j := 3) hL rfl rfl (by omega) rfl dW_921 dW_922 dW_924 dW_925 dW_926 ?_
    refine jg_if_eq (tgt := 934) hL.1 dW_927 (by decide) (fun hb2 => absurd hb2 hb) (fun _ => ?_)
    refine jg_iconst (v := 1) hL.1 dW_930 (by decide) ?_
    refine jg_goto (tgt := 935) hL.1 dW_931 (by decide) ?_
    refine l_callR (np := 3) (As := [.int (xs (i + 1)), .int (xs (i + 2)), .int 1]) hL (x_message 0 (xs (i + 1)) (xs (i + 2)) 1 M τ hR) (by decide) (by decide) rfl ⟨wmL_136, wi_yX12_message, wv_yX12_message, wzX12, wc_yX12_message⟩ hy_yX12_message rfl (Nat.le_of_ble_eq_true rfl) hnk dW_935 (fun rv2 τ2 hp2 => ?_)
    obtain ⟨rfl, ht, hR2⟩ := hp2
    refine jg_istore hL.1 dW_938 (Nat.le_of_ble_eq_true rfl) ?_
    refine jg_aload_n hL.1 dW_940 rfl rfl ?_
    refine l_callR (np := 0) (As := []) hL (x_thrown 0 _) (by decide) (by decide) rfl ⟨wmL_88, wi_yX12_thrown, wv_yX12_thrown, wzX12, wc_yX12_thrown⟩ hy_yX12_thrown rfl (Nat.le_of_ble_eq_true rfl) hnk dW_941 (fun rv3 τ3 hp3 => ?_)
    obtain ⟨rfl, rfl⟩ := hp3
    refine jg_iload hL.1 dW_944 rfl ?_
    refine jg_icmp_eq (tgt := 951) hL.1 dW_946 (by decide) (fun h => ?_) (fun h => absurd (ht.trans hr.symm) h)
    refine jg_iload hL.1 dW_951 rfl ?_
    refine jg_if_ne (tgt := 968) hL.1 dW_953 (by decide) (fun h0 => ?_) (fun h0 => ?_)
    · refine jg_goto (tgt := 1343) hL.1 dW_968 (by decide) ?_
      exact jg_ls l_fg (K M _ _ v' ck (n + 1) (k + 6) hI hM hR2 (by omega) (Nat.le_refl _) (Nat.le_refl _))
    refine jg_aload_n hL.1 dW_956 rfl rfl ?_
    refine jg_iconst (v := 0) hL.1 dW_957 (by decide) ?_
    refine l_laload hL dW_958 ?_
    refine jg_iload hL.1 dW_959 rfl ?_
    refine jg_i2l hL.1 dW_961 rfl ?_
    refine jg_lcmp hL.1 dW_962 ?_
    refine jg_if_eq (tgt := 968) hL.1 dW_963 (by decide) (fun h2 => ?_) (fun h2 => absurd (by rw [hv (hr.symm.trans h0)]; exact lg_cmp_rf _) h2)
    refine jg_goto (tgt := 1343) hL.1 dW_968 (by decide) ?_
    exact jg_ls l_fg (K M _ _ v' ck (n + 1) (k + 6) hI hM hR2 (by omega) (Nat.le_refl _) (Nat.le_refl _))
theorem lc_ready (hL : l_C p s m b meth c D ca ae Ex z0 L xs) (hl : l.stackTraces = false) (hT : ∀ U H, Ex U H → xT (cw_A (c_ad z0)) U H) (hXc : ∀ U H, Ex U H → cE (c_ad z0) ae ts U H) (hS : ∀ U H, Ex U H → sX (c_ad z0) ae sk sv ta sf U H) {i ck : Nat} (hi : i + 5 < L) {M : n_M} (hI : LI M ck) (hM : RepC M σ) (hR : RepR M τ) (hck : ck + 5000 < 2147483646) (hnk : n + 1 ≤ 601024 ∧ k + 6 ≤ 7293034) (K : l_K p l e s m b below meth c D ca ae Ex z0 i ck n k) : l_W p l e s m b below meth c D ca ae Ex z0 971 (l_LS b z0 i) [] (σ, τ, v, n, k) := by
  refine jg_aload_n hL.1 dW_971 rfl rfl ?_
  refine l_arg (i := i) (j := 1) hL rfl rfl (by omega) rfl dW_972 dW_973 dW_975 dW_976 dW_977 ?_
  refine l_arg (i := i) (j := 2) hL rfl rfl (by omega) rfl dW_978 dW_979 dW_981 dW_982 dW_983 ?_
  refine jg_aload_n hL.1 dW_984 rfl rfl ?_
  refine l_callH (np := 4) (As := [.ref z0, .int (xs (i + 1)), .int (xs (i + 2)), .ref (z0 + 228)]) hL (hl_ready hl hT hL.2.2.1 (xs (i + 1)) (xs (i + 2)) M σ v hM) (by decide) ⟨wmL_137, ws_yL_ready, wzL, wcw_ready⟩ hy_yL_ready rfl (Nat.le_of_ble_eq_true rfl) hnk dW_985 (fun r σ' v' hpo => ?_)
  obtain ⟨hr, hv, rfl⟩ := hpo
  refine jg_istore hL.1 dW_988 (Nat.le_of_ble_eq_true rfl) ?_
  refine jg_aload_n hL.1 dW_990 rfl rfl ?_
  refine l_arg (i := i) (j := 1) hL rfl rfl (by omega) rfl dW_991 dW_992 dW_994 dW_995 dW_996 ?_
  refine l_arg (i := i) (j := 2) hL rfl rfl (by omega) rfl dW_997 dW_998 dW_1000 dW_1001 dW_1002 ?_
  refine l_callR (np := 2) (As := [.int (xs (i + 1)), .int (xs (i + 2))]) hL (x_ready 0 (xs (i + 1)) (xs (i + 2)) M τ hR) (by decide) (by decide) rfl ⟨wmL_139, wi_yX12_ready, wv_yX12_ready, wzX12, wc_yX12_ready⟩ hy_yX12_ready rfl (Nat.le_of_ble_eq_true rfl) hnk dW_1003 (fun rv2 τ2 hp2 => ?_)
  obtain ⟨rfl, ht, hR2⟩ := hp2
  refine jg_istore hL.1 dW_1006 (Nat.le_of_ble_eq_true rfl) ?_
  refine jg_aload_n hL.1 dW_1008 rfl rfl ?_
  refine l_callR (np := 0) (As := []) hL (x_thrown 0 _) (by decide) (by decide) rfl ⟨wmL_88, wi_yX12_thrown, wv_yX12_thrown, wzX12, wc_yX12_thrown⟩ hy_yX12_thrown rfl (Nat.le_of_ble_eq_true rfl) hnk dW_1009 (fun rv3 τ3 hp3 => ?_)
  obtain ⟨rfl, rfl⟩ := hp3
  refine jg_iload hL.1 dW_1012 rfl ?_
  refine jg_icmp_eq (tgt := 1019) hL.1 dW_1014 (by decide) (fun h => ?_) (fun h => absurd (ht.trans hr.symm) h)
  refine jg_iload hL.1 dW_1019 rfl ?_
  refine jg_if_ne (tgt := 1036) hL.1 dW_1021 (by decide) (fun h0 => ?_) (fun h0 => ?_)
  · refine jg_goto (tgt := 1343) hL.1 dW_1036 (by decide) ?_
    exact jg_ls l_fg (K M _ _ v' ck (n + 1) (k + 6) hI hM hR2 (by omega) (Nat.le_refl _) (Nat.le_refl _))
  refine jg_aload_n hL.1 dW_1024 rfl rfl ?_
  refine jg_iconst (v := 0) hL.1 dW_1025 (by decide) ?_
  refine l_laload hL dW_1026 ?_
  refine jg_iload hL.1 dW_1027 rfl ?_
  refine jg_i2l hL.1 dW_1029 rfl ?_
  refine jg_lcmp hL.1 dW_1030 ?_
  refine jg_if_eq (tgt := 1036) hL.1 dW_1031 (by decide) (fun h2 => ?_) (fun h2 => absurd (by rw [hv (hr.symm.trans h0)]; exact lg_cmp_rf _) h2)
  refine jg_goto (tgt := 1343) hL.1 dW_1036 (by decide) ?_
  exact jg_ls l_fg (K M _ _ v' ck (n + 1) (k + 6) hI hM hR2 (by omega) (Nat.le_refl _) (Nat.le_refl _))
theorem lc_cell (hL : l_C p s m b meth c D ca ae Ex z0 L xs) (hl : l.stackTraces = false) (hT : ∀ U H, Ex U H → xT (cw_A (c_ad z0)) U H) (hXc : ∀ U H, Ex U H → cE (c_ad z0) ae ts U H) (hS : ∀ U H, Ex U H → sX (c_ad z0) ae sk sv ta sf U H) {i ck : Nat} (hi : i + 5 < L) {M : n_M} (hI : LI M ck) (hM : RepC M σ) (hR : RepR M τ) (hck : ck + 5000 < 2147483646) (hnk : n + 1 ≤ 601024 ∧ k + 6 ≤ 7293034) (K : l_K p l e s m b below meth c D ca ae Ex z0 i ck n k) : l_W p l e s m b below meth c D ca ae Ex z0 1039 (l_LS b z0 i) [] (σ, τ, v, n, k) := by
  refine jg_aload_n hL.1 dW_1039 rfl rfl ?_
  refine l_arg (i := i) (j := 1) hL rfl rfl (by omega) rfl dW_1040 dW_1041 dW_1043 dW_1044 dW_1045 ?_
  refine jg_aload_n hL.1 dW_1046 rfl rfl ?_
  refine l_callH (np := 3) (As := [.ref z0, .int (xs (i + 1)), .ref (z0 + 228)]) hL (hl_cell hl hT hL.2.2.1 (xs (i + 1)) M σ v hM) (by decide) ⟨wmL_140, ws_yL_cell, wzL, wcw_cell⟩ hy_yL_cell rfl (Nat.le_of_ble_eq_true rfl) hnk dW_1047 (fun r σ' v' hpo => ?_)
  obtain ⟨hr, hv, rfl⟩ := hpo
  refine jg_istore hL.1 dW_1050 (Nat.le_of_ble_eq_true rfl) ?_
  refine jg_aload_n hL.1 dW_1052 rfl rfl ?_
  refine l_arg (i := i) (j := 1) hL rfl rfl (by omega) rfl dW_1053 dW_1054 dW_1056 dW_1057 dW_1058 ?_
  refine l_callR (np := 1) (As := [.int (xs (i + 1))]) hL (x_cell 0 (xs (i + 1)) M τ hR) (by decide) (by decide) rfl ⟨wmL_142, wi_yX12_cell, wv_yX12_cell, wzX12, wc_yX12_cell⟩ hy_yX12_cell rfl (Nat.le_of_ble_eq_true rfl) hnk dW_1059 (fun rv2 τ2 hp2 => ?_)
  obtain ⟨rfl, ht, hR2⟩ := hp2
  refine jg_istore hL.1 dW_1062 (Nat.le_of_ble_eq_true rfl) ?_
  refine jg_aload_n hL.1 dW_1064 rfl rfl ?_
  refine l_callR (np := 0) (As := []) hL (x_thrown 0 _) (by decide) (by decide) rfl ⟨wmL_88, wi_yX12_thrown, wv_yX12_thrown, wzX12, wc_yX12_thrown⟩ hy_yX12_thrown rfl (Nat.le_of_ble_eq_true rfl) hnk dW_1065 (fun rv3 τ3 hp3 => ?_)
  obtain ⟨rfl, rfl⟩ := hp3
  refine jg_iload hL.1 dW_1068 rfl ?_
  refine jg_icmp_eq (tgt := 1075) hL.1 dW_1070 (by decide) (fun h => ?_) (fun h => absurd (ht.trans hr.symm) h)
  refine jg_iload hL.1 dW_1075 rfl ?_
  refine jg_if_ne (tgt := 1092) hL.1 dW_1077 (by decide) (fun h0 => ?_) (fun h0 => ?_)
  · refine jg_goto (tgt := 1343) hL.1 dW_1092 (by decide) ?_
    exact jg_ls l_fg (K M _ _ v' ck (n + 1) (k + 6) hI hM hR2 (by omega) (Nat.le_refl _) (Nat.le_refl _))
  refine jg_aload_n hL.1 dW_1080 rfl rfl ?_
  refine jg_iconst (v := 0) hL.1 dW_1081 (by decide) ?_
  refine l_laload hL dW_1082 ?_
  refine jg_iload hL.1 dW_1083 rfl ?_
  refine jg_i2l hL.1 dW_1085 rfl ?_
  refine jg_lcmp hL.1 dW_1086 ?_
  refine jg_if_eq (tgt := 1092) hL.1 dW_1087 (by decide) (fun h2 => ?_) (fun h2 => absurd (by rw [hv (hr.symm.trans h0)]; exact lg_cmp_rf _) h2)
  refine jg_goto (tgt := 1343) hL.1 dW_1092 (by decide) ?_
  exact jg_ls l_fg (K M _ _ v' ck (n + 1) (k + 6) hI hM hR2 (by omega) (Nat.le_refl _) (Nat.le_refl _))
theorem lc_block (hL : l_C p s m b meth c D ca ae Ex z0 L xs) (hl : l.stackTraces = false) (hT : ∀ U H, Ex U H → xT (cw_A (c_ad z0)) U H) (hXc : ∀ U H, Ex U H → cE (c_ad z0) ae ts U H) (hS : ∀ U H, Ex U H → sX (c_ad z0) ae sk sv ta sf U H) {i ck : Nat} (hi : i + 5 < L) {M : n_M} (hI : LI M ck) (hM : RepC M σ) (hR : RepR M τ) (hck : ck + 5000 < 2147483646) (hnk : n + 1 ≤ 601024 ∧ k + 6 ≤ 7293034) (K : l_K p l e s m b below meth c D ca ae Ex z0 i ck n k) : l_W p l e s m b below meth c D ca ae Ex z0 1095 (l_LS b z0 i) [] (σ, τ, v, n, k) := by
  refine jg_aload_n hL.1 dW_1095 rfl rfl ?_
  refine l_arg (i := i) (j := 1) hL rfl rfl (by omega) rfl dW_1096 dW_1097 dW_1099 dW_1100 dW_1101 ?_
  refine l_arg (i := i) (j := 2) hL rfl rfl (by omega) rfl dW_1102 dW_1103 dW_1105 dW_1106 dW_1107 ?_
  refine jg_aload_n hL.1 dW_1108 rfl rfl ?_
  refine l_callH (np := 4) (As := [.ref z0, .int (xs (i + 1)), .int (xs (i + 2)), .ref (z0 + 228)]) hL (hl_block hl hT hL.2.2.1 (xs (i + 1)) (xs (i + 2)) M σ v hM hI.1) (by decide) ⟨wmL_143, ws_yL_block, wzL, wcw_block⟩ hy_yL_block rfl (Nat.le_of_ble_eq_true rfl) hnk dW_1109 (fun r σ' v' hpo => ?_)
  obtain ⟨hr, hv, rfl⟩ := hpo
  refine jg_istore hL.1 dW_1112 (Nat.le_of_ble_eq_true rfl) ?_
  refine jg_aload_n hL.1 dW_1114 rfl rfl ?_
  refine l_arg (i := i) (j := 1) hL rfl rfl (by omega) rfl dW_1115 dW_1116 dW_1118 dW_1119 dW_1120 ?_
  refine l_arg (i := i) (j := 2) hL rfl rfl (by omega) rfl dW_1121 dW_1122 dW_1124 dW_1125 dW_1126 ?_
  refine l_callR (np := 2) (As := [.int (xs (i + 1)), .int (xs (i + 2))]) hL (x_block 0 (xs (i + 1)) (xs (i + 2)) M τ hR hI.1.2.1) (by decide) (by decide) rfl ⟨wmL_145, wi_yX12_block, wv_yX12_block, wzX12, wc_yX12_block⟩ hy_yX12_block rfl (Nat.le_of_ble_eq_true rfl) hnk dW_1127 (fun rv2 τ2 hp2 => ?_)
  obtain ⟨rfl, ht, hR2⟩ := hp2
  refine jg_istore hL.1 dW_1130 (Nat.le_of_ble_eq_true rfl) ?_
  refine jg_aload_n hL.1 dW_1132 rfl rfl ?_
  refine l_callR (np := 0) (As := []) hL (x_thrown 0 _) (by decide) (by decide) rfl ⟨wmL_88, wi_yX12_thrown, wv_yX12_thrown, wzX12, wc_yX12_thrown⟩ hy_yX12_thrown rfl (Nat.le_of_ble_eq_true rfl) hnk dW_1133 (fun rv3 τ3 hp3 => ?_)
  obtain ⟨rfl, rfl⟩ := hp3
  refine jg_iload hL.1 dW_1136 rfl ?_
  refine jg_icmp_eq (tgt := 1143) hL.1 dW_1138 (by decide) (fun h => ?_) (fun h => absurd (ht.trans hr.symm) h)
  refine jg_iload hL.1 dW_1143 rfl ?_
  refine jg_if_ne (tgt := 1160) hL.1 dW_1145 (by decide) (fun h0 => ?_) (fun h0 => ?_)
  · refine jg_goto (tgt := 1343) hL.1 dW_1160 (by decide) ?_
    exact jg_ls l_fg (K M _ _ v' ck (n + 1) (k + 6) hI hM hR2 (by omega) (Nat.le_refl _) (Nat.le_refl _))
  refine jg_aload_n hL.1 dW_1148 rfl rfl ?_
  refine jg_iconst (v := 0) hL.1 dW_1149 (by decide) ?_
  refine l_laload hL dW_1150 ?_
  refine jg_iload hL.1 dW_1151 rfl ?_
  refine jg_i2l hL.1 dW_1153 rfl ?_
  refine jg_lcmp hL.1 dW_1154 ?_
  refine jg_if_eq (tgt := 1160) hL.1 dW_1155 (by decide) (fun h2 => ?_) (fun h2 => absurd (by rw [hv (hr.symm.trans h0)]; exact lg_cmp_rf _) h2)
  refine jg_goto (tgt := 1343) hL.1 dW_1160 (by decide) ?_
  exact jg_ls l_fg (K M _ _ v' ck (n + 1) (k + 6) hI hM hR2 (by omega) (Nat.le_refl _) (Nat.le_refl _))
theorem lc_semaphore (hL : l_C p s m b meth c D ca ae Ex z0 L xs) (hl : l.stackTraces = false) (hT : ∀ U H, Ex U H → xT (cw_A (c_ad z0)) U H) (hXc : ∀ U H, Ex U H → cE (c_ad z0) ae ts U H) (hS : ∀ U H, Ex U H → sX (c_ad z0) ae sk sv ta sf U H) {i ck : Nat} (hi : i + 5 < L) {M : n_M} (hI : LI M ck) (hM : RepC M σ) (hR : RepR M τ) (hck : ck + 5000 < 2147483646) (hnk : n + 1 ≤ 601024 ∧ k + 6 ≤ 7293034) (K : l_K p l e s m b below meth c D ca ae Ex z0 i ck n k) : l_W p l e s m b below meth c D ca ae Ex z0 1163 (l_LS b z0 i) [] (σ, τ, v, n, k) := by
  refine jg_aload_n hL.1 dW_1163 rfl rfl ?_
  refine l_arg (i := i) (j := 1) hL rfl rfl (by omega) rfl dW_1164 dW_1165 dW_1167 dW_1168 dW_1169 ?_
  refine l_arg (i := i) (j := 2) hL rfl rfl (by omega) rfl dW_1170 dW_1171 dW_1173 dW_1174 dW_1175 ?_
  refine jg_aload_n hL.1 dW_1176 rfl rfl ?_
  refine l_callH (np := 4) (As := [.ref z0, .int (xs (i + 1)), .int (xs (i + 2)), .ref (z0 + 228)]) hL (hl_semaphore hl hT hL.2.2.1 (xs (i + 1)) (xs (i + 2)) M σ v hM) (by decide) ⟨wmL_146, ws_yL_semaphore, wzL, wcw_semaphore⟩ hy_yL_semaphore rfl (Nat.le_of_ble_eq_true rfl) hnk dW_1177 (fun r σ' v' hpo => ?_)
  obtain ⟨hr, hv, rfl⟩ := hpo
  refine jg_istore hL.1 dW_1180 (Nat.le_of_ble_eq_true rfl) ?_
  refine jg_aload_n hL.1 dW_1182 rfl rfl ?_
  refine l_arg (i := i) (j := 1) hL rfl rfl (by omega) rfl dW_1183 dW_1184 dW_1186 dW_1187 dW_1188 ?_
  refine l_arg (i := i) (j := 2) hL rfl rfl (by omega) rfl dW_1189 dW_1190 dW_1192 dW_1193 dW_1194 ?_
  refine l_callR (np := 2) (As := [.int (xs (i + 1)), .int (xs (i + 2))]) hL (x_semaphore_ 0 (xs (i + 1)) (xs (i + 2)) M τ hR) (by decide) (by decide) rfl ⟨wmL_148, wi_yX12_semaphore_, wv_yX12_semaphore_, wzX12, wc_yX12_semaphore_⟩ hy_yX12_semaphore_ rfl (Nat.le_of_ble_eq_true rfl) hnk dW_1195 (fun rv2 τ2 hp2 => ?_)
  obtain ⟨rfl, ht, hR2⟩ := hp2
  refine jg_istore hL.1 dW_1198 (Nat.le_of_ble_eq_true rfl) ?_
  refine jg_aload_n hL.1 dW_1200 rfl rfl ?_
  refine l_callR (np := 0) (As := []) hL (x_thrown 0 _) (by decide) (by decide) rfl ⟨wmL_88, wi_yX12_thrown, wv_yX12_thrown, wzX12, wc_yX12_thrown⟩ hy_yX12_thrown rfl (Nat.le_of_ble_eq_true rfl) hnk dW_1201 (fun rv3 τ3 hp3 => ?_)
  obtain ⟨rfl, rfl⟩ := hp3
  refine jg_iload hL.1 dW_1204 rfl ?_
  refine jg_icmp_eq (tgt := 1211) hL.1 dW_1206 (by decide) (fun h => ?_) (fun h => absurd (ht.trans hr.symm) h)
  refine jg_iload hL.1 dW_1211 rfl ?_
  refine jg_if_ne (tgt := 1228) hL.1 dW_1213 (by decide) (fun h0 => ?_) (fun h0 => ?_)
  · refine jg_goto (tgt := 1343) hL.1 dW_1228 (by decide) ?_
    exact jg_ls l_fg (K M _ _ v' ck (n + 1) (k + 6) hI hM hR2 (by omega) (Nat.le_refl _) (Nat.le_refl _))
  refine jg_aload_n hL.1 dW_1216 rfl rfl ?_
  refine jg_iconst (v := 0) hL.1 dW_1217 (by decide) ?_
  refine l_laload hL dW_1218 ?_
  refine jg_iload hL.1 dW_1219 rfl ?_
  refine jg_i2l hL.1 dW_1221 rfl ?_
  refine jg_lcmp hL.1 dW_1222 ?_
  refine jg_if_eq (tgt := 1228) hL.1 dW_1223 (by decide) (fun h2 => ?_) (fun h2 => absurd (by rw [hv (hr.symm.trans h0)]; exact lg_cmp_rf _) h2)
  refine jg_goto (tgt := 1343) hL.1 dW_1228 (by decide) ?_
  exact jg_ls l_fg (K M _ _ v' ck (n + 1) (k + 6) hI hM hR2 (by omega) (Nat.le_refl _) (Nat.le_refl _))
theorem lc_out (hL : l_C p s m b meth c D ca ae Ex z0 L xs) (hl : l.stackTraces = false) (hT : ∀ U H, Ex U H → xT (cw_A (c_ad z0)) U H) (hXc : ∀ U H, Ex U H → cE (c_ad z0) ae ts U H) (hS : ∀ U H, Ex U H → sX (c_ad z0) ae sk sv ta sf U H) {i ck : Nat} (hi : i + 5 < L) {M : n_M} (hI : LI M ck) (hM : RepC M σ) (hR : RepR M τ) (hck : ck + 5000 < 2147483646) (hnk : n + 1 ≤ 601024 ∧ k + 6 ≤ 7293034) (K : l_K p l e s m b below meth c D ca ae Ex z0 i ck n k) : l_W p l e s m b below meth c D ca ae Ex z0 1231 (l_LS b z0 i) [] (σ, τ, v, n, k) := by
  refine jg_aload_n hL.1 dW_1231 rfl rfl ?_
  refine l_arg (i := i) (j := 1) hL rfl rfl (by omega) rfl dW_1232 dW_1233 dW_1235 dW_1236 dW_1237 ?_
  refine jg_aload_n hL.1 dW_1238 rfl rfl ?_
  refine l_callH (np := 3) (As := [.ref z0, .int (xs (i + 1)), .ref (z0 + 228)]) hL (hl_out hl hT hL.2.2.1 (xs (i + 1)) M σ v hM) (by decide) ⟨wmL_149, ws_yL_out, wzL, wcw_out⟩ hy_yL_out rfl (Nat.le_of_ble_eq_true rfl) hnk dW_1239 (fun r σ' v' hpo => ?_)
  obtain ⟨hr, hv, rfl⟩ := hpo
  refine jg_istore hL.1 dW_1242 (Nat.le_of_ble_eq_true rfl) ?_
  refine jg_aload_n hL.1 dW_1244 rfl rfl ?_
  refine l_arg (i := i) (j := 1) hL rfl rfl (by omega) rfl dW_1245 dW_1246 dW_1248 dW_1249 dW_1250 ?_
  refine l_callR (np := 1) (As := [.int (xs (i + 1))]) hL (x_out 0 (xs (i + 1)) M τ hR) (by decide) (by decide) rfl ⟨wmL_151, wi_yX12_out, wv_yX12_out, wzX12, wc_yX12_out⟩ hy_yX12_out rfl (Nat.le_of_ble_eq_true rfl) hnk dW_1251 (fun rv2 τ2 hp2 => ?_)
  obtain ⟨rfl, ht, hR2⟩ := hp2
  refine jg_istore hL.1 dW_1254 (Nat.le_of_ble_eq_true rfl) ?_
  refine jg_aload_n hL.1 dW_1256 rfl rfl ?_
  refine l_callR (np := 0) (As := []) hL (x_thrown 0 _) (by decide) (by decide) rfl ⟨wmL_88, wi_yX12_thrown, wv_yX12_thrown, wzX12, wc_yX12_thrown⟩ hy_yX12_thrown rfl (Nat.le_of_ble_eq_true rfl) hnk dW_1257 (fun rv3 τ3 hp3 => ?_)
  obtain ⟨rfl, rfl⟩ := hp3
  refine jg_iload hL.1 dW_1260 rfl ?_
  refine jg_icmp_eq (tgt := 1267) hL.1 dW_1262 (by decide) (fun h => ?_) (fun h => absurd (ht.trans hr.symm) h)
  refine jg_iload hL.1 dW_1267 rfl ?_
  refine jg_if_ne (tgt := 1284) hL.1 dW_1269 (by decide) (fun h0 => ?_) (fun h0 => ?_)
  · refine jg_goto (tgt := 1343) hL.1 dW_1284 (by decide) ?_
    exact jg_ls l_fg (K M _ _ v' ck (n + 1) (k + 6) hI hM hR2 (by omega) (Nat.le_refl _) (Nat.le_refl _))
  refine jg_aload_n hL.1 dW_1272 rfl rfl ?_
  refine jg_iconst (v := 0) hL.1 dW_1273 (by decide) ?_
  refine l_laload hL dW_1274 ?_
  refine jg_iload hL.1 dW_1275 rfl ?_
  refine jg_i2l hL.1 dW_1277 rfl ?_
  refine jg_lcmp hL.1 dW_1278 ?_
  refine jg_if_eq (tgt := 1284) hL.1 dW_1279 (by decide) (fun h2 => ?_) (fun h2 => absurd (by rw [hv (hr.symm.trans h0)]; exact lg_cmp_rf _) h2)
  refine jg_goto (tgt := 1343) hL.1 dW_1284 (by decide) ?_
  exact jg_ls l_fg (K M _ _ v' ck (n + 1) (k + 6) hI hM hR2 (by omega) (Nat.le_refl _) (Nat.le_refl _))
theorem lc_count (hL : l_C p s m b meth c D ca ae Ex z0 L xs) (hl : l.stackTraces = false) (hT : ∀ U H, Ex U H → xT (cw_A (c_ad z0)) U H) (hXc : ∀ U H, Ex U H → cE (c_ad z0) ae ts U H) (hS : ∀ U H, Ex U H → sX (c_ad z0) ae sk sv ta sf U H) {i ck : Nat} (hi : i + 5 < L) {M : n_M} (hI : LI M ck) (hM : RepC M σ) (hR : RepR M τ) (hck : ck + 5000 < 2147483646) (hnk : n + 1 ≤ 601024 ∧ k + 6 ≤ 7293034) (K : l_K p l e s m b below meth c D ca ae Ex z0 i ck n k) : l_W p l e s m b below meth c D ca ae Ex z0 1287 (l_LS b z0 i) [] (σ, τ, v, n, k) := by
  refine jg_aload_n hL.1 dW_1287 rfl rfl ?_
  refine l_arg (i := i) (j := 1) hL rfl rfl (by omega) rfl dW_1288 dW_1289 dW_1291 dW_1292 dW_1293 ?_
  refine jg_aload_n hL.1 dW_1294 rfl rfl ?_
  refine l_callH (np := 3) (As := [.ref z0, .int (xs (i + 1)), .ref (z0 + 228)]) hL (hl_count hl hT hL.2.2.1 (xs (i + 1)) M σ v hM hI.1) (by decide) ⟨wmL_152, ws_yL_count, wzL, wcw_count⟩ hy_yL_count rfl (Nat.le_of_ble_eq_true rfl) hnk dW_1295 (fun r σ' v' hpo => ?_)
  obtain ⟨hr, hv, rfl⟩ := hpo
  refine jg_istore hL.1 dW_1298 (Nat.le_of_ble_eq_true rfl) ?_
  refine jg_aload_n hL.1 dW_1300 rfl rfl ?_
  refine l_arg (i := i) (j := 1) hL rfl rfl (by omega) rfl dW_1301 dW_1302 dW_1304 dW_1305 dW_1306 ?_
  refine l_callR (np := 1) (As := [.int (xs (i + 1))]) hL (x_count 0 (xs (i + 1)) M τ hR hI.1.2.1 (fun i hi hu => (hI.1.2.2.2.2.2 i hi hu).2.1)) (by decide) (by decide) rfl ⟨wmL_154, wi_yX12_count, wv_yX12_count, wzX12, wc_yX12_count⟩ hy_yX12_count rfl (Nat.le_of_ble_eq_true rfl) hnk dW_1307 (fun rv2 τ2 hp2 => ?_)
  obtain ⟨rfl, ht, hR2⟩ := hp2
  refine jg_istore hL.1 dW_1310 (Nat.le_of_ble_eq_true rfl) ?_
  refine jg_aload_n hL.1 dW_1312 rfl rfl ?_
  refine l_callR (np := 0) (As := []) hL (x_thrown 0 _) (by decide) (by decide) rfl ⟨wmL_88, wi_yX12_thrown, wv_yX12_thrown, wzX12, wc_yX12_thrown⟩ hy_yX12_thrown rfl (Nat.le_of_ble_eq_true rfl) hnk dW_1313 (fun rv3 τ3 hp3 => ?_)
  obtain ⟨rfl, rfl⟩ := hp3
  refine jg_iload hL.1 dW_1316 rfl ?_
  refine jg_icmp_eq (tgt := 1323) hL.1 dW_1318 (by decide) (fun h => ?_) (fun h => absurd (ht.trans hr.symm) h)
  refine jg_iload hL.1 dW_1323 rfl ?_
  refine jg_if_ne (tgt := 1340) hL.1 dW_1325 (by decide) (fun h0 => ?_) (fun h0 => ?_)
  · refine jg_goto (tgt := 1343) hL.1 dW_1340 (by decide) ?_
    exact jg_ls l_fg (K M _ _ v' ck (n + 1) (k + 6) hI hM hR2 (by omega) (Nat.le_refl _) (Nat.le_refl _))
  refine jg_aload_n hL.1 dW_1328 rfl rfl ?_
  refine jg_iconst (v := 0) hL.1 dW_1329 (by decide) ?_
  refine l_laload hL dW_1330 ?_
  refine jg_iload hL.1 dW_1331 rfl ?_
  refine jg_i2l hL.1 dW_1333 rfl ?_
  refine jg_lcmp hL.1 dW_1334 ?_
  refine jg_if_eq (tgt := 1340) hL.1 dW_1335 (by decide) (fun h2 => ?_) (fun h2 => absurd (by rw [hv (hr.symm.trans h0)]; exact lg_cmp_rf _) h2)
  refine jg_goto (tgt := 1343) hL.1 dW_1340 (by decide) ?_
  exact jg_ls l_fg (K M _ _ v' ck (n + 1) (k + 6) hI hM hR2 (by omega) (Nat.le_refl _) (Nat.le_refl _))
end LC
