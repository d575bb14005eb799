def r_fr (τ0 τ : n_S) : Prop := (∀ x, τ 11 0 x = τ0 11 0 x) ∧ τ 0 0 52 = τ0 0 0 52 ∧ τ 0 0 2 = τ0 0 0 2
def RQ (τ0 : n_S) (M : n_M) (τ : n_S) : Prop := RepQ M τ ∧ r_fr τ0 τ
theorem RQ.up {τ0 τ τ' : n_S} {M M' : n_M} (h : RQ τ0 M τ) (h1 : RepC M' (r_v M' τ')) (h4 : ∀ p, n_V p → M'.1 4 p = M.1 4 p) (h12 : ∀ i, i < 12 → M'.1 12 i = M.1 12 i) (hl : ∀ c i, 10 ≤ c → M'.2 c i = M.2 c i) (ht : ∀ κ x, r_pk κ x ∨ κ = 11 ∨ (κ = 0 ∧ (x = 52 ∨ x = 2)) → τ' κ 0 x = τ κ 0 x) : RQ τ0 M' τ' := by
  refine ⟨⟨h1, RY_cong h.1.2 h4 h12 (fun i _ => hl 12 i (by omega)) (fun i _ => hl 13 i (by omega)) (hl 10 0 (by omega)) (hl 11 0 (by omega)) (fun κ x hk => ht κ x (Or.inl hk))⟩, fun x => ?_, ?_, ?_⟩
  · rw [ht 11 x (Or.inr (Or.inl rfl))]; exact h.2.1 x
  · rw [ht 0 52 (Or.inr (Or.inr ⟨rfl, Or.inl rfl⟩))]; exact h.2.2.1
  · rw [ht 0 2 (Or.inr (Or.inr ⟨rfl, Or.inr rfl⟩))]; exact h.2.2.2
theorem n_up_o {τ : n_S} {κ x κ' x' : Nat} {v : Int32} (h : ¬ (κ' = κ ∧ x' = x)) : n_up τ κ 0 x v κ' 0 x' = τ κ' 0 x' := by
  rw [n_up_k, if_neg (fun z => h ⟨z.1, z.2.2⟩)]
theorem n_up_e (τ : n_S) (κ x : Nat) (v : Int32) : n_up τ κ 0 x v κ 0 x = v := by
  rw [n_up_k, if_pos ⟨rfl, rfl, rfl⟩]
theorem nI_mulL (a b : Nat) : nI a * nI b = nI (a * b) := by
  unfold nI
  rw [← Int32.ofNat_mul]
theorem nI_subL {a b : Nat} (h : b ≤ a) : nI a - nI b = nI (a - b) := by
  have : nI a = nI (a - b) + nI b := by rw [nI_add, Nat.sub_add_cancel h]
  rw [this]
  grind
theorem rq_0 {τ0 τ : n_S} {M : n_M} {i : Nat} {v : Int32} (h : RQ τ0 M τ) (hi : n_V i) : RQ τ0 (m_s M 0 i v) (n_up τ 20 0 i v) :=
  h.up (rs_0 h.1.1 hi) (fun _ _ => ms_n (by omega)) (fun _ _ => ms_n (by omega)) (fun _ _ _ => rfl) (fun κ x hk => n_up_o (by unfold r_pk at hk; omega))
theorem rq_1 {τ0 τ : n_S} {M : n_M} {i : Nat} {v : Int32} (h : RQ τ0 M τ) (hi : n_V i) : RQ τ0 (m_s M 1 i v) (n_up τ 21 0 i v) :=
  h.up (rs_1 h.1.1 hi) (fun _ _ => ms_n (by omega)) (fun _ _ => ms_n (by omega)) (fun _ _ _ => rfl) (fun κ x hk => n_up_o (by unfold r_pk at hk; omega))
theorem rq_2 {τ0 τ : n_S} {M : n_M} {i : Nat} {v : Int32} (h : RQ τ0 M τ) (hi : n_V i) : RQ τ0 (m_s M 2 i v) (n_up τ 22 0 i v) :=
  h.up (rs_2 h.1.1 hi) (fun _ _ => ms_n (by omega)) (fun _ _ => ms_n (by omega)) (fun _ _ _ => rfl) (fun κ x hk => n_up_o (by unfold r_pk at hk; omega))
theorem rq_3 {τ0 τ : n_S} {M : n_M} {i : Nat} {v : Int32} (h : RQ τ0 M τ) (hi : n_V i) : RQ τ0 (m_s M 3 i v) (n_up τ 23 0 i v) :=
  h.up (rs_3 h.1.1 hi) (fun _ _ => ms_n (by omega)) (fun _ _ => ms_n (by omega)) (fun _ _ _ => rfl) (fun κ x hk => n_up_o (by unfold r_pk at hk; omega))
theorem rq_5 {τ0 τ : n_S} {M : n_M} {i : Nat} {v : Int32} (h : RQ τ0 M τ) (hi : n_V i) : RQ τ0 (m_s M 5 i v) (n_up τ 25 0 i v) :=
  h.up (rs_5 h.1.1 hi) (fun _ _ => ms_n (by omega)) (fun _ _ => ms_n (by omega)) (fun _ _ _ => rfl) (fun κ x hk => n_up_o (by unfold r_pk at hk; omega))
theorem rq_6 {τ0 τ : n_S} {M : n_M} {i : Nat} {v : Int32} (h : RQ τ0 M τ) (hi : n_V i) : RQ τ0 (m_s M 6 i v) (n_up τ 35 0 i v) :=
  h.up (rs_6 h.1.1 hi) (fun _ _ => ms_n (by omega)) (fun _ _ => ms_n (by omega)) (fun _ _ _ => rfl) (fun κ x hk => n_up_o (by unfold r_pk at hk; omega))
theorem rq_7 {τ0 τ : n_S} {M : n_M} {i : Nat} {v : Int32} (h : RQ τ0 M τ) (hi : n_V i) : RQ τ0 (m_s M 7 i v) (n_up τ 36 0 i v) :=
  h.up (rs_7 h.1.1 hi) (fun _ _ => ms_n (by omega)) (fun _ _ => ms_n (by omega)) (fun _ _ _ => rfl) (fun κ x hk => n_up_o (by unfold r_pk at hk; omega))
theorem rq_8 {τ0 τ : n_S} {M : n_M} {i : Nat} {v : Int32} (h : RQ τ0 M τ) (hi : n_V i) : RQ τ0 (m_s M 8 i v) (n_up τ 37 0 i v) :=
  h.up (rs_8 h.1.1 hi) (fun _ _ => ms_n (by omega)) (fun _ _ => ms_n (by omega)) (fun _ _ _ => rfl) (fun κ x hk => n_up_o (by unfold r_pk at hk; omega))
theorem rq_9 {τ0 τ : n_S} {M : n_M} {i : Nat} {v : Int32} (h : RQ τ0 M τ) (hi : i < 8) : RQ τ0 (m_s M 9 i v) (n_up τ 42 0 i v) :=
  h.up (rs_9 h.1.1 hi) (fun _ _ => ms_n (by omega)) (fun _ _ => ms_n (by omega)) (fun _ _ _ => rfl) (fun κ x hk => n_up_o (by unfold r_pk at hk; omega))
theorem rq_10 {τ0 τ : n_S} {M : n_M} {i : Nat} {v : Int32} (h : RQ τ0 M τ) (hi : i < 1024) : RQ τ0 (m_s M 10 i v) (n_up τ 45 0 i v) :=
  h.up (rs_10 h.1.1 hi) (fun _ _ => ms_n (by omega)) (fun _ _ => ms_n (by omega)) (fun _ _ _ => rfl) (fun κ x hk => n_up_o (by unfold r_pk at hk; omega))
theorem rq_15 {τ0 τ : n_S} {M : n_M} {i : Nat} {v : Int32} (h : RQ τ0 M τ) (hi : i = 0) : RQ τ0 (m_s M 15 i v) (n_up τ 0 0 39 v) :=
  h.up (rs_15 h.1.1 hi) (fun _ _ => ms_n (by omega)) (fun _ _ => ms_n (by omega)) (fun _ _ _ => rfl) (fun κ x hk => n_up_o (by unfold r_pk at hk; omega))
theorem rq_16 {τ0 τ : n_S} {M : n_M} {i : Nat} {v : Int32} (h : RQ τ0 M τ) (hi : i = 0) : RQ τ0 (m_s M 16 i v) (n_up τ 0 0 40 v) :=
  h.up (rs_16 h.1.1 hi) (fun _ _ => ms_n (by omega)) (fun _ _ => ms_n (by omega)) (fun _ _ _ => rfl) (fun κ x hk => n_up_o (by unfold r_pk at hk; omega))
theorem rq_17 {τ0 τ : n_S} {M : n_M} {i : Nat} {v : Int32} (h : RQ τ0 M τ) (hi : i = 0) : RQ τ0 (m_s M 17 i v) (n_up τ 0 0 5 v) :=
  h.up (rs_17 h.1.1 hi) (fun _ _ => ms_n (by omega)) (fun _ _ => ms_n (by omega)) (fun _ _ _ => rfl) (fun κ x hk => n_up_o (by unfold r_pk at hk; omega))
theorem rq_18 {τ0 τ : n_S} {M : n_M} {i : Nat} {v : Int32} (h : RQ τ0 M τ) (hi : i = 0) : RQ τ0 (m_s M 18 i v) (n_up τ 0 0 51 v) :=
  h.up (rs_18 h.1.1 hi) (fun _ _ => ms_n (by omega)) (fun _ _ => ms_n (by omega)) (fun _ _ _ => rfl) (fun κ x hk => n_up_o (by unfold r_pk at hk; omega))
theorem rql_0 {τ0 τ τ' : n_S} {M : n_M} {i : Nat} {l0 : List Int32} (h : RQ τ0 M τ) (hi : n_V i) (ht : ∀ κ x, ¬ (κ = 26 ∧ x = i) → ¬ (κ = 27 ∧ 40 * i ≤ x ∧ x < 40 * i + 40) → τ' κ 0 x = τ κ 0 x) (hn : τ' 26 0 i = nI l0.length) (hl : l0.length ≤ 40) (hh : ∀ j, j < l0.length → τ' 27 0 (40 * i + j) = l0.getD j 0) : RQ τ0 (m_l M 0 i l0) τ' :=
  h.up (rl_0 h.1.1 hi ht hn hl hh) (fun _ _ => rfl) (fun _ _ => rfl) (fun c i hc => ml_n (by omega)) (fun κ x hk => ht κ x (by unfold r_pk at hk; omega) (by unfold r_pk at hk; omega))
theorem rql_1 {τ0 τ τ' : n_S} {M : n_M} {i : Nat} {l0 : List Int32} (h : RQ τ0 M τ) (hi : n_V i) (ht : ∀ κ x, ¬ (κ = 28 ∧ x = i) → ¬ (κ = 29 ∧ 20 * i ≤ x ∧ x < 20 * i + 20) → τ' κ 0 x = τ κ 0 x) (hn : τ' 28 0 i = nI l0.length) (hl : l0.length ≤ 20) (hh : ∀ j, j < l0.length → τ' 29 0 (20 * i + j) = l0.getD j 0) : RQ τ0 (m_l M 1 i l0) τ' :=
  h.up (rl_1 h.1.1 hi ht hn hl hh) (fun _ _ => rfl) (fun _ _ => rfl) (fun c i hc => ml_n (by omega)) (fun κ x hk => ht κ x (by unfold r_pk at hk; omega) (by unfold r_pk at hk; omega))
theorem rql_2 {τ0 τ τ' : n_S} {M : n_M} {q : Nat} {l0 l1 : List Int32} (h : RQ τ0 M τ) (hq : n_V q) (ht : ∀ κ x, ¬ (κ = 30 ∧ x = q) → ¬ (κ = 31 ∧ 8 * q ≤ x ∧ x < 8 * q + 8) → ¬ (κ = 32 ∧ 8 * q ≤ x ∧ x < 8 * q + 8) → τ' κ 0 x = τ κ 0 x) (hn : τ' 30 0 q = nI l0.length) (hl : l0.length ≤ 8) (he : l1.length = l0.length) (hh : ∀ j, j < l0.length → τ' 31 0 (8 * q + j) = l0.getD j 0) (hk : ∀ j, j < l1.length → τ' 32 0 (8 * q + j) = l1.getD j 0) : RQ τ0 (m_l (m_l M 2 (2 * q) l0) 3 (2 * q) l1) τ' :=
  h.up (rl_2 h.1.1 hq ht hn hl he hh hk) (fun _ _ => rfl) (fun _ _ => rfl) (fun c i hc => (ml_n (by omega)).trans (ml_n (by omega))) (fun κ x hk => ht κ x (by unfold r_pk at hk; omega) (by unfold r_pk at hk; omega) (by unfold r_pk at hk; omega))
theorem rql_k {τ0 τ τ' : n_S} {M : n_M} {q : Nat} {l0 l1 : List Int32} (h : RQ τ0 M τ) (hq : n_V q) (ht : ∀ κ x, ¬ (κ = 33 ∧ x = q) → ¬ (κ = 34 ∧ 8 * q ≤ x ∧ x < 8 * q + 8) → τ' κ 0 x = τ κ 0 x) (hn : τ' 33 0 q = nI l0.length) (hl : l0.length ≤ 8) (he : l1.length = l0.length) (hh : ∀ j, j < l0.length → τ' 34 0 (8 * q + j) = l0.getD j 0) : RQ τ0 (m_l (m_l M 2 (2 * q + 1) l0) 3 (2 * q + 1) l1) τ' :=
  h.up (rl_k h.1.1 hq ht hn hl he hh) (fun _ _ => rfl) (fun _ _ => rfl) (fun c i hc => (ml_n (by omega)).trans (ml_n (by omega))) (fun κ x hk => ht κ x (by unfold r_pk at hk; omega) (by unfold r_pk at hk; omega))
theorem rql_5 {τ0 τ τ' : n_S} {M : n_M} {i : Nat} {l0 : List Int32} (h : RQ τ0 M τ) (hi : i < 3) (ht : ∀ κ x, ¬ (κ = 39 ∧ x = i) → ¬ (κ = 38 ∧ 13 * i ≤ x ∧ x < 13 * i + 13) → τ' κ 0 x = τ κ 0 x) (hn : τ' 39 0 i = nI l0.length) (hl : l0.length ≤ 12) (hh : ∀ j, j < l0.length → τ' 38 0 (13 * i + j) = l0.getD j 0) : RQ τ0 (m_l M 5 i l0) τ' :=
  h.up (rl_5 h.1.1 hi ht hn hl hh) (fun _ _ => rfl) (fun _ _ => rfl) (fun c i hc => ml_n (by omega)) (fun κ x hk => ht κ x (by unfold r_pk at hk; omega) (by unfold r_pk at hk; omega))
theorem rql_q {τ0 τ τ' : n_S} {M : n_M} {k0 : Nat} {l0 : List Int32} (h : RQ τ0 M τ) (hi : k0 < 8) (ht : ∀ κ x, ¬ (κ = 44 ∧ x = k0) → ¬ (κ = 43 ∧ 13 * k0 ≤ x ∧ x < 13 * k0 + 13) → τ' κ 0 x = τ κ 0 x) (hn : τ' 44 0 k0 = nI l0.length) (hl : l0.length ≤ 12) (hh : ∀ j, j < l0.length → τ' 43 0 (13 * k0 + j) = l0.getD j 0) : RQ τ0 (m_l M 5 (k0 + 3) l0) τ' :=
  h.up (rl_q h.1.1 hi ht hn hl hh) (fun _ _ => rfl) (fun _ _ => rfl) (fun c i hc => ml_n (by omega)) (fun κ x hk => ht κ x (by unfold r_pk at hk; omega) (by unfold r_pk at hk; omega))
theorem rql_7 {τ0 τ τ' : n_S} {M : n_M} {l0 : List Int32} (h : RQ τ0 M τ)  (ht : ∀ κ x, ¬ (κ = 0 ∧ x = 50) → ¬ (κ = 50) → τ' κ 0 x = τ κ 0 x) (hn : τ' 0 0 50 = nI l0.length) (hl : l0.length ≤ 2000) (hh : ∀ j, j < l0.length → τ' 50 0 j = l0.getD j 0) : RQ τ0 (m_l M 7 0 l0) τ' :=
  h.up (rl_7 h.1.1  ht hn hl hh) (fun _ _ => rfl) (fun _ _ => rfl) (fun c i hc => ml_n (by omega)) (fun κ x hk => ht κ x (by unfold r_pk at hk; omega) (by unfold r_pk at hk; omega))
theorem rql_8 {τ0 τ τ' : n_S} {M : n_M} {l0 : List Int32} (h : RQ τ0 M τ)  (ht : ∀ κ x, ¬ (κ = 0 ∧ x = 4) → ¬ (κ = 4) → τ' κ 0 x = τ κ 0 x) (hn : τ' 0 0 4 = nI l0.length) (hl : l0.length ≤ 8192) (hh : ∀ j, j < l0.length → τ' 4 0 j = l0.getD j 0) : RQ τ0 (m_l M 8 0 l0) τ' :=
  h.up (rl_8 h.1.1  ht hn hl hh) (fun _ _ => rfl) (fun _ _ => rfl) (fun c i hc => ml_n (by omega)) (fun κ x hk => ht κ x (by unfold r_pk at hk; omega) (by unfold r_pk at hk; omega))
theorem RQ.status {τ0 τ : n_S} {M : n_M} (h : RQ τ0 M τ) {i : Nat} (hi : n_V i) : τ 20 0 i = M.1 0 i := h.1.1.1 0 i hi
theorem RQ.codes {τ0 τ : n_S} {M : n_M} (h : RQ τ0 M τ) {i : Nat} (hi : n_V i) : τ 21 0 i = M.1 1 i := h.1.1.1 1 i hi
theorem RQ.level {τ0 τ : n_S} {M : n_M} (h : RQ τ0 M τ) {i : Nat} (hi : n_V i) : τ 22 0 i = M.1 2 i := h.1.1.1 2 i hi
theorem RQ.parent {τ0 τ : n_S} {M : n_M} (h : RQ τ0 M τ) {i : Nat} (hi : n_V i) : τ 23 0 i = M.1 3 i := h.1.1.1 3 i hi
theorem RQ.next {τ0 τ : n_S} {M : n_M} (h : RQ τ0 M τ) {i : Nat} (hi : n_V i) : τ 25 0 i = M.1 5 i := h.1.1.1 5 i hi
theorem RQ.did {τ0 τ : n_S} {M : n_M} (h : RQ τ0 M τ) {i : Nat} (hi : n_V i) : τ 35 0 i = M.1 6 i := h.1.1.1 6 i hi
theorem RQ.waits {τ0 τ : n_S} {M : n_M} (h : RQ τ0 M τ) {i : Nat} (hi : n_V i) : τ 36 0 i = M.1 7 i := h.1.1.1 7 i hi
theorem RQ.inRow {τ0 τ : n_S} {M : n_M} (h : RQ τ0 M τ) {i : Nat} (hi : n_V i) : τ 37 0 i = M.1 8 i := h.1.1.1 8 i hi
theorem RQ.values {τ0 τ : n_S} {M : n_M} (h : RQ τ0 M τ) {i : Nat} (hi : i < 8) : τ 42 0 i = M.1 9 i := h.1.1.1 9 i hi
theorem RQ.cells {τ0 τ : n_S} {M : n_M} (h : RQ τ0 M τ) {i : Nat} (hi : i < 1024) : τ 45 0 i = M.1 10 i := h.1.1.1 10 i hi
theorem RQ.clock {τ0 τ : n_S} {M : n_M} (h : RQ τ0 M τ) : τ 0 0 39 = M.1 15 0 := h.1.1.1 15 0 rfl
theorem RQ.quantum {τ0 τ : n_S} {M : n_M} (h : RQ τ0 M τ) : τ 0 0 40 = M.1 16 0 := h.1.1.1 16 0 rfl
theorem RQ.fault {τ0 τ : n_S} {M : n_M} (h : RQ τ0 M τ) : τ 0 0 5 = M.1 17 0 := h.1.1.1 17 0 rfl
theorem RQ.lost {τ0 τ : n_S} {M : n_M} (h : RQ τ0 M τ) : τ 0 0 51 = M.1 18 0 := h.1.1.1 18 0 rfl
theorem RQ.stk {τ0 τ : n_S} {M : n_M} (h : RQ τ0 M τ) {i : Nat} (hi : n_V i) : τ 26 0 i = nI (M.2 0 i).length ∧ (M.2 0 i).length ≤ 40 ∧ ∀ j, j < (M.2 0 i).length → τ 27 0 (40 * i + j) = (M.2 0 i).getD j 0 := by
  obtain ⟨g1, g2, g3⟩ := h.1.1.2 0 i hi
  refine ⟨g2, g1, fun j hj => ?_⟩
  have := g3 j hj
  have g1 : (M.2 0 i).length ≤ 40 := g1
  have this : (if j < 40 then τ 27 0 (40 * i + j) else 0) = (M.2 0 i).getD j 0 := this
  rw [if_pos (by omega)] at this
  exact this
theorem RQ.ret {τ0 τ : n_S} {M : n_M} (h : RQ τ0 M τ) {i : Nat} (hi : n_V i) : τ 28 0 i = nI (M.2 1 i).length ∧ (M.2 1 i).length ≤ 20 ∧ ∀ j, j < (M.2 1 i).length → τ 29 0 (20 * i + j) = (M.2 1 i).getD j 0 := by
  obtain ⟨g1, g2, g3⟩ := h.1.1.2 1 i hi
  refine ⟨g2, g1, fun j hj => ?_⟩
  have := g3 j hj
  have g1 : (M.2 1 i).length ≤ 20 := g1
  have this : (if j < 20 then τ 29 0 (20 * i + j) else 0) = (M.2 1 i).getD j 0 := this
  rw [if_pos (by omega)] at this
  exact this
theorem RQ.box {τ0 τ : n_S} {M : n_M} (h : RQ τ0 M τ) {q : Nat} (hq : n_V q) : τ 30 0 q = nI (M.2 2 (2 * q)).length ∧ (M.2 2 (2 * q)).length ≤ 8 ∧ ∀ j, j < (M.2 2 (2 * q)).length → τ 31 0 (8 * q + j) = (M.2 2 (2 * q)).getD j 0 := by
  have hv : m_vL 2 (2 * q) := by
    show 2 ≤ 2 * q ∧ 2 * q ≤ 25
    obtain ⟨h1, h2⟩ := hq
    omega
  have e2 : (2 * q) / 2 = q := by omega
  have e1 : (2 * q) % 2 = 0 := by omega
  obtain ⟨g1, g2, g3⟩ := h.1.1.2 2 (2 * q) hv
  have g1 : (M.2 2 (2 * q)).length ≤ 8 := g1
  have g2 : (if 2 = 2 then (if (2 * q) % 2 = 0 then τ 30 0 ((2 * q) / 2) else τ 33 0 ((2 * q) / 2)) else 0) = nI (M.2 2 (2 * q)).length := g2
  rw [if_pos rfl, if_pos e1, e2] at g2
  refine ⟨g2, g1, fun j hj => ?_⟩
  have g4 := g3 j hj
  have g4 : (if j < 8 then (if (2 * q) % 2 = 0 then τ 31 0 (8 * ((2 * q) / 2) + j) else τ 34 0 (8 * ((2 * q) / 2) + j)) else 0) = (M.2 2 (2 * q)).getD j 0 := g4
  rw [if_pos (by omega), if_pos e1, e2] at g4
  exact g4
theorem RQ.who {τ0 τ : n_S} {M : n_M} (h : RQ τ0 M τ) {q : Nat} (hq : n_V q) : τ 30 0 q = nI (M.2 3 (2 * q)).length ∧ (M.2 3 (2 * q)).length ≤ 8 ∧ ∀ j, j < (M.2 3 (2 * q)).length → τ 32 0 (8 * q + j) = (M.2 3 (2 * q)).getD j 0 := by
  have hv : m_vL 3 (2 * q) := by
    show 2 ≤ 2 * q ∧ 2 * q ≤ 25
    obtain ⟨h1, h2⟩ := hq
    omega
  have e2 : (2 * q) / 2 = q := by omega
  have e1 : (2 * q) % 2 = 0 := by omega
  obtain ⟨g1, g2, g3⟩ := h.1.1.2 3 (2 * q) hv
  have g1 : (M.2 3 (2 * q)).length ≤ 8 := g1
  have g2 : (if 2 = 2 then (if (2 * q) % 2 = 0 then τ 30 0 ((2 * q) / 2) else τ 33 0 ((2 * q) / 2)) else 0) = nI (M.2 3 (2 * q)).length := g2
  rw [if_pos rfl, if_pos e1, e2] at g2
  refine ⟨g2, g1, fun j hj => ?_⟩
  have g4 := g3 j hj
  have g4 : (if j < 8 then (if (2 * q) % 2 = 0 then τ 32 0 (8 * ((2 * q) / 2) + j) else (M.2 3 (2 * q)).getD j 0) else 0) = (M.2 3 (2 * q)).getD j 0 := g4
  rw [if_pos (by omega), if_pos e1, e2] at g4
  exact g4
theorem RQ.key {τ0 τ : n_S} {M : n_M} (h : RQ τ0 M τ) {q : Nat} (hq : n_V q) : τ 33 0 q = nI (M.2 2 (2 * q + 1)).length ∧ (M.2 2 (2 * q + 1)).length ≤ 8 ∧ ∀ j, j < (M.2 2 (2 * q + 1)).length → τ 34 0 (8 * q + j) = (M.2 2 (2 * q + 1)).getD j 0 := by
  have hv : m_vL 2 (2 * q + 1) := by
    show 2 ≤ 2 * q + 1 ∧ 2 * q + 1 ≤ 25
    obtain ⟨h1, h2⟩ := hq
    omega
  have e2 : (2 * q + 1) / 2 = q := by omega
  have e1 : ¬ (2 * q + 1) % 2 = 0 := by omega
  obtain ⟨g1, g2, g3⟩ := h.1.1.2 2 (2 * q + 1) hv
  have g1 : (M.2 2 (2 * q + 1)).length ≤ 8 := g1
  have g2 : (if 2 = 2 then (if (2 * q + 1) % 2 = 0 then τ 30 0 ((2 * q + 1) / 2) else τ 33 0 ((2 * q + 1) / 2)) else 0) = nI (M.2 2 (2 * q + 1)).length := g2
  rw [if_pos rfl, if_neg e1, e2] at g2
  refine ⟨g2, g1, fun j hj => ?_⟩
  have g4 := g3 j hj
  have g4 : (if j < 8 then (if (2 * q + 1) % 2 = 0 then τ 31 0 (8 * ((2 * q + 1) / 2) + j) else τ 34 0 (8 * ((2 * q + 1) / 2) + j)) else 0) = (M.2 2 (2 * q + 1)).getD j 0 := g4
  rw [if_pos (by omega), if_neg e1, e2] at g4
  exact g4
theorem RQ.row {τ0 τ : n_S} {M : n_M} (h : RQ τ0 M τ) {i : Nat} (hi : i < 3) : τ 39 0 i = nI (M.2 5 i).length ∧ (M.2 5 i).length ≤ 12 ∧ ∀ j, j < (M.2 5 i).length → τ 38 0 (13 * i + j) = (M.2 5 i).getD j 0 := by
  have hv : m_vL 5 i := by show i < 11; omega
  obtain ⟨g1, g2, g3⟩ := h.1.1.2 5 i hv
  have g1 : (M.2 5 i).length ≤ 12 := g1
  have g2 : (if 1 = 1 then (if i < 3 then τ 39 0 i else τ 44 0 (i - 3)) else 0) = nI (M.2 5 i).length := g2
  rw [if_pos rfl, if_pos hi] at g2
  refine ⟨g2, g1, fun j hj => ?_⟩
  have g4 : (if j < 13 then (if i < 3 then τ 38 0 (13 * i + j) else τ 43 0 (13 * (i - 3) + j)) else 0) = (M.2 5 i).getD j 0 := g3 j hj
  rw [if_pos (by omega), if_pos hi] at g4
  exact g4
theorem RQ.que {τ0 τ : n_S} {M : n_M} (h : RQ τ0 M τ) {i : Nat} (hi : i < 8) : τ 44 0 i = nI (M.2 5 (i + 3)).length ∧ (M.2 5 (i + 3)).length ≤ 12 ∧ ∀ j, j < (M.2 5 (i + 3)).length → τ 43 0 (13 * i + j) = (M.2 5 (i + 3)).getD j 0 := by
  have hv : m_vL 5 (i + 3) := by show i + 3 < 11; omega
  have e3 : i + 3 - 3 = i := by omega
  obtain ⟨g1, g2, g3⟩ := h.1.1.2 5 (i + 3) hv
  have g1 : (M.2 5 (i + 3)).length ≤ 12 := g1
  have g2 : (if 1 = 1 then (if i + 3 < 3 then τ 39 0 (i + 3) else τ 44 0 (i + 3 - 3)) else 0) = nI (M.2 5 (i + 3)).length := g2
  rw [if_pos rfl, if_neg (by omega), e3] at g2
  refine ⟨g2, g1, fun j hj => ?_⟩
  have g4 : (if j < 13 then (if i + 3 < 3 then τ 38 0 (13 * (i + 3) + j) else τ 43 0 (13 * (i + 3 - 3) + j)) else 0) = (M.2 5 (i + 3)).getD j 0 := g3 j hj
  rw [if_pos (by omega), if_neg (by omega), e3] at g4
  exact g4
theorem RQ.con {τ0 τ : n_S} {M : n_M} (h : RQ τ0 M τ)   : τ 0 0 50 = nI (M.2 7 0).length ∧ (M.2 7 0).length ≤ 2000 ∧ ∀ j, j < (M.2 7 0).length → τ 50 0 (j) = (M.2 7 0).getD j 0 := by
  obtain ⟨g1, g2, g3⟩ := h.1.1.2 7 0 rfl
  exact ⟨g2, g1, fun j hj => g3 j hj⟩
theorem RQ.tap {τ0 τ : n_S} {M : n_M} (h : RQ τ0 M τ)   : τ 0 0 4 = nI (M.2 8 0).length ∧ (M.2 8 0).length ≤ 8192 ∧ ∀ j, j < (M.2 8 0).length → τ 4 0 (j) = (M.2 8 0).getD j 0 := by
  obtain ⟨g1, g2, g3⟩ := h.1.1.2 8 0 rfl
  exact ⟨g2, g1, fun j hj => g3 j hj⟩
section RA
variable {p : Program} {l : Launch} {e : Env} {s : State} {m : MethodId} {args : Array Value} {below : List Frame} {meth : Method} {c : Code} {D : va_G} {ca : Nat → ClassId} {ad : Nat → Nat → Nat} {Ex : State → Heap → Prop} {d : Nat} {Po : Option Value → n_S → Prop} {cc : ByteArray} {nL : Nat} {own : String} {ret : Option FieldType} {pc : Nat} {ls : List (Option Value)} {rest : List Value} {σ : n_S} {κ n N : Nat} {x : Int32}
theorem r_ld (hC : n_C p s m args meth c (rw D ca ad Ex) cc nL own ret) (hi : rw_dom κ 0) (he : ∀ f, rw_eL ca ad κ f = .inl (ca 0, N, .inl f)) (hN : N < 2 ^ 31) (hn : n < N) (hdg : decode cc pc = .ok (.iaload, 1)) (kk : n_W p l e s m args below meth c (rw D ca ad Ex) d Po (pc + 1) ls (.int (σ κ 0 n) :: rest) σ) : n_W p l e s m args below meth c (rw D ca ad Ex) d Po pc ls (.int (nI n) :: .ref (ad κ 0) :: rest) σ := by
  refine r_iald hC hi he (vp_in_nI hn hN) hdg ?_
  rw [nI_clamp (by omega)]
  exact kk
theorem r_st (hC : n_C p s m args meth c (rw D ca ad Ex) cc nL own ret) (hi : rw_dom κ 0) (hk : ∀ i', rw_dom κ i' → i' = 0) (he : ∀ f, rw_eL ca ad κ f = .inl (ca 0, N, .inl f)) (hN : N < 2 ^ 31) (hn : n < N) (hdg : decode cc pc = .ok (.iastore, 1)) (kk : n_W p l e s m args below meth c (rw D ca ad Ex) d Po (pc + 1) ls rest (n_up σ κ 0 n x)) : n_W p l e s m args below meth c (rw D ca ad Ex) d Po pc ls (.int x :: .int (nI n) :: .ref (ad κ 0) :: rest) σ := by
  refine r_iast hC hi hk he (vp_in_nI hn hN) hdg ?_
  rw [nI_clamp (by omega)]
  exact kk
theorem r_ldb (hC : n_C p s m args meth c (rw D ca ad Ex) cc nL own ret) (hi : rw_dom κ 0) (he : ∀ f, rw_eL ca ad κ f = .inl (ca 1, N, .inl f)) (hN : N < 2 ^ 31) (hn : n < N) (hdg : decode cc pc = .ok (.baload, 1)) (kk : n_W p l e s m args below meth c (rw D ca ad Ex) d Po (pc + 1) ls (.int (σ κ 0 n) :: rest) σ) : n_W p l e s m args below meth c (rw D ca ad Ex) d Po pc ls (.int (nI n) :: .ref (ad κ 0) :: rest) σ := by
  refine r_bald hC hi he (vp_in_nI hn hN) hdg ?_
  rw [nI_clamp (by omega)]
  exact kk
theorem r_ldz (hC : n_C p s m args meth c (rw D ca ad Ex) cc nL own ret) (hi : rw_dom κ 0) (he : ∀ f, rw_eL ca ad κ f = .inl (ca 3, N, .inl f)) (hN : N < 2 ^ 31) (hn : n < N) (hdg : decode cc pc = .ok (.baload, 1)) (kk : n_W p l e s m args below meth c (rw D ca ad Ex) d Po (pc + 1) ls (.int (σ κ 0 n) :: rest) σ) : n_W p l e s m args below meth c (rw D ca ad Ex) d Po pc ls (.int (nI n) :: .ref (ad κ 0) :: rest) σ := by
  refine r_zald hC hi he (vp_in_nI hn hN) hdg ?_
  rw [nI_clamp (by omega)]
  exact kk
theorem r_stb (hC : n_C p s m args meth c (rw D ca ad Ex) cc nL own ret) (hi : rw_dom κ 0) (hk : ∀ i', rw_dom κ i' → i' = 0) (he : ∀ f, rw_eL ca ad κ f = .inl (ca 1, N, .inl f)) (hN : N < 2 ^ 31) (hn : n < N) (hdg : decode cc pc = .ok (.bastore, 1)) (kk : n_W p l e s m args below meth c (rw D ca ad Ex) d Po (pc + 1) ls rest (n_up σ κ 0 n x.toInt8.toInt32)) : n_W p l e s m args below meth c (rw D ca ad Ex) d Po pc ls (.int x :: .int (nI n) :: .ref (ad κ 0) :: rest) σ := by
  refine r_bast hC hi hk he (vp_in_nI hn hN) hdg ?_
  rw [nI_clamp (by omega)]
  exact kk
theorem r_stz (hC : n_C p s m args meth c (rw D ca ad Ex) cc nL own ret) (hi : rw_dom κ 0) (hk : ∀ i', rw_dom κ i' → i' = 0) (he : ∀ f, rw_eL ca ad κ f = .inl (ca 3, N, .inl f)) (hN : N < 2 ^ 31) (hn : n < N) (hx : vp_nar .boolean x = x) (hdg : decode cc pc = .ok (.bastore, 1)) (kk : n_W p l e s m args below meth c (rw D ca ad Ex) d Po (pc + 1) ls rest (n_up σ κ 0 n x)) : n_W p l e s m args below meth c (rw D ca ad Ex) d Po pc ls (.int x :: .int (nI n) :: .ref (ad κ 0) :: rest) σ := by
  refine r_zast hC hi hk he (vp_in_nI hn hN) hx hdg ?_
  rw [nI_clamp (by omega)]
  exact kk
end RA
