/-- the texts of the instructions, by their order in the class -/
def p_txL : List (List Nat) := [[], [100, 117, 112], [100, 114, 111, 112], [115, 119, 97, 112], [111, 118, 101, 114], [114, 111, 116], [110, 111, 116], [43], [45], [42], [47], [37], [97, 110, 100], [111, 114], [120, 111, 114], [108, 101, 102, 116], [114, 105, 103, 104, 116], [61], [60], [62], [106, 117, 109, 112], [122, 101, 114, 111], [99, 97, 108, 108], [114, 101, 116, 117, 114, 110], [101, 120, 105, 116], [64], [33], [97, 108, 108, 111, 99], [102, 114, 101, 101], [103, 105, 118, 101], [115, 101, 110, 100], [114, 101, 99, 118], [101, 109, 105, 116], [114, 101, 97, 100, 107, 101, 121], [115, 112, 97, 119, 110], [119, 97, 105, 116], [107, 105, 108, 108], [115, 101, 108, 102], [108, 101, 118, 101, 108], [121, 105, 101, 108, 100], [115, 108, 101, 101, 112], [100, 111, 119, 110], [117, 112]]
def p_tx (k : Nat) : List Nat := p_txL.getD k []
def pkN (f : Nat → Nat) : Nat → Nat
  | 0 => 0
  | i + 1 => pkN f i * 256 + f i
theorem pkN_pos {f : Nat → Nat} : ∀ {n : Nat}, 1 ≤ n → (∀ i, i < n → f i ≠ 0) → 0 < pkN f n
  | 0, h, _ => by omega
  | n + 1, _, hf => by
    have := hf n (by omega)
    show 0 < pkN f n * 256 + f n
    omega
theorem pkN_inj {f g : Nat → Nat} : ∀ {n n' : Nat}, (∀ i, i < n → f i ≠ 0 ∧ f i < 256) → (∀ i, i < n' → g i ≠ 0 ∧ g i < 256) → pkN f n = pkN g n' → n = n' ∧ ∀ i, i < n → f i = g i
  | 0, 0, _, _, _ => ⟨rfl, fun i hi => by omega⟩
  | 0, n' + 1, _, hg, h => by
    have := pkN_pos (f := g) (n := n' + 1) (by omega) (fun i hi => (hg i hi).1)
    rw [← h] at this
    exact absurd this (Nat.lt_irrefl 0)
  | n + 1, 0, hf, _, h => by
    have := pkN_pos (f := f) (n := n + 1) (by omega) (fun i hi => (hf i hi).1)
    rw [h] at this
    exact absurd this (Nat.lt_irrefl 0)
  | n + 1, n' + 1, hf, hg, h => by
    have h : pkN f n * 256 + f n = pkN g n' * 256 + g n' := h
    have h1 := (hf n (by omega)).2
    have h2 := (hg n' (by omega)).2
    obtain ⟨e, he⟩ := pkN_inj (n := n) (n' := n') (fun i hi => hf i (by omega)) (fun i hi => hg i (by omega)) (by omega)
    refine ⟨by omega, fun i hi => ?_⟩
    by_cases z : i = n
    · subst z
      subst e
      omega
    · exact he i (by omega)
theorem pkN_lt {f : Nat → Nat} : ∀ {n : Nat}, (∀ i, i < n → f i < 256) → pkN f n < 256 ^ n
  | 0, _ => by simp [pkN]
  | n + 1, hf => by
    have h1 := pkN_lt (n := n) (fun i hi => hf i (by omega))
    have h2 := hf n (by omega)
    show pkN f n * 256 + f n < 256 ^ (n + 1)
    rw [Nat.pow_succ]
    omega
theorem p_tx_ok : ∀ k, k < 43 → 1 ≤ k → ((p_tx k).length < 8 ∧ 1 ≤ (p_tx k).length ∧ (p_tx k).all (fun b => decide (b ≠ 0 ∧ b < 128)) = true ∧ rw_wo.getD (r_op (k + 1) - 1) 0 = Int64.ofNat (pkN (fun i => (p_tx k).getD i 0) (p_tx k).length) ∧ 1 ≤ r_op (k + 1) ∧ r_op (k + 1) < 43) := by decide +kernel
def r_inv : List Nat := [1, 2, 3, 4, 5, 7, 8, 9, 10, 11, 12, 13, 14, 6, 15, 16, 17, 18, 19, 25, 26, 23, 27, 28, 29, 30, 31, 35, 36, 37, 38, 39, 40, 41, 42, 32, 33, 24, 20, 21, 22, 34]
theorem r_inv_ok : ∀ j, j < 42 → (r_inv.getD j 0 < 43 ∧ 1 ≤ r_inv.getD j 0 ∧ r_op (r_inv.getD j 0 + 1) = j + 1) := by decide +kernel
/-- the word of n bytes at s is instruction k's text -/
def p_is (B : List Int32) (s n k : Nat) : Prop := n = (p_tx k).length ∧ ∀ i, i < n → b_at B (s + i) = nI ((p_tx k).getD i 0)
def p_opc (B : List Int32) (s n k : Nat) : Prop := k < 43 ∧ 1 ≤ k ∧ p_is B s n k
theorem p_tx_b {k i : Nat} (hk : k < 43) (h1 : 1 ≤ k) (hi : i < (p_tx k).length) : (p_tx k).getD i 0 ≠ 0 ∧ (p_tx k).getD i 0 < 128 := by
  have h := (p_tx_ok k hk h1).2.2.1
  have hm : (p_tx k).getD i 0 ∈ p_tx k := by
    rw [List.getD_eq_getElem?_getD, List.getElem?_eq_getElem hi]
    exact List.getElem_mem hi
  simpa using List.all_eq_true.mp h _ hm
theorem p_opc_det {B : List Int32} {s n k k' : Nat} (h : p_opc B s n k) (h' : p_opc B s n k') : k = k' := by
  obtain ⟨a1, a2, a3, a4⟩ := h
  obtain ⟨b1, b2, b3, b4⟩ := h'
  have key : ∀ k, k < 43 → ∀ k', k' < 43 → 1 ≤ k → 1 ≤ k' → p_tx k = p_tx k' → k = k' := by decide +kernel
  refine key k a1 k' b1 a2 b2 (List.ext_getElem (by omega) (fun i h1 h2 => ?_))
  have e := (a4 i (by omega)).symm.trans (b4 i (by omega))
  have c1 := p_tx_b a1 a2 h1
  have c2 := p_tx_b b1 b2 h2
  have := (nI_eq (by omega) (by omega)).mp e
  rw [List.getD_eq_getElem?_getD, List.getElem?_eq_getElem h1, List.getD_eq_getElem?_getD, List.getElem?_eq_getElem h2] at this
  exact this
/-- the byte as a number -/
theorem b_at_nat {B : List Int32} {k : Nat} (h : k < B.length) : ∃ n, n < 256 ∧ b_at B k = nI n := by
  rw [b_at_lt h]
  have h5 : ((B.getD k 0).toBitVec &&& 255#32).toNat ≤ 255 := by
    rw [BitVec.toNat_and]
    exact Nat.and_le_right
  refine ⟨((B.getD k 0).toBitVec &&& 255#32).toNat, by omega, ?_⟩
  apply Int32.toBitVec_inj.mp
  show (B.getD k 0).toBitVec &&& 255#32 = (Int32.ofNat ((B.getD k 0).toBitVec &&& 255#32).toNat).toBitVec
  rw [Int32.toBitVec_ofNat']
  apply BitVec.eq_of_toNat_eq
  rw [BitVec.toNat_ofNat]
  omega
