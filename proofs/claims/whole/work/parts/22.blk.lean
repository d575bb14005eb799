def m_hs : List Nat → List Int32 → Nat → Int32
  | n :: ns, o :: os, k => if k < n then o else m_hs ns os (k - n)
  | _, _, _ => 0
def m_sz : List Nat → Nat → Nat
  | n :: ns, k => if k = 0 then n else if k < n then 0 else m_sz ns (k - n)
  | [], _ => 0
def m_own : List Nat → List Int32 → Int32 → Nat
  | n :: ns, o :: os, h => (if o = h then n else 0) + m_own ns os h
  | _, _, _ => 0
def m_bw (ns : List Nat) (os : List Int32) : Prop := ns.length = os.length ∧ (∀ n ∈ ns, 1 ≤ n) ∧ ns.sum = 1024
def m_isB (M : n_M) (ns : List Nat) (os : List Int32) : Prop := m_bw ns os ∧ M.2 10 0 = ns.map nI ∧ M.2 11 0 = os ∧ (∀ k, k < 1024 → M.1 11 k = m_hs ns os k) ∧ ∀ k, k < 1024 → M.1 13 k = nI (m_sz ns k)
def m_mem (M : n_M) (ns : List Nat) (os : List Int32) : n_M := (fun c i => if c = 11 then m_hs ns os i else if c = 13 then nI (m_sz ns i) else M.1 c i, fun c i => if c = 10 ∧ i = 0 then ns.map nI else if c = 11 ∧ i = 0 then os else M.2 c i)
theorem m_isB_mem (M : n_M) {ns : List Nat} {os : List Int32} (h : m_bw ns os) : m_isB (m_mem M ns os) ns os := ⟨h, by simp [m_mem], by simp [m_mem], fun k _ => by simp [m_mem], fun k _ => by simp [m_mem]⟩
theorem m_tk1 {ns : List Nat} {j : Nat} (hj : j < ns.length) : (ns.take (j + 1)).sum = (ns.take j).sum + ns.getD j 0 := by
  rw [List.take_succ, List.sum_append, List.getElem?_eq_getElem hj, List.getD_eq_getElem?_getD, List.getElem?_eq_getElem hj]
  simp
theorem m_tkle (ns : List Nat) (j : Nat) : (ns.take j).sum ≤ ns.sum := by
  have h : (ns.take j).sum + (ns.drop j).sum = ns.sum := by rw [← List.sum_append, List.take_append_drop]
  omega
theorem m_getmem {ns : List Nat} {j : Nat} (hj : j < ns.length) : ns.getD j 0 ∈ ns := by
  rw [List.getD_eq_getElem?_getD, List.getElem?_eq_getElem hj]
  exact List.getElem_mem hj
theorem m_sz_at : ∀ (ns : List Nat) (j : Nat), (∀ n ∈ ns, 1 ≤ n) → j < ns.length → m_sz ns (ns.take j).sum = ns.getD j 0
  | [], _, _, hj => absurd hj (by simp)
  | n :: ns, 0, _, _ => by simp [m_sz]
  | n :: ns, j + 1, h, hj => by
    have hn := h n List.mem_cons_self
    have ih := m_sz_at ns j (fun x hx => h x (List.mem_cons_of_mem _ hx)) (by simpa using hj)
    rw [show ((n :: ns).take (j + 1)).sum = n + (ns.take j).sum by simp]
    simp only [m_sz]
    rw [if_neg (by omega), if_neg (by omega), Nat.add_sub_cancel_left, ih]
    simp
theorem m_hs_at : ∀ (ns : List Nat) (os : List Int32) (j k : Nat), ns.length = os.length → j < ns.length → (ns.take j).sum ≤ k → k < (ns.take j).sum + ns.getD j 0 → m_hs ns os k = os.getD j 0
  | [], _, _, _, _, hj, _, _ => absurd hj (by simp)
  | n :: ns, [], _, _, hl, _, _, _ => absurd hl (by simp)
  | n :: ns, o :: os, 0, k, _, _, _, h2 => by
    simp at h2
    simp [m_hs, h2]
  | n :: ns, o :: os, j + 1, k, hl, hj, h1, h2 => by
    simp only [List.take_succ_cons, List.sum_cons] at h1 h2
    have h3 : (n :: ns).getD (j + 1) 0 = ns.getD j 0 := by simp
    rw [h3] at h2
    have ih := m_hs_at ns os j (k - n) (by simpa using hl) (by simpa using hj) (by omega) (by omega)
    simp only [m_hs]
    rw [if_neg (by omega), ih]
    simp
theorem m_own_tk : ∀ (ns : List Nat) (os : List Int32) (h : Int32) (j : Nat), ns.length = os.length → j < ns.length → m_own (ns.take (j + 1)) (os.take (j + 1)) h = m_own (ns.take j) (os.take j) h + (if os.getD j 0 = h then ns.getD j 0 else 0)
  | [], _, _, _, _, hj => absurd hj (by simp)
  | n :: ns, [], _, _, hl, _ => absurd hl (by simp)
  | n :: ns, o :: os, h, 0, _, _ => by simp [m_own]
  | n :: ns, o :: os, h, j + 1, hl, hj => by
    have ih := m_own_tk ns os h j (by simpa using hl) (by simpa using hj)
    simp only [List.take_succ_cons, m_own]
    rw [ih]
    simp
    omega
theorem m_mx1 {n : Nat} (h1 : 1 ≤ n) (h2 : n < 2 ^ 31) : (if nI n < 1 then 1 else nI n) = nI n := by
  exact if_neg (show ¬ nI n < 1 from nI_nlt (b := 1) h1 h2)
theorem m_own_le : ∀ (ns : List Nat) (os : List Int32) (h : Int32), m_own ns os h ≤ ns.sum
  | [], _, _ => by simp [m_own]
  | n :: ns, [], _ => by simp [m_own]
  | n :: ns, o :: os, h => by
    have ih := m_own_le ns os h
    simp only [m_own, List.sum_cons]
    split <;> omega
theorem m_lelen : ∀ (ns : List Nat), (∀ n ∈ ns, 1 ≤ n) → ns.length ≤ ns.sum
  | [], _ => by simp
  | n :: ns, h => by
    have ih := m_lelen ns (fun x hx => h x (List.mem_cons_of_mem _ hx))
    have hn := h n List.mem_cons_self
    simp only [List.length_cons, List.sum_cons]
    omega
/-- what a walk over the blocks sees at block j -/
theorem m_blk {M : n_M} {σ : n_S} {ns : List Nat} {os : List Int32} (hM : RepC M σ) (hB : m_isB M ns os) {j : Nat} (hj : j < ns.length) :
    (ns.take j).sum + ns.getD j 0 ≤ 1024 ∧ 1 ≤ ns.getD j 0 ∧ σ 18 0 (ns.take j).sum = nI (ns.getD j 0) ∧ σ 17 0 (ns.take j).sum = os.getD j 0 := by
  obtain ⟨⟨b1, b2, b3⟩, -, -, b6, b7⟩ := hB
  have h1 := m_tk1 hj
  have h2 := m_tkle ns (j + 1)
  have h3 := b2 _ (m_getmem hj)
  have h4 : (ns.take j).sum < 1024 := by omega
  refine ⟨by omega, h3, ?_, ?_⟩
  · rw [show σ 18 0 (ns.take j).sum = M.1 13 (ns.take j).sum from hM.1 13 _ h4, b7 _ h4, m_sz_at ns j b2 hj]
  · rw [show σ 17 0 (ns.take j).sum = M.1 11 (ns.take j).sum from hM.1 11 _ h4, b6 _ h4, m_hs_at ns os j _ b1 hj (Nat.le_refl _) (by omega)]
theorem m_at_end {ns : List Nat} {os : List Int32} (h : m_bw ns os) : (ns.take ns.length).sum = 1024 := by rw [List.take_length]; exact h.2.2
