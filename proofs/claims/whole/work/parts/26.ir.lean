def n_V (q : Nat) : Prop := 1 ≤ q ∧ q ≤ 12
theorem nV_inj {a b : Nat} (ha : n_V a) (hb : n_V b) (h : nI a = nI b) : a = b := by
  obtain ⟨a1, a2⟩ := ha
  obtain ⟨b1, b2⟩ := hb
  exact (nI_eq (by omega) (by omega)).mp h
def IR (M : n_M) : Prop :=
  (∀ q, n_V q → ∃ r, r < 3 ∧ M.1 2 q = nI r) ∧
  (∀ r, r < 3 → (M.2 5 r).Nodup ∧ ∀ x ∈ M.2 5 r, ∃ q, n_V q ∧ x = nI q ∧ M.1 0 q = 1 ∧ M.1 2 q = nI r) ∧
  (∀ q r, n_V q → r < 3 → M.1 0 q = 1 → M.1 2 q = nI r → nI q ∈ M.2 5 r) ∧
  (∀ k, k < 8 → (M.2 5 (k + 3)).Nodup ∧ ∀ x ∈ M.2 5 (k + 3), ∃ q, n_V q ∧ x = nI q ∧ M.1 0 q = 6 ∧ M.1 7 q = nI k) ∧
  (∀ q, n_V q → M.1 0 q = 6 → ∃ k, k < 8 ∧ M.1 7 q = nI k ∧ nI q ∈ M.2 5 (k + 3))
theorem nd_len : ∀ (l S : List Int32), l.Nodup → (∀ x ∈ l, x ∈ S) → l.length ≤ S.length
  | [], _, _, _ => Nat.zero_le _
  | a :: l, S, h, hs => by
    have ha : a ∈ S := hs a List.mem_cons_self
    obtain ⟨h1, h2⟩ := List.nodup_cons.mp h
    have ih := nd_len l (S.erase a) h2 (fun x hx => (List.mem_erase_of_ne (show x ≠ a from fun e => h1 (by rw [← e]; exact hx))).mpr (hs x (List.mem_cons_of_mem _ hx)))
    rw [List.length_erase_of_mem ha] at ih
    have : 0 < S.length := List.length_pos_of_mem ha
    simp only [List.length_cons]
    omega
theorem nV_mem {q : Nat} (h : n_V q) : nI q ∈ (List.range 12).map (fun i => nI (i + 1)) := by
  obtain ⟨h1, h2⟩ := h
  exact List.mem_map.mpr ⟨q - 1, List.mem_range.mpr (by omega), by rw [Nat.sub_add_cancel h1]⟩
theorem nd_12 {l : List Int32} (h : l.Nodup) (hv : ∀ x ∈ l, ∃ q, n_V q ∧ x = nI q) {q : Nat} (hq : n_V q) (hn : nI q ∉ l) : l.length < 12 := by
  have h1 := nd_len l (((List.range 12).map (fun i => nI (i + 1))).erase (nI q)) h (fun x hx => by
    obtain ⟨r, hr, e⟩ := hv x hx
    exact (List.mem_erase_of_ne (show x ≠ nI q from fun z => hn (by rw [← z]; exact hx))).mpr (e ▸ nV_mem hr))
  rw [List.length_erase_of_mem (nV_mem hq)] at h1
  simp at h1
  omega
theorem IR.row {M : n_M} (h : IR M) {q r : Nat} (hq : n_V q) (hr : r < 3) (hn : nI q ∉ M.2 5 r) : (M.2 5 r).length < 12 := by
  obtain ⟨h1, h2⟩ := h.2.1 r hr
  exact nd_12 h1 (fun x hx => by obtain ⟨q', a, b, -⟩ := h2 x hx; exact ⟨q', a, b⟩) hq hn
theorem IR.que {M : n_M} (h : IR M) {q k : Nat} (hq : n_V q) (hk : k < 8) (hn : nI q ∉ M.2 5 (k + 3)) : (M.2 5 (k + 3)).length < 12 := by
  obtain ⟨h1, h2⟩ := h.2.2.2.1 k hk
  exact nd_12 h1 (fun x hx => by obtain ⟨q', a, b, -⟩ := h2 x hx; exact ⟨q', a, b⟩) hq hn
theorem IR.lv {M : n_M} (h : IR M) {q : Nat} (hq : n_V q) : m_lv M q < 3 ∧ M.1 2 q = nI (m_lv M q) := by
  obtain ⟨r, hr, e⟩ := h.1 q hq
  rw [m_lv_i hr e]
  exact ⟨hr, e⟩
theorem IR.notrow {M : n_M} (h : IR M) {q r : Nat} (hq : n_V q) (hr : r < 3) (hs : M.1 0 q ≠ 1) : nI q ∉ M.2 5 r := by
  intro hm
  obtain ⟨q', hq', e, h1, -⟩ := (h.2.1 r hr).2 _ hm
  have := nV_inj hq hq' e
  subst this
  exact hs h1
theorem IR.notrow2 {M : n_M} (h : IR M) {q r : Nat} (hq : n_V q) (hr : r < 3) (hs : M.1 2 q ≠ nI r) : nI q ∉ M.2 5 r := by
  intro hm
  obtain ⟨q', hq', e, -, h1⟩ := (h.2.1 r hr).2 _ hm
  have := nV_inj hq hq' e
  subst this
  exact hs h1
theorem IR.notque {M : n_M} (h : IR M) {q k : Nat} (hq : n_V q) (hk : k < 8) (hs : M.1 0 q ≠ 6) : nI q ∉ M.2 5 (k + 3) := by
  intro hm
  obtain ⟨q', hq', e, h1, -⟩ := (h.2.2.2.1 k hk).2 _ hm
  have := nV_inj hq hq' e
  subst this
  exact hs h1
theorem IR.notque2 {M : n_M} (h : IR M) {q k : Nat} (hq : n_V q) (hk : k < 8) (hs : M.1 7 q ≠ nI k) : nI q ∉ M.2 5 (k + 3) := by
  intro hm
  obtain ⟨q', hq', e, -, h1⟩ := (h.2.2.2.1 k hk).2 _ hm
  have := nV_inj hq hq' e
  subst this
  exact hs h1
def m_fq (q : Nat) (l : List Int32) : List Int32 := l.filter (fun y => decide (y ≠ nI q))
theorem m_fq_id {q : Nat} {l : List Int32} (h : nI q ∉ l) : m_fq q l = l := by
  unfold m_fq
  exact List.filter_eq_self.mpr (fun a ha => by simp; exact fun e => h (e ▸ ha))
theorem m_fq_mem {q : Nat} {l : List Int32} {x : Int32} : x ∈ m_fq q l ↔ x ∈ l ∧ x ≠ nI q := by
  unfold m_fq
  simp
theorem IR_off {M M' : n_M} (h : IR M) {q : Nat} (hq : n_V q) (h0 : ∀ r, n_V r → r ≠ q → M'.1 0 r = M.1 0 r) (h2 : ∀ r, n_V r → r ≠ q → M'.1 2 r = M.1 2 r) (h7 : ∀ r, n_V r → r ≠ q → M'.1 7 r = M.1 7 r) (hs : M'.1 0 q ≠ 1 ∧ M'.1 0 q ≠ 6) (hl : ∃ r, r < 3 ∧ M'.1 2 q = nI r) (h5 : ∀ r, r < 11 → M'.2 5 r = m_fq q (M.2 5 r)) : IR M' := by
  refine ⟨fun r hr => ?_, fun r hr => ?_, fun r1 r hr1 hr e1 e2 => ?_, fun k hk => ?_, fun r hr e1 => ?_⟩
  · by_cases e : r = q
    · subst e; exact hl
    · rw [h2 r hr e]; exact h.1 r hr
  · rw [h5 r (by omega)]
    refine ⟨List.Pairwise.filter _ (h.2.1 r hr).1, fun x hx => ?_⟩
    obtain ⟨hx1, hx2⟩ := m_fq_mem.mp hx
    obtain ⟨q', hq', rfl, e1, e2⟩ := (h.2.1 r hr).2 x hx1
    have hne : q' ≠ q := fun e => hx2 (by rw [e])
    exact ⟨q', hq', rfl, by rw [h0 q' hq' hne]; exact e1, by rw [h2 q' hq' hne]; exact e2⟩
  · have hne : r1 ≠ q := fun e => hs.1 (e ▸ e1)
    rw [h5 r (by omega)]
    exact m_fq_mem.mpr ⟨h.2.2.1 r1 r hr1 hr (by rw [← h0 r1 hr1 hne]; exact e1) (by rw [← h2 r1 hr1 hne]; exact e2), fun e => hne (nV_inj hr1 hq e)⟩
  · rw [h5 (k + 3) (by omega)]
    refine ⟨List.Pairwise.filter _ (h.2.2.2.1 k hk).1, fun x hx => ?_⟩
    obtain ⟨hx1, hx2⟩ := m_fq_mem.mp hx
    obtain ⟨q', hq', rfl, e1, e2⟩ := (h.2.2.2.1 k hk).2 x hx1
    have hne : q' ≠ q := fun e => hx2 (by rw [e])
    exact ⟨q', hq', rfl, by rw [h0 q' hq' hne]; exact e1, by rw [h7 q' hq' hne]; exact e2⟩
  · have hne : r ≠ q := fun e => hs.2 (e ▸ e1)
    obtain ⟨k, hk, e2, e3⟩ := h.2.2.2.2 r hr (by rw [← h0 r hr hne]; exact e1)
    exact ⟨k, hk, by rw [h7 r hr hne]; exact e2, by rw [h5 (k + 3) (by omega)]; exact m_fq_mem.mpr ⟨e3, fun e => hne (nV_inj hr hq e)⟩⟩
theorem IR_on {M M' : n_M} (h : IR M) {q : Nat} (hq : n_V q) (hb : M.1 0 q ≠ 1 ∧ M.1 0 q ≠ 6) (h0 : ∀ r, n_V r → r ≠ q → M'.1 0 r = M.1 0 r) (h2 : ∀ r, n_V r → M'.1 2 r = M.1 2 r) (h7 : ∀ r, n_V r → r ≠ q → M'.1 7 r = M.1 7 r) (hs : M'.1 0 q = 1) (h5 : ∀ r, r < 11 → r ≠ m_lv M q → M'.2 5 r = M.2 5 r) (h6 : M'.2 5 (m_lv M q) = M.2 5 (m_lv M q) ++ [nI q]) : IR M' := by
  obtain ⟨hl1, hl2⟩ := h.lv hq
  have hnr := h.notrow hq hl1 hb.1
  refine ⟨fun r hr => by rw [h2 r hr]; exact h.1 r hr, fun r hr => ?_, fun r1 r hr1 hr e1 e2 => ?_, fun k hk => ?_, fun r hr e1 => ?_⟩
  · have key : ∀ x ∈ M.2 5 r, ∃ q', n_V q' ∧ x = nI q' ∧ M'.1 0 q' = 1 ∧ M'.1 2 q' = nI r := by
      intro x hx
      obtain ⟨q', hq', rfl, e1, e2⟩ := (h.2.1 r hr).2 x hx
      have hne : q' ≠ q := fun e => hb.1 (e ▸ e1)
      exact ⟨q', hq', rfl, by rw [h0 q' hq' hne]; exact e1, by rw [h2 q' hq']; exact e2⟩
    by_cases e : r = m_lv M q
    · subst e
      rw [h6]
      refine ⟨List.nodup_append.mpr ⟨(h.2.1 _ hr).1, by simp, fun a ha b hb2 e3 => ?_⟩, fun x hx => ?_⟩
      · rw [List.mem_singleton.mp hb2] at e3
        exact hnr (e3 ▸ ha)
      · rcases List.mem_append.mp hx with hx | hx
        · exact key x hx
        · rw [List.mem_singleton.mp hx]
          exact ⟨q, hq, rfl, hs, by rw [h2 q hq]; exact hl2⟩
    · rw [h5 r (by omega) e]
      exact ⟨(h.2.1 r hr).1, key⟩
  · rw [h2 r1 hr1] at e2
    by_cases e : r1 = q
    · subst e
      have : r = m_lv M r1 := (nI_eq (by omega) (by omega)).mp (e2.symm.trans hl2)
      subst this
      rw [h6]
      simp
    · have hm := h.2.2.1 r1 r hr1 hr (by rw [← h0 r1 hr1 e]; exact e1) e2
      by_cases z : r = m_lv M q
      · subst z
        rw [h6]
        exact List.mem_append_left _ hm
      · rw [h5 r (by omega) z]
        exact hm
  · rw [h5 (k + 3) (by omega) (by omega)]
    refine ⟨(h.2.2.2.1 k hk).1, fun x hx => ?_⟩
    obtain ⟨q', hq', rfl, e1, e2⟩ := (h.2.2.2.1 k hk).2 x hx
    have hne : q' ≠ q := fun e => hb.2 (e ▸ e1)
    exact ⟨q', hq', rfl, by rw [h0 q' hq' hne]; exact e1, by rw [h7 q' hq' hne]; exact e2⟩
  · have hne : r ≠ q := fun e => by subst e; rw [hs] at e1; exact absurd e1 (by decide)
    obtain ⟨k, hk, e2, e3⟩ := h.2.2.2.2 r hr (by rw [← h0 r hr hne]; exact e1)
    exact ⟨k, hk, by rw [h7 r hr hne]; exact e2, by rw [h5 (k + 3) (by omega) (by omega)]; exact e3⟩
theorem IR_sem {M M' : n_M} (h : IR M) {q k0 : Nat} (hq : n_V q) (hk0 : k0 < 8) (hb : M.1 0 q ≠ 1 ∧ M.1 0 q ≠ 6) (h0 : ∀ r, n_V r → r ≠ q → M'.1 0 r = M.1 0 r) (h2 : ∀ r, n_V r → M'.1 2 r = M.1 2 r) (h7 : ∀ r, n_V r → r ≠ q → M'.1 7 r = M.1 7 r) (hs : M'.1 0 q = 6) (hs7 : M'.1 7 q = nI k0) (h5 : ∀ r, r < 11 → r ≠ k0 + 3 → M'.2 5 r = M.2 5 r) (h6 : M'.2 5 (k0 + 3) = M.2 5 (k0 + 3) ++ [nI q]) : IR M' := by
  have hnr := h.notque hq hk0 hb.2
  refine ⟨fun r hr => by rw [h2 r hr]; exact h.1 r hr, fun r hr => ?_, fun r1 r hr1 hr e1 e2 => ?_, fun k hk => ?_, fun r hr e1 => ?_⟩
  · rw [h5 r (by omega) (by omega)]
    refine ⟨(h.2.1 r hr).1, fun x hx => ?_⟩
    obtain ⟨q', hq', rfl, e1, e2⟩ := (h.2.1 r hr).2 x hx
    have hne : q' ≠ q := fun e => hb.1 (e ▸ e1)
    exact ⟨q', hq', rfl, by rw [h0 q' hq' hne]; exact e1, by rw [h2 q' hq']; exact e2⟩
  · have hne : r1 ≠ q := fun e => by subst e; rw [hs] at e1; exact absurd e1 (by decide)
    rw [h5 r (by omega) (by omega)]
    exact h.2.2.1 r1 r hr1 hr (by rw [← h0 r1 hr1 hne]; exact e1) (by rw [← h2 r1 hr1]; exact e2)
  · have key : ∀ x ∈ M.2 5 (k + 3), ∃ q', n_V q' ∧ x = nI q' ∧ M'.1 0 q' = 6 ∧ M'.1 7 q' = nI k := by
      intro x hx
      obtain ⟨q', hq', rfl, e1, e2⟩ := (h.2.2.2.1 k hk).2 x hx
      have hne : q' ≠ q := fun e => hb.2 (e ▸ e1)
      exact ⟨q', hq', rfl, by rw [h0 q' hq' hne]; exact e1, by rw [h7 q' hq' hne]; exact e2⟩
    by_cases e : k = k0
    · subst e
      rw [h6]
      refine ⟨List.nodup_append.mpr ⟨(h.2.2.2.1 _ hk).1, by simp, fun a ha b hb2 e3 => ?_⟩, fun x hx => ?_⟩
      · rw [List.mem_singleton.mp hb2] at e3
        exact hnr (e3 ▸ ha)
      · rcases List.mem_append.mp hx with hx | hx
        · exact key x hx
        · rw [List.mem_singleton.mp hx]
          exact ⟨q, hq, rfl, hs, hs7⟩
    · rw [h5 (k + 3) (by omega) (by omega)]
      exact ⟨(h.2.2.2.1 k hk).1, key⟩
  · by_cases e : r = q
    · subst e
      exact ⟨k0, hk0, hs7, by rw [h6]; simp⟩
    · obtain ⟨k, hk, e2, e3⟩ := h.2.2.2.2 r hr (by rw [← h0 r hr e]; exact e1)
      refine ⟨k, hk, by rw [h7 r hr e]; exact e2, ?_⟩
      by_cases z : k = k0
      · subst z
        rw [h6]
        exact List.mem_append_left _ e3
      · rw [h5 (k + 3) (by omega) (by omega)]
        exact e3
theorem IR_cong {M M' : n_M} (h : IR M) (h0 : ∀ r, n_V r → M'.1 0 r = M.1 0 r) (h2 : ∀ r, n_V r → M'.1 2 r = M.1 2 r) (h7 : ∀ r, n_V r → M'.1 7 r = M.1 7 r) (h5 : ∀ r, r < 11 → M'.2 5 r = M.2 5 r) : IR M' := by
  refine ⟨fun r hr => by rw [h2 r hr]; exact h.1 r hr, fun r hr => ?_, fun r1 r hr1 hr e1 e2 => ?_, fun k hk => ?_, fun r hr e1 => ?_⟩
  · rw [h5 r (by omega)]
    exact ⟨(h.2.1 r hr).1, fun x hx => by obtain ⟨q', a, b, c, d⟩ := (h.2.1 r hr).2 x hx; exact ⟨q', a, b, by rw [h0 q' a]; exact c, by rw [h2 q' a]; exact d⟩⟩
  · rw [h5 r (by omega)]
    exact h.2.2.1 r1 r hr1 hr (by rw [← h0 r1 hr1]; exact e1) (by rw [← h2 r1 hr1]; exact e2)
  · rw [h5 (k + 3) (by omega)]
    exact ⟨(h.2.2.2.1 k hk).1, fun x hx => by obtain ⟨q', a, b, c, d⟩ := (h.2.2.2.1 k hk).2 x hx; exact ⟨q', a, b, by rw [h0 q' a]; exact c, by rw [h7 q' a]; exact d⟩⟩
  · obtain ⟨k, hk, e2, e3⟩ := h.2.2.2.2 r hr (by rw [← h0 r hr]; exact e1)
    exact ⟨k, hk, by rw [h7 r hr]; exact e2, by rw [h5 (k + 3) (by omega)]; exact e3⟩
theorem IR_rdy {M : n_M} (h : IR M) {q : Nat} (hq : n_V q) (hb : M.1 0 q ≠ 1 ∧ M.1 0 q ≠ 6) : IR (m_rdy M q) := by
  refine IR_on h hq hb (fun r _ hne => ?_) (fun r _ => ?_) (fun r _ hne => ?_) ?_ (fun r _ hne => ?_) ?_ <;> simp [m_rdy, m_s, m_l] <;> intros <;> simp_all
theorem IR_susp {M : n_M} (h : IR M) {q : Nat} (hq : n_V q) (h1 : M.1 0 q = 1) {st aw : Int32} (hs : st ≠ 1 ∧ st ≠ 6) : IR (m_susp M q st aw) := by
  refine IR_off h hq (fun r _ hne => ?_) (fun r _ hne => ?_) (fun r _ hne => ?_) ?_ ?_ (fun r hr => ?_)
  · simp [m_susp, m_out, m_s, m_l]; intros; simp_all
  · simp [m_susp, m_out, m_s, m_l]
  · simp [m_susp, m_out, m_s, m_l]; intros; simp_all
  · simpa [m_susp, m_out, m_s, m_l] using hs
  · obtain ⟨r, hr, e⟩ := h.1 q hq
    exact ⟨r, hr, by simpa [m_susp, m_out, m_s, m_l] using e⟩
  · by_cases e : r = m_lv M q
    · subst e
      simp [m_susp, m_out, m_s, m_l, m_fq]
    · have : nI q ∉ M.2 5 r := by
        by_cases hr3 : r < 3
        · refine h.notrow2 hq hr3 (fun z => e ?_)
          exact (m_lv_i hr3 z).symm
        · have := h.notque hq (k := r - 3) (by omega) (by rw [h1]; decide)
          rwa [Nat.sub_add_cancel (by omega)] at this
      rw [m_fq_id this]
      simp [m_susp, m_out, m_s, m_l, e]
