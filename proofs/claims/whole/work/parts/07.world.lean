abbrev n_S : Type := Nat → Nat → Nat → Int32
def n_up (σ : n_S) (κ i k : Nat) (v : Int32) : n_S := fun κ' i' => if κ' = κ ∧ i' = i then upd (σ κ i) k v else σ κ' i'
theorem n_up_at (σ : n_S) (κ i k : Nat) (v : Int32) : n_up σ κ i k v κ i = upd (σ κ i) k v := by simp [n_up]
theorem n_up_ne {σ : n_S} {κ i k κ' i' : Nat} {v : Int32} (h : ¬ (κ' = κ ∧ i' = i)) : n_up σ κ i k v κ' i' = σ κ' i' := by unfold n_up; rw [if_neg h]
def n_tys (ca : Nat → ClassId) : List (ClassId × FieldType) := [(ca 0, .int), (ca 1, .byte), (ca 2, .long), (ca 3, .boolean), (ca 4, .object "ShareMonitor$UserProcess"), (ca 5, .object "ShareMonitor$Program"), (ca 6, .object "ShareMonitor$Row"), (ca 7, .object "ShareMonitor$Op")]
def cw_pg (ad : Nat → Nat → Nat) (x : Int32) : Option Nat := if x = 0 then none else some (ad 28 (x.toNatClampNeg - 1))
def cw_op (ae : Nat → Nat) (x : Int32) : Option Nat := if x = 0 then none else some (ae (x.toNatClampNeg - 1))
def cw_dom (κ i : Nat) : Prop := match κ with
  | 0 => i = 0
  | 1 => i = 0
  | 2 => i = 0
  | 3 => i = 0
  | 4 => i = 0
  | 5 => i = 0
  | 6 => i = 0
  | 7 => i = 0
  | 8 => i = 0
  | 9 => i = 0
  | 10 => i = 0
  | 11 => i = 0
  | 12 => i = 0
  | 13 => i = 0
  | 14 => i = 0
  | 15 => i = 0
  | 16 => i = 0
  | 17 => i = 0
  | 18 => i = 0
  | 19 => i = 0
  | 20 => i = 0
  | 21 => 1 ≤ i ∧ i ≤ 12
  | 22 => 1 ≤ i ∧ i ≤ 12
  | 23 => 1 ≤ i ∧ i ≤ 12
  | 24 => 2 ≤ i ∧ i ≤ 25
  | 25 => False
  | 26 => 2 ≤ i ∧ i ≤ 25
  | 27 => 2 ≤ i ∧ i ≤ 25
  | 28 => i < 12
  | 29 => i < 12
  | 30 => i < 12
  | 31 => i < 11
  | 32 => i < 11
  | _ => False
def cw_eL (ca : Nat → ClassId) (ad : Nat → Nat → Nat) (ae : Nat → Nat) (κ i : Nat) (f : Nat → Int32) : va_E := match κ with
  | 0 => .inr (9, [.ref (ad 1 0), .ref (ad 3 0), .ref (ad 9 0), .ref (ad 20 0)])
  | 1 => .inr (6, [.ref (ad 2 0), .int (f 1)])
  | 2 => .inl (ca 1, 8192, .inl f)
  | 3 => .inr (4, [.ref (ad 1 0), .ref (ad 4 0), .ref (ad 5 0), .ref (ad 6 0), .int (f 4), .ref (ad 7 0), .ref (ad 8 0), .int (f 7), .int (f 8), .int (f 9), .int (f 10)])
  | 4 => .inl (ca 0, 32, .inl f)
  | 5 => .inl (ca 0, 32, .inl f)
  | 6 => .inl (ca 0, 32, .inl f)
  | 7 => .inl (ca 0, 256, .inl f)
  | 8 => .inl (ca 0, 256, .inl f)
  | 9 => .inr (1, [.ref (ad 10 0), .ref (ad 11 0), .ref (ad 12 0), .ref (ad 14 0), .ref (ad 13 0), .ref (ad 15 0), .ref (ad 19 0), .int (f 7), .int (f 8), .int (f 9), .int (f 10)])
  | 10 => .inl (ca 4, 13, .inr (.inr (.inr (.inr (fun j => if j = 0 then none else some (ad 21 j))))))
  | 11 => .inl (ca 5, 12, .inr (.inr (.inr (.inr (fun j => some (ad 28 j))))))
  | 12 => .inl (ca 6, 3, .inr (.inr (.inr (.inr (fun j => some (ad 31 j))))))
  | 13 => .inl (ca 6, 8, .inr (.inr (.inr (.inr (fun j => some (ad 31 (j + 3)))))))
  | 14 => .inl (ca 0, 8, .inl f)
  | 15 => .inr (2, [.ref (ad 16 0), .ref (ad 17 0), .ref (ad 18 0)])
  | 16 => .inl (ca 0, 1024, .inl f)
  | 17 => .inl (ca 0, 1024, .inl f)
  | 18 => .inl (ca 0, 1024, .inl f)
  | 19 => .inl (ca 0, 2000, .inl f)
  | 20 => .inr (8, [.ref (ad 9 0), .int (f 1)])
  | 21 => .inr (7, [.int (nI i), .ref (ad 22 i), .ref (ad 23 i), .ref (ad 24 (2 * i)), .ref (ad 24 (2 * i + 1)), .int (f 5), .int (f 6), .int (f 7), .int (f 8), .int (f 9), .int (f 10), va_rf (cw_pg ad (f 11)), .int (f 12), .int (f 13), .int (f 14), .int (f 15)])
  | 22 => .inl (ca 0, 40, .inl f)
  | 23 => .inl (ca 0, 20, .inl f)
  | 24 => .inr (0, [.ref (ad 26 i), .ref (ad 27 i), .int (f 2)])
  | 26 => .inl (ca 0, 8, .inl f)
  | 27 => .inl (ca 0, 8, .inl f)
  | 28 => .inr (3, [.ref (ad 29 i), .ref (ad 30 i), .int (f 2), .int (f 3)])
  | 29 => .inl (ca 7, 256, .inr (.inr (.inr (.inr (fun j => cw_op ae (f j))))))
  | 30 => .inl (ca 0, 256, .inl f)
  | 31 => .inr (5, [.ref (ad 32 i), .int (f 1)])
  | 32 => .inl (ca 0, 12, .inl f)
  | _ => .inl (ca 0, 0, .inl f)
abbrev cw (D : va_G) (ca : Nat → ClassId) (ad : Nat → Nat → Nat) (ae : Nat → Nat) (Ex : State → Heap → Prop) : n_Wd n_S := (D, n_cls, n_tys ca, cw_dom, ad, fun κ i σ => cw_eL ca ad ae κ i (σ κ i), Ex)
def rw_wo : List Int64 := [6583664, 1685221232, 1937203568, 1870030194, 7499636, 43, 45, 42, 47, 37, 6385252, 28530, 7892850, 7237492, 1818584692, 491394656372, 61, 60, 62, 64, 33, 125780071117422, 418430873443, 1718773093, 1734964837, 1936027236, 1919247222, 2002872692, 1802071148, 1936026726, 465558725996, 521459297380, 495739823472, 1685026670, 30064, 1701669236, 32199616316007801, 1702390132, 1786080624, 2053468783, 1667329132, 495806674798]
def rw_ne : List Int32 := [0, 1, 1, 2, 2, 3, 2, 2, 2, 2, 2, 2, 2, 2, 1, 2, 2, 2, 2, 2, 1, 2, 0, 1, 1, 2, 2, 0, 1, 1, 0, 1, 0, 1, 1, 1, 1, 0, 1, 0, 1, 0, 0]
def rw_dom (κ i : Nat) : Prop := match κ with
  | 0 => i = 0
  | 1 => i = 0
  | 2 => i = 0
  | 3 => False
  | 4 => i = 0
  | 5 => False
  | 6 => False
  | 7 => False
  | 8 => i = 0
  | 9 => i = 0
  | 10 => i = 0
  | 11 => i = 0
  | 12 => i = 0
  | 13 => i = 0
  | 14 => i = 0
  | 15 => False
  | 16 => i = 0
  | 17 => i = 0
  | 18 => False
  | 19 => False
  | 20 => i = 0
  | 21 => i = 0
  | 22 => i = 0
  | 23 => i = 0
  | 24 => i = 0
  | 25 => i = 0
  | 26 => i = 0
  | 27 => i = 0
  | 28 => i = 0
  | 29 => i = 0
  | 30 => i = 0
  | 31 => i = 0
  | 32 => i = 0
  | 33 => i = 0
  | 34 => i = 0
  | 35 => i = 0
  | 36 => i = 0
  | 37 => i = 0
  | 38 => i = 0
  | 39 => i = 0
  | 40 => False
  | 41 => False
  | 42 => i = 0
  | 43 => i = 0
  | 44 => i = 0
  | 45 => i = 0
  | 46 => i = 0
  | 47 => i = 0
  | 48 => i = 0
  | 49 => False
  | 50 => i = 0
  | 51 => False
  | 52 => False
  | 53 => False
  | _ => False
def rw_eL (ca : Nat → ClassId) (ad : Nat → Nat → Nat) (κ : Nat) (f : Nat → Int32) : va_E := match κ with
  | 0 => .inr (10, [.ref (ad 1 0), .ref (ad 2 0), .int (f 2), .ref (ad 4 0), .int (f 4), .int (f 5), .int (f 6), .ref (ad 8 0), .ref (ad 9 0), .ref (ad 10 0), .ref (ad 11 0), .ref (ad 12 0), .ref (ad 13 0), .ref (ad 14 0), .int (f 14), .ref (ad 16 0), .ref (ad 17 0), .int (f 17), .int (f 18), .ref (ad 20 0), .ref (ad 21 0), .ref (ad 22 0), .ref (ad 23 0), .ref (ad 24 0), .ref (ad 25 0), .ref (ad 26 0), .ref (ad 27 0), .ref (ad 28 0), .ref (ad 29 0), .ref (ad 30 0), .ref (ad 31 0), .ref (ad 32 0), .ref (ad 33 0), .ref (ad 34 0), .ref (ad 35 0), .ref (ad 36 0), .ref (ad 37 0), .ref (ad 38 0), .ref (ad 39 0), .int (f 39), .int (f 40), .ref (ad 42 0), .ref (ad 43 0), .ref (ad 44 0), .ref (ad 45 0), .ref (ad 46 0), .ref (ad 47 0), .ref (ad 48 0), .int (f 48), .ref (ad 50 0), .int (f 50), .int (f 51), .int (f 52)])
  | 1 => .inl (ca 2, 42, .inr (.inl (fun j => rw_wo.getD j 0)))
  | 2 => .inl (ca 0, 43, .inl (fun j => rw_ne.getD j 0))
  | 4 => .inl (ca 1, 8192, .inl f)
  | 8 => .inl (ca 0, 3328, .inl f)
  | 9 => .inl (ca 0, 3328, .inl f)
  | 10 => .inl (ca 0, 13, .inl f)
  | 11 => .inl (ca 3, 13, .inl f)
  | 12 => .inl (ca 0, 32, .inl f)
  | 13 => .inl (ca 0, 32, .inl f)
  | 14 => .inl (ca 0, 32, .inl f)
  | 16 => .inl (ca 0, 256, .inl f)
  | 17 => .inl (ca 0, 256, .inl f)
  | 20 => .inl (ca 0, 13, .inl f)
  | 21 => .inl (ca 0, 13, .inl f)
  | 22 => .inl (ca 0, 13, .inl f)
  | 23 => .inl (ca 0, 13, .inl f)
  | 24 => .inl (ca 0, 13, .inl f)
  | 25 => .inl (ca 0, 13, .inl f)
  | 26 => .inl (ca 0, 13, .inl f)
  | 27 => .inl (ca 0, 520, .inl f)
  | 28 => .inl (ca 0, 13, .inl f)
  | 29 => .inl (ca 0, 260, .inl f)
  | 30 => .inl (ca 0, 13, .inl f)
  | 31 => .inl (ca 0, 104, .inl f)
  | 32 => .inl (ca 0, 104, .inl f)
  | 33 => .inl (ca 0, 13, .inl f)
  | 34 => .inl (ca 0, 104, .inl f)
  | 35 => .inl (ca 0, 13, .inl f)
  | 36 => .inl (ca 0, 13, .inl f)
  | 37 => .inl (ca 0, 13, .inl f)
  | 38 => .inl (ca 0, 39, .inl f)
  | 39 => .inl (ca 0, 3, .inl f)
  | 42 => .inl (ca 0, 8, .inl f)
  | 43 => .inl (ca 0, 104, .inl f)
  | 44 => .inl (ca 0, 8, .inl f)
  | 45 => .inl (ca 0, 1024, .inl f)
  | 46 => .inl (ca 0, 1025, .inl f)
  | 47 => .inl (ca 0, 1025, .inl f)
  | 48 => .inl (ca 0, 1025, .inl f)
  | 50 => .inl (ca 0, 2000, .inl f)
  | _ => .inl (ca 0, 0, .inl f)
abbrev rw (D : va_G) (ca : Nat → ClassId) (ad : Nat → Nat → Nat) (Ex : State → Heap → Prop) : n_Wd n_S := (D, n_cls, n_tys ca, rw_dom, ad, fun κ _ σ => rw_eL ca ad κ (σ κ 0), Ex)
