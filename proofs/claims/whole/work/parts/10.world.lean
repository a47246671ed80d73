/-! the world: the cells of the object and of the reference, by their places 0 .. 59; a memory is a row of numbers for each place -/
abbrev Mem : Type := Nat → Nat → Int
/-- launch, base, class numbers and slots, array classes, addresses, string constants and their bytes -/
abbrev En : Type := Launch × Nat × va_G × (Nat → ClassId) × (Nat → Nat) × (Nat → Nat) × (Nat → Nat)
abbrev eL (E : En) : Launch := E.1
abbrev eB (E : En) : Nat := E.2.1
abbrev eD (E : En) : va_G := E.2.2.1
abbrev eC (E : En) : Nat → ClassId := E.2.2.2.1
abbrev eA (E : En) : Nat → Nat := E.2.2.2.2.1
abbrev eK (E : En) : Nat → Nat := E.2.2.2.2.2.1
abbrev eV (E : En) : Nat → Nat := E.2.2.2.2.2.2
def vi (x : Int) : Value := .int (Int32.ofInt x)
def vl (x : Int) : Value := .long (Int64.ofInt x)
def rf (E : En) (j : Nat) : Value := .ref (eA E j)
/-- a reference that is kept as a number: 0 is null -/
def dr (E : En) (x : Int) : Value := if x = 0 then .null else .ref (eA E x.toNat)
def AA (E : En) : Nat → Prop := fun q => eB E ≤ q
def fsX0 (E : En) (j : Nat) (r : Nat → Int) : List Value := [rf E 23, rf E 24, vi (r 2)]
def fsX1 (E : En) (j : Nat) (r : Nat → Int) : List Value := [rf E 14, rf E 21, dr E (r 2), vi (r 3)]
def fsX2 (E : En) (j : Nat) (r : Nat → Int) : List Value := [rf E (j + 1), rf E (j + 2), rf E (j + 3), rf E (j + 4), vi (r 4), vi (r 5), vi (r 6), vi (r 7), vi (r 8), vi (r 9), vi (r 10), vi (r 11), vi (r 12), vi (r 13), vi (r 14), vi (r 15), vi (r 16), vi (r 17), vi (r 18)]
def fsX3 (E : En) (j : Nat) (r : Nat → Int) : List Value := [rf E 2, vi (r 1), vi (r 2), vi (r 3), dr E (r 4), vi (r 5), vi (r 6), vi (r 7), vi (r 8), vi (r 9)]
def fsX4 (E : En) (j : Nat) (r : Nat → Int) : List Value := [rf E (j + 1), vi (r 1), vi (r 2)]
def fsX5 (E : En) (j : Nat) (r : Nat → Int) : List Value := [rf E 1, rf E 3, rf E 8, rf E 13, rf E 22, rf E 25, rf E 26, rf E 27, vi (r 8)]
def fsX6 (E : En) (j : Nat) (r : Nat → Int) : List Value := [rf E 47, vi (r 1), rf E 48, vi (r 3), rf E 49, rf E 50, vi (r 6), vi (r 7), vi (r 8), rf E 51, vi (r 10), vi (r 11), vi (r 12), vi (r 13), vi (r 14), vi (r 15), vi (r 16), vi (r 17), rf E 52, rf E 53, rf E 54, rf E 55, vi (r 22), rf E 56, rf E 57, rf E 58, rf E 59, vi (r 27)]
def cf (E : En) (i : Nat) (r : Nat → Int) : va_E := match i with
  | 0 => .inr (5, fsX5 E 0 r)
  | 1 => .inr (3, fsX3 E 1 r)
  | 2 => .inl (eC E 0, 160, .inl (fun k => Int32.ofInt (r k)))
  | 3 => .inr (2, fsX2 E 3 r)
  | 4 => .inl (eC E 0, 4, .inl (fun k => Int32.ofInt (r k)))
  | 5 => .inl (eC E 0, 4, .inl (fun k => Int32.ofInt (r k)))
  | 6 => .inl (eC E 0, 4, .inl (fun k => Int32.ofInt (r k)))
  | 7 => .inl (eC E 0, 4, .inl (fun k => Int32.ofInt (r k)))
  | 8 => .inr (2, fsX2 E 8 r)
  | 9 => .inl (eC E 0, 4, .inl (fun k => Int32.ofInt (r k)))
  | 10 => .inl (eC E 0, 4, .inl (fun k => Int32.ofInt (r k)))
  | 11 => .inl (eC E 0, 4, .inl (fun k => Int32.ofInt (r k)))
  | 12 => .inl (eC E 0, 4, .inl (fun k => Int32.ofInt (r k)))
  | 13 => .inr (1, fsX1 E 13 r)
  | 14 => .inl (eC E 5, 6, .inr (.inr (.inr (.inr (fun k => some (eA E (k + 15)))))))
  | 15 => .inl (eC E 0, 41, .inl (fun k => Int32.ofInt (r k)))
  | 16 => .inl (eC E 0, 41, .inl (fun k => Int32.ofInt (r k)))
  | 17 => .inl (eC E 0, 41, .inl (fun k => Int32.ofInt (r k)))
  | 18 => .inl (eC E 0, 41, .inl (fun k => Int32.ofInt (r k)))
  | 19 => .inl (eC E 0, 41, .inl (fun k => Int32.ofInt (r k)))
  | 20 => .inl (eC E 0, 41, .inl (fun k => Int32.ofInt (r k)))
  | 21 => .inl (eC E 0, 41, .inl (fun k => Int32.ofInt (r k)))
  | 22 => .inr (0, fsX0 E 22 r)
  | 23 => .inl (eC E 0, 6, .inl (fun k => Int32.ofInt (r k)))
  | 24 => .inl (eC E 0, 6, .inl (fun k => Int32.ofInt (r k)))
  | 25 => .inl (eC E 3, 2, .inr (.inr (.inr (.inr (fun k => some (eA E (k * 5 + 28)))))))
  | 26 => .inl (eC E 1, 2, .inl (fun k => Int32.ofInt (r k)))
  | 27 => .inl (eC E 4, 4, .inr (.inr (.inr (.inr (fun k => some (eA E (k * 2 + 38)))))))
  | 28 => .inr (2, fsX2 E 28 r)
  | 29 => .inl (eC E 0, 4, .inl (fun k => Int32.ofInt (r k)))
  | 30 => .inl (eC E 0, 4, .inl (fun k => Int32.ofInt (r k)))
  | 31 => .inl (eC E 0, 4, .inl (fun k => Int32.ofInt (r k)))
  | 32 => .inl (eC E 0, 4, .inl (fun k => Int32.ofInt (r k)))
  | 33 => .inr (2, fsX2 E 33 r)
  | 34 => .inl (eC E 0, 4, .inl (fun k => Int32.ofInt (r k)))
  | 35 => .inl (eC E 0, 4, .inl (fun k => Int32.ofInt (r k)))
  | 36 => .inl (eC E 0, 4, .inl (fun k => Int32.ofInt (r k)))
  | 37 => .inl (eC E 0, 4, .inl (fun k => Int32.ofInt (r k)))
  | 38 => .inr (4, fsX4 E 38 r)
  | 39 => .inl (eC E 0, 40, .inl (fun k => Int32.ofInt (r k)))
  | 40 => .inr (4, fsX4 E 40 r)
  | 41 => .inl (eC E 0, 40, .inl (fun k => Int32.ofInt (r k)))
  | 42 => .inr (4, fsX4 E 42 r)
  | 43 => .inl (eC E 0, 40, .inl (fun k => Int32.ofInt (r k)))
  | 44 => .inr (4, fsX4 E 44 r)
  | 45 => .inl (eC E 0, 40, .inl (fun k => Int32.ofInt (r k)))
  | 46 => .inr (6, fsX6 E 46 r)
  | 47 => .inl (eC E 0, 125, .inl (fun k => Int32.ofInt (r k)))
  | 48 => .inl (eC E 0, 4, .inl (fun k => Int32.ofInt (r k)))
  | 49 => .inl (eC E 0, 25, .inl (fun k => Int32.ofInt (r k)))
  | 50 => .inl (eC E 0, 4, .inl (fun k => Int32.ofInt (r k)))
  | 51 => .inl (eC E 0, 160, .inl (fun k => Int32.ofInt (r k)))
  | 52 => .inl (eC E 0, 12, .inl (fun k => Int32.ofInt (r k)))
  | 53 => .inl (eC E 0, 54, .inl (fun k => Int32.ofInt (r k)))
  | 54 => .inl (eC E 2, 3936, .inr (.inl (fun k => Int64.ofInt (r k))))
  | 55 => .inl (eC E 0, 12, .inl (fun k => Int32.ofInt (r k)))
  | 56 => .inl (eC E 1, 2, .inl (fun k => Int32.ofInt (r k)))
  | 57 => .inl (eC E 0, 4, .inl (fun k => Int32.ofInt (r k)))
  | 58 => .inl (eC E 0, 4, .inl (fun k => Int32.ofInt (r k)))
  | 59 => .inl (eC E 0, 160, .inl (fun k => Int32.ofInt (r k)))
  | _ => .inl (eC E 0, 0, .inl (fun k => Int32.ofInt (r k)))
def hp (E : En) (M : Mem) : va_W := (List.range 60).map (fun i => (eA E i, cf E i (M i)))
def sr (M : Mem) (a : Nat) (r : Nat → Int) : Mem := fun i => if i = a then r else M i
def st (M : Mem) (a k : Nat) (v : Int) : Mem := sr M a (fun j => if j = k then v else M a j)
theorem hp_get (E : En) (M : Mem) {j : Nat} (hj : j < 60) : (hp E M)[j]? = some (eA E j, cf E j (M j)) := by
  unfold hp; rw [List.getElem?_map, List.getElem?_range hj]; rfl
theorem hp_set (E : En) (M : Mem) {j : Nat} (hj : j < 60) (r : Nat → Int) : (hp E M).set j (eA E j, cf E j r) = hp E (sr M j r) := by
  apply List.ext_getElem?
  intro i
  rw [List.getElem?_set]
  by_cases e : j = i
  · subst e
    rw [if_pos rfl, hp_get E _ hj]
    have hl : j < (hp E M).length := by unfold hp; rw [List.length_map, List.length_range]; exact hj
    rw [if_pos hl]
    simp [sr]
  · rw [if_neg e]
    unfold hp
    rw [List.getElem?_map, List.getElem?_map]
    by_cases hi : i < 60
    · rw [List.getElem?_range hi]
      have e2 : sr M j r i = M i := by unfold sr; rw [if_neg (fun z => e z.symm)]
      simp [e2]
    · rw [List.getElem?_eq_none (by rw [List.length_range]; omega)]
      rfl
abbrev tys (E : En) : List (ClassId × FieldType) := [(eC E 0, .int), (eC E 1, .boolean), (eC E 2, .long), (eC E 3, .object "FatLean$Court"), (eC E 4, .object "FatLean$Sheet"), (eC E 5, .array .int)]
def isX2 (j : Nat) : Prop := j = 3 ∨ j = 8 ∨ j = 28 ∨ j = 33
def isX4 (j : Nat) : Prop := j = 38 ∨ j = 40 ∨ j = 42 ∨ j = 44
theorem hcX0 (E : En) (r : Nat → Int) : cf E 22 r = .inr (0, fsX0 E 22 r) := rfl
theorem hcX1 (E : En) (r : Nat → Int) : cf E 13 r = .inr (1, fsX1 E 13 r) := rfl
theorem hcX3 (E : En) (r : Nat → Int) : cf E 1 r = .inr (3, fsX3 E 1 r) := rfl
theorem hcX5 (E : En) (r : Nat → Int) : cf E 0 r = .inr (5, fsX5 E 0 r) := rfl
theorem hcX6 (E : En) (r : Nat → Int) : cf E 46 r = .inr (6, fsX6 E 46 r) := rfl
theorem hcX2 {j : Nat} (h : isX2 j) (E : En) (r : Nat → Int) : cf E j r = .inr (2, fsX2 E j r) := by rcases h with rfl | rfl | rfl | rfl <;> rfl
theorem ltX2 {j : Nat} (h : isX2 j) : j < 60 := by rcases h with rfl | rfl | rfl | rfl <;> decide
theorem hcX4 {j : Nat} (h : isX4 j) (E : En) (r : Nat → Int) : cf E j r = .inr (4, fsX4 E j r) := by rcases h with rfl | rfl | rfl | rfl <;> rfl
theorem ltX4 {j : Nat} (h : isX4 j) : j < 60 := by rcases h with rfl | rfl | rfl | rfl <;> decide
/-- an array of ints, of booleans, of longs, of n elements -/
def isI (a n : Nat) : Prop := a < 60 ∧ n < 2 ^ 31 ∧ ∀ (E : En) (r : Nat → Int), cf E a r = .inl (eC E 0, n, .inl (fun k => Int32.ofInt (r k)))
def isZ (a n : Nat) : Prop := a < 60 ∧ n < 2 ^ 31 ∧ ∀ (E : En) (r : Nat → Int), cf E a r = .inl (eC E 1, n, .inl (fun k => Int32.ofInt (r k)))
def isJ (a n : Nat) : Prop := a < 60 ∧ n < 2 ^ 31 ∧ ∀ (E : En) (r : Nat → Int), cf E a r = .inl (eC E 2, n, .inr (.inl (fun k => Int64.ofInt (r k))))
/-- an array of references: what kind, where its k-th leads -/
def isR (t a n : Nat) (f : Nat → Nat) : Prop := a < 60 ∧ n < 2 ^ 31 ∧ ∀ (E : En) (r : Nat → Int), cf E a r = .inl (eC E t, n, .inr (.inr (.inr (.inr (fun k => some (eA E (f k)))))))
theorem ar_2 : isI 2 160 := ⟨by decide, by decide, fun _ _ => rfl⟩
theorem ar_4 : isI 4 4 := ⟨by decide, by decide, fun _ _ => rfl⟩
theorem ar_5 : isI 5 4 := ⟨by decide, by decide, fun _ _ => rfl⟩
theorem ar_6 : isI 6 4 := ⟨by decide, by decide, fun _ _ => rfl⟩
theorem ar_7 : isI 7 4 := ⟨by decide, by decide, fun _ _ => rfl⟩
theorem ar_9 : isI 9 4 := ⟨by decide, by decide, fun _ _ => rfl⟩
theorem ar_10 : isI 10 4 := ⟨by decide, by decide, fun _ _ => rfl⟩
theorem ar_11 : isI 11 4 := ⟨by decide, by decide, fun _ _ => rfl⟩
theorem ar_12 : isI 12 4 := ⟨by decide, by decide, fun _ _ => rfl⟩
theorem ar_14 : isR 5 14 6 (fun k => k + 15) := ⟨by decide, by decide, fun _ _ => rfl⟩
theorem ar_15 : isI 15 41 := ⟨by decide, by decide, fun _ _ => rfl⟩
theorem ar_16 : isI 16 41 := ⟨by decide, by decide, fun _ _ => rfl⟩
theorem ar_17 : isI 17 41 := ⟨by decide, by decide, fun _ _ => rfl⟩
theorem ar_18 : isI 18 41 := ⟨by decide, by decide, fun _ _ => rfl⟩
theorem ar_19 : isI 19 41 := ⟨by decide, by decide, fun _ _ => rfl⟩
theorem ar_20 : isI 20 41 := ⟨by decide, by decide, fun _ _ => rfl⟩
theorem ar_21 : isI 21 41 := ⟨by decide, by decide, fun _ _ => rfl⟩
theorem ar_23 : isI 23 6 := ⟨by decide, by decide, fun _ _ => rfl⟩
theorem ar_24 : isI 24 6 := ⟨by decide, by decide, fun _ _ => rfl⟩
theorem ar_25 : isR 3 25 2 (fun k => k * 5 + 28) := ⟨by decide, by decide, fun _ _ => rfl⟩
theorem ar_26 : isZ 26 2 := ⟨by decide, by decide, fun _ _ => rfl⟩
theorem ar_27 : isR 4 27 4 (fun k => k * 2 + 38) := ⟨by decide, by decide, fun _ _ => rfl⟩
theorem ar_29 : isI 29 4 := ⟨by decide, by decide, fun _ _ => rfl⟩
theorem ar_30 : isI 30 4 := ⟨by decide, by decide, fun _ _ => rfl⟩
theorem ar_31 : isI 31 4 := ⟨by decide, by decide, fun _ _ => rfl⟩
theorem ar_32 : isI 32 4 := ⟨by decide, by decide, fun _ _ => rfl⟩
theorem ar_34 : isI 34 4 := ⟨by decide, by decide, fun _ _ => rfl⟩
theorem ar_35 : isI 35 4 := ⟨by decide, by decide, fun _ _ => rfl⟩
theorem ar_36 : isI 36 4 := ⟨by decide, by decide, fun _ _ => rfl⟩
theorem ar_37 : isI 37 4 := ⟨by decide, by decide, fun _ _ => rfl⟩
theorem ar_39 : isI 39 40 := ⟨by decide, by decide, fun _ _ => rfl⟩
theorem ar_41 : isI 41 40 := ⟨by decide, by decide, fun _ _ => rfl⟩
theorem ar_43 : isI 43 40 := ⟨by decide, by decide, fun _ _ => rfl⟩
theorem ar_45 : isI 45 40 := ⟨by decide, by decide, fun _ _ => rfl⟩
theorem ar_47 : isI 47 125 := ⟨by decide, by decide, fun _ _ => rfl⟩
theorem ar_48 : isI 48 4 := ⟨by decide, by decide, fun _ _ => rfl⟩
theorem ar_49 : isI 49 25 := ⟨by decide, by decide, fun _ _ => rfl⟩
theorem ar_50 : isI 50 4 := ⟨by decide, by decide, fun _ _ => rfl⟩
theorem ar_51 : isI 51 160 := ⟨by decide, by decide, fun _ _ => rfl⟩
theorem ar_52 : isI 52 12 := ⟨by decide, by decide, fun _ _ => rfl⟩
theorem ar_53 : isI 53 54 := ⟨by decide, by decide, fun _ _ => rfl⟩
theorem ar_54 : isJ 54 3936 := ⟨by decide, by decide, fun _ _ => rfl⟩
theorem ar_55 : isI 55 12 := ⟨by decide, by decide, fun _ _ => rfl⟩
theorem ar_56 : isZ 56 2 := ⟨by decide, by decide, fun _ _ => rfl⟩
theorem ar_57 : isI 57 4 := ⟨by decide, by decide, fun _ _ => rfl⟩
theorem ar_58 : isI 58 4 := ⟨by decide, by decide, fun _ _ => rfl⟩
theorem ar_59 : isI 59 160 := ⟨by decide, by decide, fun _ _ => rfl⟩
theorem ar_X2_0 {j : Nat} (h : isX2 j) : isI (j + 1) 4 := by rcases h with rfl | rfl | rfl | rfl <;> exact ⟨by decide, by decide, fun _ _ => rfl⟩
theorem ar_X2_1 {j : Nat} (h : isX2 j) : isI (j + 2) 4 := by rcases h with rfl | rfl | rfl | rfl <;> exact ⟨by decide, by decide, fun _ _ => rfl⟩
theorem ar_X2_2 {j : Nat} (h : isX2 j) : isI (j + 3) 4 := by rcases h with rfl | rfl | rfl | rfl <;> exact ⟨by decide, by decide, fun _ _ => rfl⟩
theorem ar_X2_3 {j : Nat} (h : isX2 j) : isI (j + 4) 4 := by rcases h with rfl | rfl | rfl | rfl <;> exact ⟨by decide, by decide, fun _ _ => rfl⟩
theorem ar_X4_0 {j : Nat} (h : isX4 j) : isI (j + 1) 40 := by rcases h with rfl | rfl | rfl | rfl <;> exact ⟨by decide, by decide, fun _ _ => rfl⟩
theorem is_3 : isX2 3 := by simp [isX2]
theorem is_8 : isX2 8 := by simp [isX2]
theorem is_28 : isX2 28 := by simp [isX2]
theorem is_33 : isX2 33 := by simp [isX2]
theorem is_38 : isX4 38 := by simp [isX4]
theorem is_40 : isX4 40 := by simp [isX4]
theorem is_42 : isX4 42 := by simp [isX4]
theorem is_44 : isX4 44 := by simp [isX4]
def GW (w : Cond) : Prop := w ∈ lw_tbl ∧ goodWord w = true
theorem gw_of {w : Cond} (i : Nat) (h : lw_tbl[i]? = some w) (h2 : goodWord w = true) : GW w := ⟨List.mem_of_getElem? h, h2⟩
