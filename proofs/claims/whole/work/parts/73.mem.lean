/-! lines: the object's memory X beside the reference's Y -/
def Kp (X X' : Mem) : Prop := (∀ a, a ≠ 1 → X' a = X a) ∧ (∀ j, j < 2 ∨ j = 4 ∨ j = 5 ∨ 9 < j → X' 1 j = X 1 j) ∧ (X' 1 2 = 0 → X 1 2 = 0 ∧ X 1 8 ≤ X' 1 8)
def Kq (Y Y' : Mem) : Prop := (∀ a, a ≠ 46 → Y' a = Y a) ∧ ∀ j, j < 12 ∨ 17 < j → Y' 46 j = Y 46 j
def Gd (len : Nat) (X Y : Mem) : Prop := TpOk (X 2) len ∧ TpOk (Y 51) len ∧ (∀ i, i < len → X 2 i = Y 51 i) ∧ X 1 1 = (len : Int) ∧ X 1 4 = 8 ∧ Y 46 10 = (len : Int) ∧ RelC Y
def Kd (X X' : Mem) : Prop := (∀ a, a ≠ 1 → (a < 8 ∨ 12 < a) → X' a = X a) ∧ (∀ j, j < 2 ∨ j = 4 ∨ 9 < j → X' 1 j = X 1 j)
def Ke (Y Y' : Mem) : Prop := (∀ a, a ≠ 46 → a ≠ 49 → a ≠ 50 → Y' a = Y a) ∧ ∀ j, j < 6 ∨ j = 9 ∨ j = 10 ∨ j = 11 ∨ 17 < j → Y' 46 j = Y 46 j
def Mo (X X' : Mem) : Prop := X' 1 2 = 0 → X 1 2 = 0 ∧ X 1 8 ≤ X' 1 8
theorem Kp.refl (X : Mem) : Kp X X := ⟨fun _ _ => rfl, fun _ _ => rfl, fun z => ⟨z, Int.le_refl _⟩⟩
theorem Kp.trans {X Y Z : Mem} (h : Kp X Y) (g : Kp Y Z) : Kp X Z := ⟨fun a ha => (g.1 a ha).trans (h.1 a ha), fun j hj => (g.2.1 j hj).trans (h.2.1 j hj), fun z => by have a := g.2.2 z; have b := h.2.2 a.1; exact ⟨b.1, by omega⟩⟩
theorem Kq.refl (X : Mem) : Kq X X := ⟨fun _ _ => rfl, fun _ _ => rfl⟩
theorem Kq.trans {X Y Z : Mem} (h : Kq X Y) (g : Kq Y Z) : Kq X Z := ⟨fun a ha => (g.1 a ha).trans (h.1 a ha), fun j hj => (g.2 j hj).trans (h.2 j hj)⟩
theorem Kd.refl (X : Mem) : Kd X X := ⟨fun _ _ _ => rfl, fun _ _ => rfl⟩
theorem Kd.trans {X Y Z : Mem} (h : Kd X Y) (g : Kd Y Z) : Kd X Z := ⟨fun a ha hb => (g.1 a ha hb).trans (h.1 a ha hb), fun j hj => (g.2 j hj).trans (h.2 j hj)⟩
theorem Ke.refl (X : Mem) : Ke X X := ⟨fun _ _ _ _ => rfl, fun _ _ => rfl⟩
theorem Ke.trans {X Y Z : Mem} (h : Ke X Y) (g : Ke Y Z) : Ke X Z := ⟨fun a ha hb hc => (g.1 a ha hb hc).trans (h.1 a ha hb hc), fun j hj => (g.2 j hj).trans (h.2 j hj)⟩
theorem Mo.refl (X : Mem) : Mo X X := fun z => ⟨z, Int.le_refl _⟩
theorem Mo.trans {X Y Z : Mem} (h : Mo X Y) (g : Mo Y Z) : Mo X Z := fun z => by have a := g z; have b := h a.1; exact ⟨b.1, by omega⟩
theorem Kp.d {X X' : Mem} (h : Kp X X') : Kd X X' := ⟨fun a ha _ => h.1 a ha, fun j hj => h.2.1 j (by omega)⟩
theorem Kp.m {X X' : Mem} (h : Kp X X') : Mo X X' := h.2.2
theorem Kq.e {Y Y' : Mem} (h : Kq Y Y') : Ke Y Y' := ⟨fun a ha _ _ => h.1 a ha, fun j hj => h.2 j (by omega)⟩
theorem Kd_st {X : Mem} {a k : Nat} {v : Int} (h : 8 ≤ a ∧ a ≤ 12) : Kd X (st X a k v) := ⟨fun b hb hc => st_ne _ _ _ (by omega), fun j hj => by rw [st_ne _ _ _ (by omega)]⟩
theorem Mo_st {X : Mem} {a k : Nat} {v : Int} (h : 8 ≤ a ∧ a ≤ 12) : Mo X (st X a k v) := by
  unfold Mo; rw [st_ne _ _ _ (by omega)]; exact fun z => ⟨z, Int.le_refl _⟩
theorem Kd_5 {X : Mem} {v : Int} : Kd X (st X 1 5 v) := ⟨fun b hb hc => st_ne _ _ _ hb, fun j hj => st_nk _ _ _ (by omega)⟩
theorem Ke_st {Y : Mem} {a k : Nat} {v : Int} (h : a = 49 ∨ a = 50) : Ke Y (st Y a k v) := ⟨fun b hb hc hd => st_ne _ _ _ (by omega), fun j hj => by rw [st_ne _ _ _ (by omega)]⟩
theorem Ke_46 {Y : Mem} {k : Nat} {v : Int} (h : k = 6 ∨ k = 7 ∨ k = 8) : Ke Y (st Y 46 k v) := ⟨fun b hb hc hd => st_ne _ _ _ hb, fun j hj => st_nk _ _ _ (by omega)⟩
theorem Gd_k {len : Nat} {X X' Y Y' : Mem} (g : Gd len X Y) (h : Kd X X') (k : Ke Y Y') : Gd len X' Y' := by
  obtain ⟨g1, g2, g3, g4, g5, g6, g7⟩ := g
  have e2 := h.1 2 (by decide) (by decide)
  have e51 := k.1 51 (by decide) (by decide) (by decide)
  refine ⟨by rw [e2]; exact g1, by rw [e51]; exact g2, by rw [e2, e51]; exact g3, by rw [h.2 1 (by decide)]; exact g4, by rw [h.2 4 (by decide)]; exact g5, by rw [k.2 10 (by decide)]; exact g6, ?_⟩
  exact RelC_k g7 (k.1 52 (by decide) (by decide) (by decide)) (k.1 53 (by decide) (by decide) (by decide))
theorem take_w {n len : Nat} {X Y : Mem} (hn : 1000 ≤ n) (g : Gd len X Y) (h : Bq (Y 51) len (X 1) (Y 46)) : ∃ X', f_X3_take n X = some X' ∧ Aq len (X' 1) (Y 46) ∧ Kp X X' ∧ (X' 1 2 = 0 → X' 1 6 ≠ 3 → X 1 8 < X' 1 8) := by
  obtain ⟨g1, g2, g3, g4, g5, g6, g7⟩ := g
  obtain ⟨r', a1, a2, a3, a4⟩ := B_take (N := X) (t := Y 51) (r := X 1) hn g1 g3 g4 h
  rw [sr_self] at a1
  exact ⟨sr X 1 r', a1, by rw [sr_same]; exact a2, ⟨fun a ha => sr_ne _ _ ha, fun j hj => by rw [sr_same]; exact a3 j hj, by rw [sr_same]; exact fun z => ⟨(a4 z).1, (a4 z).2.1⟩⟩, by rw [sr_same]; exact fun z => (a4 z).2.2⟩
theorem step_w {n len : Nat} {X Y : Mem} (hn : 1000 ≤ n) (g : Gd len X Y) (h : Aq len (X 1) (Y 46)) : ∃ Y', f_X6_step n Y = some Y' ∧ Bq (Y' 51) len (X 1) (Y' 46) ∧ Kq Y Y' := by
  obtain ⟨g1, g2, g3, g4, g5, g6, g7⟩ := g
  obtain ⟨q', a1, a2, a3⟩ := A_step (N := Y) (r := X 1) (q := Y 46) hn g2 g6 h
  rw [sr_self] at a1
  exact ⟨sr Y 46 q', a1, by rw [sr_same, sr_ne _ _ (by decide)]; exact a2, fun a ha => sr_ne _ _ ha, fun j hj => by rw [sr_same]; exact a3 j hj⟩
theorem fail_w {len : Nat} {X Y : Mem} (x : Int) (hx : 1 ≤ x ∧ x ≤ 5) (h : Aq len (X 1) (Y 46)) : ∃ X' Y', f_X3_fail x X = some X' ∧ f_X6_fails x Y = some Y' ∧ Br len (X' 1) (Y' 46) ∧ Kp X X' ∧ Kq Y Y' := by
  obtain ⟨r', q', a1, a2, a3, a4, a5⟩ := A_fail (N := X) (K := Y) (r := X 1) (q := Y 46) hx h
  rw [sr_self] at a1 a2
  refine ⟨sr X 1 r', sr Y 46 q', a1, a2, by rw [sr_same, sr_same]; exact a3, ⟨fun a ha => sr_ne _ _ ha, fun j hj => by rw [sr_same]; exact a4 j (by omega) (by omega), by rw [sr_same]; have := a3.1; exact fun z => by omega⟩, fun a ha => sr_ne _ _ ha, fun j hj => by rw [sr_same]; exact a5 j (by omega) (by omega)⟩
theorem num_w {n len : Nat} {X Y : Mem} (lo hi : Int) (hlo : rg lo) (hhi : rg hi) (hn : 1000 ≤ n) (g : Gd len X Y) (h : Bq (Y 51) len (X 1) (Y 46)) : ∃ v w X' Y', f_X3_takeWithin n lo hi X = some (v, X') ∧ f_X6_number n lo hi Y = some (w, Y') ∧ Bq (Y' 51) len (X' 1) (Y' 46) ∧ (X' 1 2 = 0 → v = w ∧ lo ≤ v ∧ v ≤ hi ∧ Nw (Y 46) v) ∧ Kp X X' ∧ Kq Y Y' := by
  obtain ⟨g1, g2, g3, g4, g5, g6, g7⟩ := g
  obtain ⟨v, w, r', q', a1, a2, a3, a4, a5, a6, a7⟩ := within_both (N := X) (K := Y) (r := X 1) (q := Y 46) hn g1 g2 g3 g4 g6 hlo hhi h
  rw [sr_self] at a1 a2
  exact ⟨v, w, sr X 1 r', sr Y 46 q', a1, a2, by rw [sr_same, sr_same, sr_ne _ _ (by decide)]; exact a3, by rw [sr_same]; exact a4, ⟨fun a ha => sr_ne _ _ ha, fun j hj => by rw [sr_same]; exact a5 j hj, by rw [sr_same]; exact a7⟩, fun a ha => sr_ne _ _ ha, fun j hj => by rw [sr_same]; exact a6 j hj⟩
/-- the reference is broken, the object is or will be at its next token -/
def Zw (len : Nat) (X Y : Mem) : Prop := Bq (Y 51) len (X 1) (Y 46) ∧ Y 46 12 ≠ 0
theorem Br_z {len : Nat} {X Y : Mem} (h : Br len (X 1) (Y 46)) : Zw len X Y := ⟨Or.inr h, by have := h.1; have := h.2.1; omega⟩
theorem take_z {n len : Nat} {X Y : Mem} (hn : 1000 ≤ n) (g : Gd len X Y) (h : Zw len X Y) : ∃ X', f_X3_take n X = some X' ∧ Br len (X' 1) (Y 46) ∧ Kp X X' := by
  obtain ⟨X', a1, a2, a3, -⟩ := take_w hn g h.1
  refine ⟨X', a1, ?_, a3⟩
  rcases a2 with b | b
  · exact absurd b.2.1 h.2
  · exact b
theorem fail_z {len : Nat} {X Y : Mem} (x : Int) (h : Br len (X 1) (Y 46)) : f_X3_fail x X = some X := by
  have := fail_f (N := X) (r := X 1) (x := x) h.1
  rw [sr_self] at this; exact this
theorem takeB_z {n len : Nat} {X Y : Mem} (h : Br len (X 1) (Y 46)) : f_X3_take n X = some X := by
  have := take_f (n := n) (N := X) (r := X 1) (by have := h.1; omega)
  rw [sr_self] at this; exact this
theorem stepB_z {n len : Nat} {X Y : Mem} (h : Br len (X 1) (Y 46)) : f_X6_step n Y = some Y := by
  have := step_f (n := n) (N := Y) (r := Y 46) (by have := h.1; have := h.2.1; omega)
  rw [sr_self] at this; exact this
theorem within_z {n len : Nat} {X Y : Mem} (lo hi : Int) (hn : 1000 ≤ n) (g : Gd len X Y) (h : Zw len X Y) : ∃ X', f_X3_takeWithin n lo hi X = some (0, X') ∧ Br len (X' 1) (Y 46) ∧ Kp X X' := by
  obtain ⟨X', a1, a2, a3⟩ := take_z hn g h
  refine ⟨X', ?_, a2, a3⟩
  unfold f_X3_takeWithin
  rw [a1, Option.bind_some, wr_id (x := X' 1 2) (by have := a2.1; omega) (by have := a2.1; omega), if_neg (by have := a2.1; omega)]
/-- any asking for a word is answered -/
theorem isWord_b {n len k : Nat} {N : Mem} {r : Nat → Int} (hn : 1000 ≤ n) (ht : TpOk (N 2) len) (hk : k < 11) (h : ShR len r) : ∃ b, f_X3_isWord n k (sr N 1 r) = some b := by
  by_cases q : wr (r 6) = 0
  · obtain ⟨s, e, h7, h8, h9, h10⟩ := h
    have hl := ht.1
    have wk := word_all ⟨k, hk⟩
    dsimp only at wk
    unfold f_X3_isWord
    rw [sr_same, if_pos q, h7, h8, wr_id (x := (e : Int) - (s : Int)) (by omega) (by omega), show slen k = (wlS k : Int) from rfl, wr_id (x := (wlS k : Int)) (by omega) (by omega)]
    by_cases z : e - s = wlS k
    · rw [if_pos (by omega)]
      exact ⟨_, isWord_lp (n0 := n) (N := N) (r := r) ht hk h7 (by omega) (wlS k) n 0 (by omega) (by omega)⟩
    · rw [if_neg (by omega)]; exact ⟨0, rfl⟩
  · refine ⟨0, ?_⟩
    unfold f_X3_isWord
    rw [sr_same, if_neg q]
theorem isWord_z {n len k : Nat} {X Y : Mem} (hn : 1000 ≤ n) (g : Gd len X Y) (hk : k < 11) (h : Br len (X 1) (Y 46)) : ∃ b, f_X3_isWord n k X = some b := by
  have := isWord_b (n := n) (N := X) (r := X 1) hn g.1 hk h.2.2.2
  rw [sr_self] at this; exact this
