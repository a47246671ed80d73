theorem bt_0 : ∀ r : Fin 4, bt 0 (r.val : Int) = 0 := by decide +kernel
theorem tlS_0 {R : Nat → Int} {y f : Int} : ∀ m, m ≤ 4 → tlS R 0 y f m = 0
  | 0, _ => rfl
  | m + 1, h => by
    have a := bt_0 ⟨m, by omega⟩
    rw [tlS, if_neg (fun q => by have := q.1; dsimp only at a; omega), tlS_0 m (by omega)]
theorem vlS_0 {S : Nat → Int} {B : Int → Int} {O R : Nat → Int} {m : Nat} (hm : m ≤ 4) (k : Nat) (y s : Int) : vlS S B O R m k y 0 s = 0 := by
  cases k with
  | zero => rfl
  | succ k => rw [vlS]; unfold vbS; rw [tlS_0 m hm, tlS_0 m hm, if_pos rfl, if_pos rfl]; rfl
theorem shl_m : ∀ m : Fin 5, wr (bShl 1 (m.val : Int)) = ((2 ^ m.val : Nat) : Int) := by decide +kernel
/-- the rows of fewer years are laid -/
def TbA (T : Nat → Int) (S : Nat → Int) (B : Int → Int) (O R : Nat → Int) (m : Nat) (yE : Int) (k : Nat) : Prop := ∀ j, j < k → TbR T m j (vlS S B O R m j (yE - j))
theorem lay_s {n : Nat} {X : Mem} {S : Nat → Int} {B : Int → Int} {O R : Nat → Int} {m k a : Nat} {Y y : Int} (hn : 1000 ≤ n) (h : RefS X S B O R m) (H : OkV S B O m) (hk : k ≤ 5) (ha : a < 2 ^ m) : ∀ (t q s : Nat) (T : Nat → Int), t < q → s + t = 41 → TbA T S B O R m (y + k) k → (∀ s' : Nat, s' < s → T (656 * k + 41 * a + s') = vlS S B O R m k y (a : Int) (s' : Int)) → ∃ T', lp (fun z => f_X6_layWorths_36 n Y (k : Int) y (a : Int) z.1 z.2) q ((s : Int), sr X 54 T) = some (.inl ((a : Int) + 1, sr X 54 T')) ∧ (∀ i, i < 656 * k + 41 * a ∨ 656 * k + 41 * a + 41 ≤ i → T' i = T i) ∧ ∀ s' : Nat, s' ≤ 40 → T' (656 * k + 41 * a + s') = vlS S B O R m k y (a : Int) (s' : Int) := by
  obtain ⟨ok, hB, hm, hO⟩ := H
  have H : OkV S B O m := ⟨ok, hB, hm, hO⟩
  have h16 := p2_16 hm
  intro t
  induction t with
  | zero =>
    intro q s T hq hs hA hS
    obtain ⟨p, rfl⟩ : ∃ p, q = p + 1 := ⟨q - 1, by omega⟩
    refine ⟨T, lp_end (s := ((s : Int), sr X 54 T)) ?_, fun _ _ => rfl, fun s' hs' => hS s' (by omega)⟩
    show f_X6_layWorths_36 n Y (k : Int) y (a : Int) (s : Int) (sr X 54 T) = _
    unfold f_X6_layWorths_36 f_X6_layWorths_98
    rw [wr_id (x := (s : Int)) (by omega) (by omega), if_pos (by omega)]
    rfl
  | succ t ih =>
    intro q s T hq hs hA hS
    obtain ⟨p, rfl⟩ : ∃ p, q = p + 1 := ⟨q - 1, by omega⟩
    have wtE : ∀ w : Int, f_X6_layWorths_91 n Y (k : Int) y (a : Int) (s : Int) w (656 * (k : Int) + 41 * (a : Int) + (s : Int)) (sr X 54 T) = some (.inl ((s : Int) + 1, sr X 54 (fun i => if i = 656 * k + 41 * a + s then w else T i))) := fun w => by
      unfold f_X6_layWorths_91
      rw [wt_id (by omega) (by omega) (by omega), Option.bind_some, show (656 * (k : Int) + 41 * (a : Int) + (s : Int)).toNat = 656 * k + 41 * a + s by omega]
      unfold st
      rw [sr_same, sr_sr]
    have e : f_X6_layWorths_36 n Y (k : Int) y (a : Int) (s : Int) (sr X 54 T) = some (.inl ((s : Int) + 1, sr X 54 (fun i => if i = 656 * k + 41 * a + s then vlS S B O R m k y (a : Int) (s : Int) else T i))) := by
      unfold f_X6_layWorths_36 f_X6_layWorths_64 f_X6_at
      rw [wr_id (x := (s : Int)) (by omega) (by omega), if_neg (by omega), Option.bind_some, wr_id (x := (k : Int)) (by omega) (by omega), wr_id (x := (a : Int)) (by omega) (by omega), wtE]
      by_cases k0 : k = 0
      · rw [if_pos (by omega), k0]; rfl
      · rw [if_neg (by omega)]
        by_cases a0 : a = 0
        · rw [if_pos (by omega), a0]
          rw [show ((0 : Nat) : Int) = 0 from rfl, vlS_0 hm]
        · rw [if_neg (by omega)]
          obtain ⟨j, rfl⟩ : ∃ j, k = j + 1 := ⟨k - 1, by omega⟩
          have vr := vl_rng (R := R) ok hB hm hO j
          have Wr := Wk_rng j (by omega)
          have hT : TbR (sr X 54 T 54) m j (vlS S B O R m j (y + 1)) := by
            rw [sr_same]
            have := hA j (by omega)
            rw [show y + ((j + 1 : Nat) : Int) - (j : Int) = y + 1 by omega] at this
            exact this
          have b0 := bestSo_r (n := n) (X := sr X 54 T) (k := j) (v := vlS S B O R m j (y + 1)) (W := Wk j) (y := y) (A := (a : Int)) (s := (s : Int)) (f := 0) hn (RefS_54 h T) H (by omega) hT (by omega) (Or.inl rfl) Wr (fun a s q1 q2 => ⟨(vr _ a s q1 q2).1, (vr _ a s q1 q2).2.1⟩)
          have b1 := bestSo_r (n := n) (X := sr X 54 T) (k := j) (v := vlS S B O R m j (y + 1)) (W := Wk j) (y := y) (A := (a : Int)) (s := (s : Int)) (f := 1) hn (RefS_54 h T) H (by omega) hT (by omega) (Or.inr rfl) Wr (fun a s q1 q2 => ⟨(vr _ a s q1 q2).1, (vr _ a s q1 q2).2.1⟩)
          rw [b0, Option.bind_some, b1, Option.bind_some, wtE, vlS]
    obtain ⟨T', c1, c2, c3⟩ := ih p (s + 1) (fun i => if i = 656 * k + 41 * a + s then vlS S B O R m k y (a : Int) (s : Int) else T i) (by omega) (by omega) (fun j hj a' t' ha' ht' => by dsimp only; rw [if_neg (by omega)]; exact hA j hj a' t' ha' ht') (fun s' hs' => by
      by_cases q : s' = s
      · rw [if_pos (by omega), q]
      · rw [if_neg (by omega)]; exact hS s' (by omega))
    refine ⟨T', ?_, fun i hi => by rw [c2 i hi, if_neg (by omega)], c3⟩
    rw [lp_succ (f := fun z => f_X6_layWorths_36 n Y (k : Int) y (a : Int) z.1 z.2) (s := ((s : Int), sr X 54 T)) e]
    exact c1
theorem lay_a {n : Nat} {X : Mem} {S : Nat → Int} {B : Int → Int} {O R : Nat → Int} {m k : Nat} {Y y : Int} (hn : 1000 ≤ n) (h : RefS X S B O R m) (H : OkV S B O m) (hk : k ≤ 5) : ∀ (t q a : Nat) (T : Nat → Int), t < q → a + t = 2 ^ m → TbA T S B O R m (y + k) k → (∀ a' s' : Nat, a' < a → s' ≤ 40 → T (656 * k + 41 * a' + s') = vlS S B O R m k y (a' : Int) (s' : Int)) → ∃ T', lp (fun z => f_X6_layWorths_22 n Y (k : Int) y z.1 z.2) q ((a : Int), sr X 54 T) = some (.inl ((k : Int) + 1, sr X 54 T')) ∧ TbA T' S B O R m (y + k) k ∧ TbR T' m k (vlS S B O R m k y) := by
  obtain ⟨ok, hB, hm, hO⟩ := H
  have H : OkV S B O m := ⟨ok, hB, hm, hO⟩
  have h16 := p2_16 hm
  intro t
  induction t with
  | zero =>
    intro q a T hq ha hA hS
    obtain ⟨p, rfl⟩ : ∃ p, q = p + 1 := ⟨q - 1, by omega⟩
    refine ⟨T, lp_end (s := ((a : Int), sr X 54 T)) ?_, hA, fun a' s' h1 h2 => hS a' s' (by omega) h2⟩
    show f_X6_layWorths_22 n Y (k : Int) y (a : Int) (sr X 54 T) = _
    unfold f_X6_layWorths_22 f_X6_layWorths_104
    rw [sr_ne _ _ (show (46 : Nat) ≠ 54 by decide), h.2.1, shl_m ⟨m, by omega⟩, wr_id (x := (a : Int)) (by omega) (by omega), if_pos (by dsimp only; omega)]
    rfl
  | succ t ih =>
    intro q a T hq ha hA hS
    obtain ⟨p, rfl⟩ : ∃ p, q = p + 1 := ⟨q - 1, by omega⟩
    obtain ⟨T1, b1, b2, b3⟩ := lay_s (n := n) (X := X) (k := k) (a := a) (Y := Y) (y := y) hn h H hk (by omega) 41 n 0 T (by omega) (by omega) hA (fun s' hs' => by omega)
    have e : f_X6_layWorths_22 n Y (k : Int) y (a : Int) (sr X 54 T) = some (.inl ((a : Int) + 1, sr X 54 T1)) := by
      unfold f_X6_layWorths_22
      rw [sr_ne _ _ (show (46 : Nat) ≠ 54 by decide), h.2.1, shl_m ⟨m, by omega⟩, wr_id (x := (a : Int)) (by omega) (by omega), if_neg (by dsimp only; omega)]
      exact b1
    obtain ⟨T', c1, c2, c3⟩ := ih p (a + 1) T1 (by omega) (by omega) (fun j hj a' t' ha' ht' => by rw [b2 _ (by omega)]; exact hA j hj a' t' ha' ht') (fun a' s' h1 h2 => by
      by_cases q : a' = a
      · subst q; exact b3 s' h2
      · rw [b2 _ (by omega)]; exact hS a' s' (by omega) h2)
    refine ⟨T', ?_, c2, c3⟩
    rw [lp_succ (f := fun z => f_X6_layWorths_22 n Y (k : Int) y z.1 z.2) (s := ((a : Int), sr X 54 T)) e]
    exact c1
theorem lay_k {n : Nat} {X : Mem} {S : Nat → Int} {B : Int → Int} {O R : Nat → Int} {m Y : Nat} (hn : 1000 ≤ n) (h : RefS X S B O R m) (H : OkV S B O m) (hY : Y ≤ 5) : ∀ (t q k : Nat) (T : Nat → Int), t < q → k + t = Y + 1 → TbA T S B O R m (S 15 + Y) k → ∃ T', lp (fun z => f_X6_layWorths_2 n (Y : Int) z.1 z.2) q ((k : Int), sr X 54 T) = some (sr X 54 T') ∧ TbA T' S B O R m (S 15 + Y) (Y + 1) := by
  obtain ⟨ok, hB, hm, hO⟩ := H
  have H : OkV S B O m := ⟨ok, hB, hm, hO⟩
  have h16 := p2_16 hm
  have e21 : X 47 21 = S 15 := by rw [← h.2.2.2.1 15 (by decide) (by decide), vw_15]
  intro t
  induction t with
  | zero =>
    intro q k T hq hk hA
    obtain ⟨p, rfl⟩ : ∃ p, q = p + 1 := ⟨q - 1, by omega⟩
    refine ⟨T, lp_end (s := ((k : Int), sr X 54 T)) ?_, by rw [show Y + 1 = k by omega]; exact hA⟩
    show f_X6_layWorths_2 n (Y : Int) (k : Int) (sr X 54 T) = _
    unfold f_X6_layWorths_2
    rw [wr_id (x := (Y : Int)) (by omega) (by omega), wr_id (x := (k : Int)) (by omega) (by omega), if_pos (by omega)]
  | succ t ih =>
    intro q k T hq hk hA
    obtain ⟨p, rfl⟩ : ∃ p, q = p + 1 := ⟨q - 1, by omega⟩
    have ey : S 15 + (Y : Int) = (S 15 + Y - k) + k := by omega
    obtain ⟨T1, b1, b2, b3⟩ := lay_a (n := n) (X := X) (k := k) (Y := (Y : Int)) (y := S 15 + Y - k) hn h H (by omega) (2 ^ m) n 0 T (by omega) (by omega) (by rw [← ey]; exact hA) (fun a' s' h1 _ => by omega)
    have e : f_X6_layWorths_2 n (Y : Int) (k : Int) (sr X 54 T) = some (.inl ((k : Int) + 1, sr X 54 T1)) := by
      unfold f_X6_layWorths_2
      rw [wr_id (x := (Y : Int)) (by omega) (by omega), wr_id (x := (k : Int)) (by omega) (by omega), if_neg (by omega), sr_ne _ _ (show (47 : Nat) ≠ 54 by decide), e21]
      exact b1
    obtain ⟨T', c1, c2⟩ := ih p (k + 1) T1 (by omega) (by omega) (fun j hj => by
      by_cases q : j = k
      · subst q; exact b3
      · rw [ey]; exact b2 j (by omega))
    refine ⟨T', ?_, c2⟩
    rw [lp_succ (f := fun z => f_X6_layWorths_2 n (Y : Int) z.1 z.2) (s := ((k : Int), sr X 54 T)) e]
    exact c1
theorem lay_r {n : Nat} {X : Mem} {S : Nat → Int} {B : Int → Int} {O R : Nat → Int} {m Y : Nat} (hn : 1000 ≤ n) (h : RefS X S B O R m) (H : OkV S B O m) (hY : Y ≤ 5) : ∃ T', f_X6_layWorths n (Y : Int) X = some (sr X 54 T') ∧ TbA T' S B O R m (S 15 + Y) (Y + 1) := by
  obtain ⟨T', b1, b2⟩ := lay_k (n := n) (X := X) (Y := Y) hn h H hY (Y + 1) n 0 (X 54) (by omega) (by omega) (fun j hj => by omega)
  rw [sr_self] at b1
  exact ⟨T', b1, b2⟩
theorem years_r {X : Mem} {x y : Int} (e : X 47 21 = y) (hx : 0 ≤ x ∧ x ≤ 5) (hy : 0 ≤ y ∧ y ≤ 8) : f_X6_yearsLeft x X = some ((min x (8 - y)).toNat : Int) := by
  unfold f_X6_yearsLeft
  rw [e, wr_id (x := 8 - y) (by omega) (by omega), wr_id (x := x) (by omega) (by omega)]
  split
  · congr 1; omega
  · congr 1; omega
theorem bestIn_r {n : Nat} {X : Mem} {S : Nat → Int} {B : Int → Int} {O R : Nat → Int} {m a : Nat} {x : Int} (hn : 1000 ≤ n) (h : RefS X S B O R m) (H : OkV S B O m) (hx : 0 ≤ x ∧ x ≤ 5) (ha : a < 2 ^ m) : ∃ T, f_X6_bestIn n x (a : Int) X = some (vlS S B O R m (min x (8 - S 15)).toNat (S 15) (a : Int) (S 10), sr X 54 T) := by
  have ok := H.1
  have h16 := p2_16 H.2.2.1
  have h10 : 0 ≤ S 10 ∧ S 10 ≤ 40 := by unfold OkS at ok; omega
  have h15 : 0 ≤ S 15 ∧ S 15 ≤ 8 := by unfold OkS at ok; omega
  have e21 : X 47 21 = S 15 := by rw [← h.2.2.2.1 15 (by decide) (by decide), vw_15]
  have e16 : X 47 16 = S 10 := by rw [← h.2.2.2.1 10 (by decide) (by decide), vw_10]
  obtain ⟨T, b1, b2⟩ := lay_r (n := n) (X := X) (Y := (min x (8 - S 15)).toNat) hn h H (by omega)
  refine ⟨T, ?_⟩
  have b3 := b2 (min x (8 - S 15)).toNat (by omega) a (S 10).toNat ha (by omega)
  rw [Int.toNat_of_nonneg h10.1, show S 15 + (((min x (8 - S 15)).toNat : Nat) : Int) - (((min x (8 - S 15)).toNat : Nat) : Int) = S 15 by omega] at b3
  unfold f_X6_bestIn f_X6_at
  rw [years_r e21 hx h15, Option.bind_some, b1, Option.bind_some, Option.bind_some, sr_ne _ _ (show (47 : Nat) ≠ 54 by decide), e16, rd_id (by omega) (by omega) (by omega), Option.bind_some, sr_same, show (656 * ((min x (8 - S 15)).toNat : Int) + 41 * (a : Int) + S 10).toNat = 656 * (min x (8 - S 15)).toNat + 41 * a + (S 10).toNat by omega, b3]
