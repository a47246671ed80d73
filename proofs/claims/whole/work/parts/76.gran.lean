/-! lines: the granary, the steward -/
theorem Lw_br {len : Nat} {X Y X' Y' : Mem} (h : Br len (X' 1) (Y' 46)) (k : Kd X X') (e : Ke Y Y') : Lw len X Y X' Y' :=
  ⟨Or.inr h, fun z => by have := h.1; omega, k, e, fun z => by have := h.1; omega⟩
theorem Br_y {len : Nat} {X Y : Mem} {a k : Nat} {v : Int} (h : Br len (X 1) (Y 46)) (ha : a ≠ 46) : Br len (X 1) (st Y a k v 46) := by rw [st_ne _ _ _ (by omega)]; exact h
theorem Br_x {len : Nat} {X Y : Mem} {a k : Nat} {v : Int} (h : Br len (X 1) (Y 46)) (ha : a ≠ 1) : Br len (st X a k v 1) (Y 46) := by rw [st_ne _ _ _ (by omega)]; exact h
theorem granary_b {n len : Nat} {X Y : Mem} (hn : 1000 ≤ n) (g : Gd len X Y) (h : Bq (Y 51) len (X 1) (Y 46)) (d : DR X Y) : ∃ X' Y', tlG n X = some X' ∧ f_X6_readOnce n 3 Y = some Y' ∧ Lw len X Y X' Y' := by
  obtain ⟨v, w, X1, Y1, a1, a2, a3, a4, a5, a6⟩ := num_w 0 40 (rgl 0) (rgl 40) hn g h
  have kd1 : Kd X (st X1 8 8 v) := a5.d.trans (Kd_st (by decide))
  have ke1 : Ke Y (st Y1 49 14 (40 - w)) := a6.e.trans (Ke_st (by decide))
  have g1 : Gd len (st X1 8 8 v) (st Y1 49 14 (40 - w)) := Gd_k g kd1 ke1
  have b0 : Bq ((st Y1 49 14 (40 - w)) 51) len ((st X1 8 8 v) 1) ((st Y1 49 14 (40 - w)) 46) := by
    rw [st_ne _ _ _ (by decide), st_ne _ _ _ (by decide), st_ne _ _ _ (by decide)]; exact a3
  have m1 : Mo X (st X1 8 8 v) := a5.m.trans (Mo_st (by decide))
  have ex : ∀ {R : Option Mem}, (∀ v7 X3, f_X3_takeWithin n 0 9 (st X1 8 8 v) = some (v7, X3) → ((ckX2 (st X3 8 9 v7 1 4)).bind fun c10 => (f_X5_isRot (st X3 8 9 v7 c10 9) (st X3 8 9 v7)).bind fun v11 => if wr v11 = 0 then (f_X3_fail 3 (st X3 8 9 v7)).bind fun M12 => f_X3_takeGranary_51 n M12 else f_X3_takeGranary_51 n (st X3 8 9 v7)) = R) → (∃ v7 X3, f_X3_takeWithin n 0 9 (st X1 8 8 v) = some (v7, X3)) → tlG n X = R := by
    intro R hr he
    obtain ⟨v7, X3, e⟩ := he
    unfold tlG
    rw [ck8 g.2.2.2.2.1, Option.bind_some, a1, Option.bind_some]
    dsimp only
    rw [Option.bind_some, ck8 g1.2.2.2.2.1, Option.bind_some, e, Option.bind_some]
    dsimp only
    rw [Option.bind_some]
    exact hr v7 X3 e
  have er : f_X6_readOnce n 3 Y = if wr (st Y1 49 14 (40 - w) 46 12) = 0 ∧ wr (st Y1 49 14 (40 - w) 46 16) = 2 ∧ wr (st Y1 49 14 (40 - w) 46 17) = 1 then (f_X6_fails 3 (st Y1 49 14 (40 - w))).bind fun M12 => f_X6_readOnce_88 n w M12 else f_X6_readOnce_88 n w (st Y1 49 14 (40 - w)) := by
    unfold f_X6_readOnce
    rw [if_neg (by rw [wr_3]; decide), if_pos wr_3, a2, Option.bind_some]
    dsimp only
    rw [Option.bind_some]
    by_cases q1 : wr (st Y1 49 14 (40 - w) 46 12) = 0
    · rw [if_pos q1]
      by_cases q2 : wr (st Y1 49 14 (40 - w) 46 16) = 2
      · rw [if_pos q2]
        by_cases q3 : wr (st Y1 49 14 (40 - w) 46 17) = 1
        · rw [if_pos q3, if_pos ⟨q1, q2, q3⟩]
        · rw [if_neg q3, if_neg (fun z => q3 z.2.2)]
      · rw [if_neg q2, if_neg (fun z => q2 z.2.1)]
    · rw [if_neg q1, if_neg (fun z => q1 z.1)]
  by_cases c : wr (st Y1 49 14 (40 - w) 46 12) = 0 ∧ wr (st Y1 49 14 (40 - w) 46 16) = 2 ∧ wr (st Y1 49 14 (40 - w) 46 17) = 1
  · obtain ⟨X3, c1, c2, c3⟩ := rot1_w hn g1 b0 c.1 c.2.1 c.2.2
    have kd3 : Kd X (st X3 8 9 1) := kd1.trans (c3.d.trans (Kd_st (by decide)))
    have c4 : Aq len (st X3 8 9 1 1) (st Y1 49 14 (40 - w) 46) := by rw [st_ne _ _ _ (by decide)]; exact c2
    obtain ⟨X5, Y5, d1, d2, d3, d4, d5⟩ := fail_w 3 (by decide) c4
    have kd5 := kd3.trans d4.d
    have ke5 := ke1.trans d5.e
    obtain ⟨X', e1, e2, e3⟩ := gr51_z hn (Gd_k g kd5 ke5) d3
    refine ⟨X', st (st Y5 49 15 0) 49 16 0, ex (fun v7 X3' e => ?_) ⟨_, _, c1⟩, ?_, Lw_br (Br_y (Br_y e2 (by decide)) (by decide)) (kd5.trans e3) (ke5.trans ((Ke_st (by decide)).trans (Ke_st (by decide))))⟩
    · cases Option.some.inj (c1.symm.trans e)
      rw [ck8 (Gd_k g kd3 ke1).2.2.2.2.1, Option.bind_some, st_same, isRot_c (rgl 1), Option.bind_some, if_neg (show ¬ ((1 : Int) ≠ 1 ∧ (0 : Int) ≤ 1 ∧ (1 : Int) ≤ 9) by decide), if_pos wr_0, d1, Option.bind_some, e1]
    · rw [er, if_pos c, d2, Option.bind_some]
      unfold f_X6_readOnce_88
      rw [numB_w 0 9 d3, Option.bind_some]
      dsimp only
      rw [Option.bind_some, numB_w (X := X5) 0 w (Br_y d3 (by decide)), Option.bind_some]
      dsimp only
      rw [Option.bind_some]
  · obtain ⟨v7, w7, X3, Y3, b1, b2, b3, b4, b5, b6⟩ := num_w 0 9 (rgl 0) (rgl 9) hn g1 b0
    have kd3 : Kd X (st X3 8 9 v7) := kd1.trans (b5.d.trans (Kd_st (by decide)))
    have ke3 : Ke Y (st Y3 49 15 w7) := ke1.trans (b6.e.trans (Ke_st (by decide)))
    have g3 : Gd len (st X3 8 9 v7) (st Y3 49 15 w7) := Gd_k g kd3 ke3
    rw [er, if_neg c]
    by_cases z : X3 1 2 = 0
    · obtain ⟨z1, z2, z3, n1, n2, n3⟩ := b4 z
      have zz := (b5.2.2 z).1
      rw [st_ne _ _ _ (by decide)] at zz
      obtain ⟨y1, y2, y3, -⟩ := a4 zz
      have v71 : v7 ≠ 1 := fun q => c ⟨by rw [n1]; exact wr_0, by rw [n2]; exact wr_2, by rw [← n3, q]; exact wr_1⟩
      have b30 : Bq (st Y3 49 15 w7 51) len (st X3 8 9 v7 1) (st Y3 49 15 w7 46) := by
        rw [st_ne _ _ _ (by decide), st_ne _ _ _ (by decide), st_ne _ _ _ (by decide)]; exact b3
      have e88 : st X3 8 9 v7 8 8 = v := by rw [st_nk _ _ _ (by decide), b5.1 8 (by decide), st_same]
      obtain ⟨v', w', X5, Y5, c1, c2, c3, c4, c5, c6⟩ := num_w 0 v (rgl 0) (by unfold rg; omega) hn g3 b30
      have kd5 : Kd X (st X5 8 10 v') := kd3.trans (c5.d.trans (Kd_st (by decide)))
      have ke5 : Ke Y (st Y5 49 16 w') := ke3.trans (c6.e.trans (Ke_st (by decide)))
      refine ⟨st X5 8 10 v', st Y5 49 16 w', ex (fun v7' X3' e => ?_) ⟨_, _, b1⟩, ?_, ?_, fun z5 => ?_, kd5, ke5, ?_⟩
      · cases Option.some.inj (b1.symm.trans e)
        rw [ck8 g3.2.2.2.2.1, Option.bind_some, st_same, isRot_c (by unfold rg; omega), Option.bind_some, ifbi, if_pos ⟨v71, z2, z3⟩]
        unfold f_X3_takeGranary_51
        simp only [ck8 g3.2.2.2.2.1, Option.bind_some, e88, c1]
      · unfold f_X6_readOnce_88
        rw [y1] at c2
        rw [b2, Option.bind_some]
        dsimp only
        rw [Option.bind_some, c2, Option.bind_some]
        rfl
      · rw [st_ne _ _ _ (by decide), st_ne _ _ _ (by decide), st_ne _ _ _ (by decide)]; exact c3
      · rw [st_ne _ _ _ (by decide)] at z5
        obtain ⟨x1, x2, x3, -⟩ := c4 z5
        have e8 : st X5 8 10 v' 8 = rs (rs (rs (X 8) 8 v) 9 v7) 10 v' := by rw [st_row, c5.1 8 (by decide), st_row, b5.1 8 (by decide), st_row, a5.1 8 (by decide)]
        have e49 : st Y5 49 16 w' 49 = rs (rs (rs (Y 49) 14 (40 - v)) 15 v7) 16 v' := by rw [st_row, c6.1 49 (by decide), st_row, b6.1 49 (by decide), st_row, a6.1 49 (by decide), y1, z1, x1]
        have e46 : ∀ j, j < 12 → st Y5 49 16 w' 46 j = Y 46 j := fun j hj => by
          rw [st_ne _ _ _ (by decide), c6.2 j (by omega), st_ne _ _ _ (by decide), b6.2 j (by omega), st_ne _ _ _ (by decide), a6.2 j (by omega)]
        obtain ⟨o1, o2, o3, o4, o5, o6, o7, o8, o9, o10⟩ := d.2.2.2.2.1
        refine ⟨DR_set d (fun a h1 h2 => ?_) ?_ ?_ ?_ (e46 6 (by decide)) (e46 7 (by decide)) (fun k hk => ?_) ?_ ?_ ?_ ?_, ?_, e46 8 (by decide)⟩
        · rw [st_ne _ _ _ (by omega), c5.1 a (by omega), st_ne _ _ _ (by omega), b5.1 a (by omega), st_ne _ _ _ (by omega), a5.1 a (by omega)]
        · rw [st_ne _ _ _ (by decide), c6.1 50 (by decide), st_ne _ _ _ (by decide), b6.1 50 (by decide), st_ne _ _ _ (by decide), a6.1 50 (by decide)]
        · rw [e8]; rfl
        · rw [e8]; rfl
        · rw [e49, rs_n (by omega), rs_n (by omega), rs_n (by omega)]
        · rw [e8]; exact ⟨o1, o2, ⟨y2, y3⟩, ⟨z2, z3⟩, ⟨x2, by show v' ≤ 40; omega⟩, o6, o7, o8, o9, o10⟩
        · rw [e8]; exact x3
        · rw [e8]; exact d.2.2.2.2.2.2.1
        · rw [e8, e49]; exact Rw_k (k := 10) (Rw_k (k := 9) (Rw_8 d.2.2.2.2.2.2.2.1) (by decide)) (by decide)
        · rw [st_ne _ _ _ (by decide), c5.2.1 5 (by decide), st_ne _ _ _ (by decide), b5.2.1 5 (by decide), st_ne _ _ _ (by decide), a5.2.1 5 (by decide)]
      · exact m1.trans (b5.m.trans (Mo.trans (Mo_st (a := 8) (k := 9) (v := v7) (by decide)) (c5.m.trans (Mo_st (by decide)))))
    · have bb := Bq_br b3 z
      have b4' : Br len (st X3 8 9 v7 1) (st Y3 49 15 w7 46) := by rw [st_ne _ _ _ (by decide), st_ne _ _ _ (by decide)]; exact bb
      obtain ⟨X', e1, e2, e3⟩ := grR_z hn g3 b4'
      refine ⟨X', st (st Y3 49 15 w7) 49 16 0, ex (fun v7' X3' e => ?_) ⟨_, _, b1⟩, ?_, Lw_br (Br_y e2 (by decide)) (kd3.trans e3) (ke3.trans (Ke_st (by decide)))⟩
      · cases Option.some.inj (b1.symm.trans e)
        exact e1
      · unfold f_X6_readOnce_88
        rw [b2, Option.bind_some]
        dsimp only
        rw [Option.bind_some, numB_w 0 w b4', Option.bind_some]
        rfl
/-! words -/
theorem isW_cong {t u : Nat → Int} {len s e k : Nat} (h : ∀ i, i < len → t i = u i) (he : s ≤ e ∧ e ≤ len) : isW t s e k = isW u s e k := by
  unfold isW
  by_cases q : e - s = wlS k
  · rw [allB_cong (g := fun i => decide (u (s + i) = wcS k i)) (fun i h1 h2 => by rw [h (s + i) (by omega)])]
  · simp [q]
theorem words_ne : ∀ j k : Fin 11, j ≠ k → wlS j.val ≠ wlS k.val ∨ ∃ i : Fin 7, i.val < wlS j.val ∧ wcS j.val i.val ≠ wcS k.val i.val := by decide +kernel
theorem allB_all {f : Nat → Bool} : ∀ {t r : Nat}, allB f r t = true → ∀ i, r ≤ i → i < r + t → f i = true
  | 0, r, _, i, h1, h2 => by omega
  | t + 1, r, h, i, h1, h2 => by
    rw [allB, Bool.and_eq_true] at h
    by_cases q : i = r
    · rw [q]; exact h.1
    · exact allB_all h.2 i (by omega) (by omega)
theorem isW_one {t : Nat → Int} {s e j k : Nat} (hj : j < 11) (hk : k < 11) (a : isW t s e j = true) (b : isW t s e k = true) : j = k := by
  unfold isW at a b
  rw [Bool.and_eq_true] at a b
  have a1 : e - s = wlS j := by simpa using a.1
  have b1 : e - s = wlS k := by simpa using b.1
  by_cases q : j = k
  · exact q
  · rcases words_ne ⟨j, hj⟩ ⟨k, hk⟩ (fun z => q (by simpa using z)) with c | ⟨i, c1, c2⟩
    · dsimp only at c; omega
    · dsimp only at c1 c2
      have x := allB_all a.2 i.val (Nat.zero_le _) (by omega)
      have y := allB_all b.2 i.val (Nat.zero_le _) (by omega)
      have x' : t (s + i.val) = wcS j i.val := by simpa using x
      have y' : t (s + i.val) = wcS k i.val := by simpa using y
      exact absurd (x'.symm.trans y') c2
theorem fsS_hit {f : Nat → Bool} : ∀ {t c k : Nat}, c ≤ k → k < c + t → f k = true → (∀ j, j < k → f j = false) → fsS f c t = (k : Int)
  | 0, c, k, h1, h2, _, _ => by omega
  | t + 1, c, k, h1, h2, h3, h4 => by
    rw [fsS]
    by_cases q : c = k
    · subst q; rw [if_pos h3]
    · rw [if_neg (by rw [h4 c (by omega)]; decide), fsS_hit (by omega) (by omega) h3 h4]
theorem fsS_no {f : Nat → Bool} : ∀ {t c : Nat}, (∀ j, c ≤ j → j < c + t → f j = false) → fsS f c t = -4
  | 0, c, _ => rfl
  | t + 1, c, h => by rw [fsS, if_neg (by rw [h c (Nat.le_refl _) (by omega)]; decide), fsS_no (fun j h1 h2 => h j (by omega) (by omega))]
/-- the word, or none -/
theorem word_is (t : Nat → Int) (s e : Nat) : (∃ k : Nat, k < 11 ∧ fsS (fun k => isW t s e k) 0 11 = (k : Int) ∧ isW t s e k = true ∧ ∀ j, j < 11 → j ≠ k → isW t s e j = false) ∨ (fsS (fun k => isW t s e k) 0 11 = -4 ∧ ∀ j, j < 11 → isW t s e j = false) := by
  by_cases h : ∃ k, k < 11 ∧ isW t s e k = true
  · obtain ⟨k, hk, hw⟩ := h
    have u : ∀ j, j < 11 → j ≠ k → isW t s e j = false := fun j hj q => by
      cases z : isW t s e j with
      | false => rfl
      | true => exact absurd (isW_one hj hk z hw) q
    exact Or.inl ⟨k, hk, fsS_hit (Nat.zero_le _) (by omega) hw (fun j hj => u j (by omega) (by omega)), hw, u⟩
  · have u : ∀ j, j < 11 → isW t s e j = false := fun j hj => by
      cases z : isW t s e j with
      | false => rfl
      | true => exact absurd ⟨j, hj, z⟩ h
    exact Or.inr ⟨fsS_no (fun j _ hj => u j (by omega)), u⟩
/-- the word at which both stand: its number on the reference's side, what the object is told of each -/
theorem word_w {n len : Nat} {X Y : Mem} (hn : 1000 ≤ n) (g : Gd len X Y) (h : Aq len (X 1) (Y 46)) (h2 : X 1 2 = 0) : (∃ k : Nat, k < 11 ∧ f_X6_wordHere n Y = some (k : Int) ∧ X 1 6 = 0 ∧ f_X3_isWord n k X = some 1 ∧ ∀ j, j < 11 → j ≠ k → f_X3_isWord n j X = some 0) ∨ (f_X6_wordHere n Y = some (-4) ∧ ∀ j, j < 11 → f_X3_isWord n j X = some 0) := by
  rcases h with ⟨a1, a2, a3, a4, ⟨s, e, b1, b2, b3, b4, b5, b6⟩, a6⟩ | ⟨a1, -⟩
  · by_cases q : X 1 6 = 0
    · have hw := wordHere_r (n := n) (N := Y) (r := Y 46) hn g.2.1 g.2.2.2.2.2.2 g.2.2.2.2.2.1 b4 b3 (by rw [a3, q]; rfl) ⟨b5, b6⟩
      rw [sr_self] at hw
      have hi : ∀ j, j < 11 → f_X3_isWord n j X = some (if isW (Y 51) s e j = true then 1 else 0) := fun j hj => by
        have := isWord_c (n := n) (N := X) (r := X 1) hn g.1 hj q b1 b2 ⟨b5, b6⟩
        rw [sr_self, isW_cong g.2.2.1 ⟨b5, b6⟩] at this; exact this
      rcases word_is (Y 51) s e with ⟨k, k1, k2, k3, k4⟩ | ⟨k2, k4⟩
      · exact Or.inl ⟨k, k1, by rw [hw, k2], q, by rw [hi k k1, if_pos k3], fun j hj z => by rw [hi j hj, if_neg (by rw [k4 j hj z]; decide)]⟩
      · exact Or.inr ⟨by rw [hw, k2], fun j hj => by rw [hi j hj, if_neg (by rw [k4 j hj]; decide)]⟩
    · have hw := wordHere_n (n := n) (N := Y) (r := Y 46) hn (by
        rw [a3]
        have : X 1 6 = 1 ∨ X 1 6 = 2 ∨ X 1 6 = 3 := by omega
        rcases this with e | e | e <;> rw [e] <;> decide)
      rw [sr_self] at hw
      refine Or.inr ⟨hw, fun j hj => ?_⟩
      have := isWord_n (n := n) (k := j) (N := X) (r := X 1) (by omega)
      rw [sr_self] at this; exact this
  · omega
