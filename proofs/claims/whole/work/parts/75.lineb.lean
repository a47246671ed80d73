/-! lines: a land, the granary -/
theorem Bq_q {t r q r' q' : Nat → Int} {len : Nat} (h : Bq t len r q) (e : ∀ j, j = 2 ∨ j = 3 ∨ j = 7 ∨ j = 8 → r' j = r j) (k : ∀ j, 12 ≤ j → j ≤ 17 → q' j = q j) : Bq t len r' q' := by
  unfold Bq ShR at h ⊢
  rw [e 2 (by decide), e 3 (by decide), e 7 (by decide), e 8 (by decide), k 12 (by decide) (by decide), k 13 (by decide) (by decide), k 14 (by decide) (by decide), k 15 (by decide) (by decide), k 16 (by decide) (by decide), k 17 (by decide) (by decide)]
  exact h
theorem Aq_q {r q r' q' : Nat → Int} {len : Nat} (h : Aq len r q) (e : ∀ j, j = 2 ∨ j = 3 ∨ (6 ≤ j ∧ j ≤ 9) → r' j = r j) (k : ∀ j, 12 ≤ j → j ≤ 17 → q' j = q j) : Aq len r' q' := by
  unfold Aq ShR at h ⊢
  rw [e 2 (by decide), e 3 (by decide), e 6 (by decide), e 7 (by decide), e 8 (by decide), e 9 (by decide), k 12 (by decide) (by decide), k 13 (by decide) (by decide), k 14 (by decide) (by decide), k 15 (by decide) (by decide), k 16 (by decide) (by decide), k 17 (by decide) (by decide)]
  exact h
theorem Br_q {r q r' q' : Nat → Int} {len : Nat} (h : Br len r q) (e : ∀ j, j = 2 ∨ j = 3 ∨ j = 7 ∨ j = 8 → r' j = r j) (k : ∀ j, 12 ≤ j → j ≤ 13 → q' j = q j) : Br len r' q' := by
  unfold Br ShR at h ⊢
  rw [e 2 (by decide), e 3 (by decide), e 7 (by decide), e 8 (by decide), k 12 (by decide) (by decide), k 13 (by decide) (by decide)]
  exact h
theorem land_z {n len : Nat} {X Y : Mem} (hn : 1000 ≤ n) (g : Gd len X Y) (h : Zw len X Y) : ∃ X', f_X3_takeLand_16 n X = some X' ∧ Br len (X' 1) (Y 46) ∧ Kd X X' := by
  obtain ⟨X1, a1, a2, a3⟩ := within_z 0 9 hn g h
  obtain ⟨X3, c1, c2, c3⟩ := within_z 0 9 hn (Gd_k g a3.d (Ke.refl _)) (Br_z a2)
  refine ⟨X3, ?_, c2, a3.d.trans c3.d⟩
  have : ¬ wr (X3 1 2) = 0 := by rw [wr_id (by have := c2.1; omega) (by have := c2.1; omega)]; have := c2.1; omega
  unfold f_X3_takeLand_16
  simp only [a1, c1, Option.bind_some, if_neg this]
def tlL (n : Nat) (k : Mem → Option Mem) (M2 : Mem) : Option Mem :=
  (f_X6_number n 0 9 M2).bind fun (v5, M6) =>
  (wt M6 49 25 ((2 * (M2 46 6)) + 1) v5).bind fun M7 =>
  (f_X6_number n 0 9 M7).bind fun (v8, M9) =>
  (wt M9 49 25 (2 * (M7 46 6)) v8).bind fun M10 =>
  (some (st M10 46 6 ((M10 46 6) + 1))).bind fun M11 =>
  k M11
theorem DR_land {X Y X' Y' : Mem} {l : Nat} {v w : Int} (d : DR X Y) (hl : X 8 4 = (l : Int)) (hl4 : l < 4) (hv : 0 ≤ v ∧ v ≤ 9) (hw : 0 ≤ w ∧ w ≤ 9) (e8 : X' 8 = rs (X 8) 4 ((l + 1 : Nat) : Int)) (e9 : X' 9 = rs (X 9) l v) (e10 : X' 10 = rs (X 10) l w) (e11 : X' 11 = X 11) (e12 : X' 12 = X 12) (e49 : Y' 49 = rs (rs (Y 49) (2 * l + 1) v) (2 * l) w) (e50 : Y' 50 = Y 50) (e6 : Y' 46 6 = ((l + 1 : Nat) : Int)) (e7 : Y' 46 7 = Y 46 7) : DR X' Y' := by
  obtain ⟨d1, d2, d3, d4, d5, d6, d7, d8, d9, d10⟩ := d
  have f4 : X' 8 4 = ((l + 1 : Nat) : Int) := by rw [e8, rs_s]
  have fk : ∀ k, k ≠ 4 → X' 8 k = X 8 k := fun k hk => by rw [e8, rs_n hk]
  refine ⟨by rw [f4]; omega, by rw [fk 5 (by decide)]; exact d2, by rw [e6, f4], by rw [e7, fk 5 (by decide)]; exact d4, OkS_rw (fun k h1 h2 => (fk k (by omega)).symm) d5, by rw [fk 10 (by decide), fk 8 (by decide)]; exact d6, by rw [fk 16 (by decide)]; exact d7, fun k h1 h2 => ?_, fun i hi => ?_, fun r hr => ?_⟩
  · rw [fk k (by omega), ← d8 k h1 h2]
    have ee : ∀ j, 8 ≤ j → Y' 49 j = Y 49 j := fun j hj => by rw [e49, rs_n (by omega), rs_n (by omega)]
    unfold vw
    rw [ee (0 + 14) (by decide), ee (0 + 18) (by decide), ee (0 + 17) (by decide), ee (0 + k + 6) (by omega)]
  · rw [f4] at hi
    rw [e9, e10, e49]
    by_cases q : i = l
    · subst q
      rw [rs_s, rs_s, rs_n (j := 2 * i + 1) (by omega), rs_s, rs_s]
      exact ⟨hv, hw, rfl, rfl⟩
    · rw [rs_n q, rs_n q, rs_n (j := 2 * i) (by omega), rs_n (j := 2 * i) (by omega), rs_n (j := 2 * i + 1) (by omega), rs_n (j := 2 * i + 1) (by omega)]
      exact d9 i (by omega)
  · rw [fk 5 (by decide)] at hr
    rw [e12, e11, e50, e49, rs_n (by omega), rs_n (by omega)]
    exact d10 r hr
theorem land_b {n len : Nat} {X Y : Mem} (hn : 1000 ≤ n) (g : Gd len X Y) (h : Bq (Y 51) len (X 1) (Y 46)) (d : DR X Y) (hl : X 8 4 < 4) : ∃ X' Y', f_X3_takeLand_16 n X = some X' ∧ (∀ k, tlL n k Y = k Y') ∧ Lw len X Y X' Y' := by
  obtain ⟨l, el⟩ : ∃ l : Nat, X 8 4 = (l : Int) := ⟨(X 8 4).toNat, by have := d.1; omega⟩
  have l4 : l < 4 := by omega
  have y6 : Y 46 6 = (l : Int) := by rw [d.2.2.1, el]
  obtain ⟨v, w, X1, Y1, a1, a2, a3, a4, a5, a6⟩ := num_w 0 9 (rgl 0) (rgl 9) hn g h
  have ke1 : Ke Y (st Y1 49 (2 * l + 1) w) := a6.e.trans (Ke_st (by decide))
  have g1 : Gd len X1 (st Y1 49 (2 * l + 1) w) := Gd_k g a5.d ke1
  have b0 : Bq ((st Y1 49 (2 * l + 1) w) 51) len (X1 1) ((st Y1 49 (2 * l + 1) w) 46) := by
    rw [st_ne _ _ _ (by decide), st_ne _ _ _ (by decide)]; exact a3
  obtain ⟨v', w', X3, Y3, b1, b2, b3, b4, b5, b6⟩ := num_w 0 9 (rgl 0) (rgl 9) hn g1 b0
  have y16 : st Y1 49 (2 * l + 1) w 46 6 = (l : Int) := by rw [st_ne _ _ _ (by decide), a6.2 6 (by decide), y6]
  have y36 : st Y3 49 (2 * l) w' 46 6 = (l : Int) := by rw [st_ne _ _ _ (by decide), b6.2 6 (by decide), y16]
  have kp := a5.trans b5
  have er : ∀ k, tlL n k Y = k (st (st Y3 49 (2 * l) w') 46 6 ((l + 1 : Nat) : Int)) := fun k => by
    unfold tlL
    rw [a2, Option.bind_some]
    dsimp only
    rw [y6, wt_id (by omega) (by omega) (by omega), Option.bind_some, show (2 * (l : Int) + 1).toNat = 2 * l + 1 by omega, b2, Option.bind_some]
    dsimp only
    rw [y16, wt_id (by omega) (by omega) (by omega), Option.bind_some, show (2 * (l : Int)).toNat = 2 * l by omega, Option.bind_some, y36]
    rfl
  have kq : Ke Y (st (st Y3 49 (2 * l) w') 46 6 ((l + 1 : Nat) : Int)) := ke1.trans (b6.e.trans ((Ke_st (by decide)).trans (Ke_46 (by decide))))
  have bq : ∀ X' : Mem, X' 1 = X3 1 → Bq ((st (st Y3 49 (2 * l) w') 46 6 ((l + 1 : Nat) : Int)) 51) len (X' 1) ((st (st Y3 49 (2 * l) w') 46 6 ((l + 1 : Nat) : Int)) 46) := fun X' e => by
    rw [e, st_ne (b := 51) _ _ _ (by decide), st_ne (b := 51) _ _ _ (by decide)]
    exact Bq_q b3 (fun _ _ => rfl) (fun j h1 h2 => by rw [st_nk _ _ _ (by omega), st_ne _ _ _ (by decide)])
  have y8 : st (st Y3 49 (2 * l) w') 46 6 ((l + 1 : Nat) : Int) 46 8 = Y 46 8 := by
    rw [st_nk _ _ _ (by decide), st_ne _ _ _ (by decide), b6.2 8 (by decide), st_ne _ _ _ (by decide), a6.2 8 (by decide)]
  have r2 := Bq_2 b3
  by_cases z : X3 1 2 = 0
  · obtain ⟨z1, z2, z3, -⟩ := b4 z
    obtain ⟨w1, w2, w3, -⟩ := a4 (b5.2.2 z).1
    have e3 : X3 8 4 = (l : Int) := by rw [kp.1 8 (by decide), el]
    have hx : ∀ X', X' = st (st (st X3 9 l v) 10 l v') 8 4 ((l + 1 : Nat) : Int) → X' 1 = X3 1 := fun X' e => by rw [e, st_ne _ _ _ (by decide), st_ne _ _ _ (by decide), st_ne _ _ _ (by decide)]
    refine ⟨_, _, ?_, er, bq (st (st (st X3 9 l v) 10 l v') 8 4 ((l + 1 : Nat) : Int)) (hx _ rfl), fun _ => ⟨?_, ?_, y8⟩, ?_, kq, ?_⟩
    · unfold f_X3_takeLand_16 f_X2_addLand
      have c8 : ckX2 (X3 1 4) = some 8 := ck8 (by rw [kp.2.1 4 (by decide)]; exact g.2.2.2.2.1)
      simp only [a1, b1, Option.bind_some, z, wr_0, if_true, c8]
      rw [e3, wr_id (x := (l : Int)) (by omega) (by omega), if_neg (by omega), wt_id (by omega) (by omega) (by omega), Option.bind_some, Int.toNat_natCast, st_ne _ _ _ (by decide), e3, wt_id (by omega) (by omega) (by omega), Option.bind_some, Option.bind_some, Int.toNat_natCast, st_ne _ _ _ (by decide), st_ne _ _ _ (by decide), e3]
      rfl
    · refine DR_land d el l4 ⟨w2, w3⟩ ⟨z2, z3⟩ ?_ ?_ ?_ ?_ ?_ ?_ ?_ ?_ ?_
      · rw [st_row, st_ne _ _ _ (by decide), st_ne _ _ _ (by decide), kp.1 8 (by decide)]
      · rw [st_ne _ _ _ (by decide), st_ne _ _ _ (by decide), st_row, kp.1 9 (by decide)]
      · rw [st_ne _ _ _ (by decide), st_row, st_ne _ _ _ (by decide), kp.1 10 (by decide)]
      · rw [st_ne _ _ _ (by decide), st_ne _ _ _ (by decide), st_ne _ _ _ (by decide), kp.1 11 (by decide)]
      · rw [st_ne _ _ _ (by decide), st_ne _ _ _ (by decide), st_ne _ _ _ (by decide), kp.1 12 (by decide)]
      · rw [st_ne _ _ _ (by decide), st_row, b6.1 49 (by decide), st_row, a6.1 49 (by decide), z1, w1]
      · rw [st_ne _ _ _ (by decide), st_ne _ _ _ (by decide), b6.1 50 (by decide), st_ne _ _ _ (by decide), a6.1 50 (by decide)]
      · rw [st_same]
      · rw [st_nk _ _ _ (by decide), st_ne _ _ _ (by decide), b6.2 7 (by decide), st_ne _ _ _ (by decide), a6.2 7 (by decide)]
    · rw [hx _ rfl, kp.2.1 5 (by decide)]
    · exact kp.d.trans ((Kd_st (by decide)).trans ((Kd_st (by decide)).trans (Kd_st (by decide))))
    · exact Mo.trans kp.m (Mo.trans (Mo_st (a := 9) (k := l) (v := v) (by decide)) (Mo.trans (Mo_st (a := 10) (k := l) (v := v') (by decide)) (Mo_st (by decide))))
  · refine ⟨X3, _, ?_, er, bq X3 rfl, fun q => absurd q z, kp.d, kq, kp.m⟩
    have : ¬ wr (X3 1 2) = 0 := by rw [wr_id (by omega) (by omega)]; exact z
    unfold f_X3_takeLand_16
    simp only [a1, b1, Option.bind_some, if_neg this]
theorem numB_w {n len : Nat} {X Y : Mem} (lo hi : Int) (h : Br len (X 1) (Y 46)) : f_X6_number n lo hi Y = some (lo, Y) := by
  have e := (numB_r (n := n) (len := len) (K := Y) (r := X 1) (q := Y 46) (lo := lo) (hi := hi) h (Y 51)).1
  rw [sr_self] at e
  unfold f_X6_number
  rw [wr_id (x := Y 46 12) (by have := h.1; have := h.2.1; omega) (by have := h.1; have := h.2.1; omega), if_neg (by have := h.1; have := h.2.1; omega)]
  exact e
/-- a rot of 1 -/
theorem rot1_w {n len : Nat} {X Y : Mem} (hn : 1000 ≤ n) (g : Gd len X Y) (h : Bq (Y 51) len (X 1) (Y 46)) (k12 : wr (Y 46 12) = 0) (k16 : wr (Y 46 16) = 2) (k17 : wr (Y 46 17) = 1) : ∃ X', f_X3_takeWithin n 0 9 X = some (1, X') ∧ Aq len (X' 1) (Y 46) ∧ Kp X X' := by
  obtain ⟨X', a1, a2, a3, -⟩ := take_w hn g h
  refine ⟨X', ?_, a2, a3⟩
  rcases a2 with ⟨b1, b2, b3, b4, b5, b6⟩ | b
  · have q6 : X' 1 6 = 1 := by
      have : X' 1 6 = 0 ∨ X' 1 6 = 1 ∨ X' 1 6 = 2 ∨ X' 1 6 = 3 := by omega
      rcases this with e | e | e | e
      · rw [b3, e] at k16; exact absurd k16 (by decide)
      · exact e
      · rw [b3, e] at k16; exact absurd k16 (by decide)
      · rw [b3, e] at k16; exact absurd k16 (by decide)
    obtain ⟨c1, c2, c3⟩ := b6 q6
    rw [c1, wr_id (by omega) (by omega)] at k17
    unfold f_X3_takeWithin
    rw [a1, Option.bind_some, b1, if_pos wr_0, q6, if_pos wr_1, k17, within_c (rgl 1) (rgl 0) (rgl 9), Option.bind_some, ifbi, if_pos (by decide)]
  · rw [wr_id (by have := b.1; have := b.2.1; omega) (by have := b.1; have := b.2.1; omega)] at k12
    have := b.1; have := b.2.1; omega
theorem isRot_t (x : Int) (M : Mem) : ∃ b, f_X5_isRot x M = some b := by
  unfold f_X5_isRot f_X5_within
  by_cases h : wr x = 1
  · exact ⟨0, if_pos h⟩
  · rw [if_neg h]
    by_cases h1 : wr x < wr 0
    · rw [if_pos h1, Option.bind_some, if_pos wr_0]; exact ⟨0, rfl⟩
    · rw [if_neg h1]
      by_cases h2 : wr 9 < wr x
      · rw [if_pos h2, Option.bind_some, if_pos wr_0]; exact ⟨0, rfl⟩
      · rw [if_neg h2, Option.bind_some, if_neg w1n0]; exact ⟨1, rfl⟩
def tlG (n : Nat) (M1 : Mem) : Option Mem :=
  (ckX2 (M1 1 4)).bind fun c2 =>
  (f_X3_takeWithin n 0 40 M1).bind fun (v3, M4) =>
  (some (st M4 c2 8 v3)).bind fun M5 =>
  (ckX2 (M5 1 4)).bind fun c6 =>
  (f_X3_takeWithin n 0 9 M5).bind fun (v7, M8) =>
  (some (st M8 c6 9 v7)).bind fun M9 =>
  (ckX2 (M9 1 4)).bind fun c10 =>
  (f_X5_isRot (M9 c10 9) M9).bind fun v11 =>
  if wr v11 = 0 then
    (f_X3_fail 3 M9).bind fun M12 =>
    f_X3_takeGranary_51 n M12
  else
    f_X3_takeGranary_51 n M9
/-- the granary's last number, broken -/
theorem gr51_z {n len : Nat} {X Y : Mem} (hn : 1000 ≤ n) (g : Gd len X Y) (h : Br len (X 1) (Y 46)) : ∃ X', f_X3_takeGranary_51 n X = some X' ∧ Br len (X' 1) (Y 46) ∧ Kd X X' := by
  obtain ⟨X1, a1, a2, a3⟩ := within_z 0 (X 8 8) hn g (Br_z h)
  refine ⟨st X1 8 10 0, ?_, by rw [st_ne _ _ _ (by decide)]; exact a2, a3.d.trans (Kd_st (by decide))⟩
  unfold f_X3_takeGranary_51
  simp only [ck8 g.2.2.2.2.1, Option.bind_some, a1]
/-- from the test of the rot on, broken -/
theorem grR_z {n len : Nat} {X Y : Mem} (hn : 1000 ≤ n) (g : Gd len X Y) (h : Br len (X 1) (Y 46)) : ∃ X', ((ckX2 (X 1 4)).bind fun c10 => (f_X5_isRot (X c10 9) X).bind fun v11 => if wr v11 = 0 then (f_X3_fail 3 X).bind fun M12 => f_X3_takeGranary_51 n M12 else f_X3_takeGranary_51 n X) = some X' ∧ Br len (X' 1) (Y 46) ∧ Kd X X' := by
  obtain ⟨X', a1, a2, a3⟩ := gr51_z hn g h
  obtain ⟨b, eb⟩ := isRot_t (X 8 9) X
  refine ⟨X', ?_, a2, a3⟩
  simp only [ck8 g.2.2.2.2.1, Option.bind_some, eb, fail_z 3 h, a1]
  split <;> rfl
theorem tlG_z {n len : Nat} {X Y : Mem} (hn : 1000 ≤ n) (g : Gd len X Y) (h : Zw len X Y) : ∃ X', tlG n X = some X' ∧ Br len (X' 1) (Y 46) ∧ Kd X X' := by
  obtain ⟨X1, a1, a2, a3⟩ := within_z 0 40 hn g h
  have kd1 : Kd X (st X1 8 8 0) := a3.d.trans (Kd_st (by decide))
  have g1 : Gd len (st X1 8 8 0) Y := Gd_k g kd1 (Ke.refl _)
  have b1 : Br len ((st X1 8 8 0) 1) (Y 46) := by rw [st_ne _ _ _ (by decide)]; exact a2
  obtain ⟨X3, c1, c2, c3⟩ := within_z 0 9 hn g1 (Br_z b1)
  have kd3 : Kd X (st X3 8 9 0) := kd1.trans (c3.d.trans (Kd_st (by decide)))
  have b3 : Br len ((st X3 8 9 0) 1) (Y 46) := by rw [st_ne _ _ _ (by decide)]; exact c2
  obtain ⟨X', d1, d2, d3⟩ := grR_z hn (Gd_k g kd3 (Ke.refl _)) b3
  refine ⟨X', ?_, d2, kd3.trans d3⟩
  unfold tlG
  rw [ck8 g.2.2.2.2.1, Option.bind_some, a1, Option.bind_some]
  dsimp only
  rw [Option.bind_some, ck8 g1.2.2.2.2.1, Option.bind_some, c1, Option.bind_some]
  dsimp only
  rw [Option.bind_some]
  exact d1
