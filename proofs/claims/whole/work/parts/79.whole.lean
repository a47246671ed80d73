/-! a whole line -/
theorem Bq_12 {t r q : Nat → Int} {len : Nat} (h : Bq t len r q) : 0 ≤ q 12 ∧ q 12 ≤ 5 := by
  rcases h with ⟨a, i, b, c, d, e⟩ | h
  · by_cases z : tBd t len (tSt t len i) = true
    · have := (d z).1; omega
    · have := (e z).1; omega
  · have := h.1; have := h.2.1; omega
theorem end_z {n len : Nat} {X Y : Mem} (h : Br len (X 1) (Y 46)) : f_X3_takeLine_101 n X = some X := by
  unfold f_X3_takeLine_101
  rw [takeB_z h, Option.bind_some, fail_z 2 h, Option.bind_some]
  split <;> rfl
theorem end_b {n len : Nat} {X Y : Mem} (hn : 1000 ≤ n) (g : Gd len X Y) (h : Bq (Y 51) len (X 1) (Y 46)) : ∃ X' Y', f_X3_takeLine_101 n X = some X' ∧ f_X6_readLine_171 n Y = some Y' ∧ Bq (Y' 51) len (X' 1) (Y' 46) ∧ Kp X X' ∧ Kq Y Y' := by
  obtain ⟨X1, a1, a2, a3, -⟩ := take_w hn g h
  have g1 := Gd_k g a3.d (Ke.refl Y)
  have aq := a2
  rcases a2 with ⟨b1, b2, b3, b4, b5, b6⟩ | b
  · by_cases q : X1 1 6 = 2
    · obtain ⟨Y1, s1, s2, s3⟩ := step_w hn g1 aq
      refine ⟨X1, Y1, ?_, ?_, s2, a3, s3⟩
      · unfold f_X3_takeLine_101
        rw [a1, Option.bind_some, q, if_pos wr_2]
      · unfold f_X6_readLine_171 f_X6_readLine_191
        rw [b2, if_pos wr_0, b3, q, show rkS 2 = 3 from rfl, if_pos wr_3, s1, Option.bind_some]
    · obtain ⟨X2, Y2, d1, d2, d3, d4, d5⟩ := fail_w 2 (by decide) aq
      refine ⟨X2, Y2, ?_, ?_, Or.inr d3, a3.trans d4, d5⟩
      · unfold f_X3_takeLine_101
        rw [a1, Option.bind_some, wr_id (x := X1 1 6) (by omega) (by omega), if_neg q, d1, Option.bind_some]
      · unfold f_X6_readLine_171 f_X6_readLine_191
        have : rkS (X1 1 6) = 0 ∨ rkS (X1 1 6) = 1 ∨ rkS (X1 1 6) = 2 := by
          have : X1 1 6 = 0 ∨ X1 1 6 = 1 ∨ X1 1 6 = 3 := by omega
          rcases this with e | e | e <;> rw [e] <;> decide
        rw [b2, if_pos wr_0, b3, wr_id (x := rkS (X1 1 6)) (by omega) (by omega), if_neg (by omega), d2, Option.bind_some, stepB_z d3, Option.bind_some]
  · refine ⟨X1, Y, ?_, ?_, Or.inr b, a3, Kq.refl _⟩
    · unfold f_X3_takeLine_101
      rw [a1, Option.bind_some, fail_z 2 b, Option.bind_some]
      split <;> rfl
    · unfold f_X6_readLine_171 f_X6_readLine_191
      rw [wr_id (x := Y 46 12) (by have := b.1; have := b.2.1; omega) (by have := b.1; have := b.2.1; omega), if_neg (by have := b.1; have := b.2.1; omega), stepB_z b, Option.bind_some]
/-- the lines that came, on both sides -/
def On (X Y : Mem) : Prop := 0 ≤ Y 46 8 ∧ Y 46 8 < 64 ∧ X 1 5 = Y 46 8 / 4
theorem once_all : ∀ p : Fin 64, ∀ w : Fin 4, (bt ((p.val : Int) / 4) (w.val : Int) = 1 ↔ wr (bAnd (bShr (p.val : Int) ((w.val : Int) + 2)) 1) = 1) ∧ (0 ≤ bOr (p.val : Int) (bShl 1 ((w.val : Int) + 2)) ∧ bOr (p.val : Int) (bShl 1 ((w.val : Int) + 2)) < 64) ∧ bOr ((p.val : Int) / 4) (bShl 1 (w.val : Int)) = bOr (p.val : Int) (bShl 1 ((w.val : Int) + 2)) / 4 := by decide +kernel
theorem once_lo : ∀ p : Fin 64, ∀ w : Fin 2, (0 ≤ bOr (p.val : Int) (bShl 1 (w.val : Int)) ∧ bOr (p.val : Int) (bShl 1 (w.val : Int)) < 64) ∧ (p.val : Int) / 4 = bOr (p.val : Int) (bShl 1 (w.val : Int)) / 4 := by decide +kernel
def rb75 (n : Nat) (x1 : Int) (M2 : Mem) : Option Mem :=
  if wr x1 = 0 then tlL n (f_X6_readLine_171 n) M2
  else
    if wr x1 = 1 then
      (f_X6_readDream n M2).bind fun M4 =>
      f_X6_readLine_171 n M4
    else
      (f_X6_readOnce n x1 M2).bind fun M3 =>
      f_X6_readLine_171 n M3
theorem rb75_is (n : Nat) (x1 : Int) (M : Mem) : f_X6_readLine_75 n x1 M = ((some (st M 46 8 (bOr (M 46 8) (bShl 1 x1)))).bind fun M1 => (f_X6_step n M1).bind fun M2 => if wr (M2 46 12) ≤ 0 then rb75 n x1 M2 else some M2) := rfl
/-- what a line leaves -/
def LL (len : Nat) (X Y X' Y' : Mem) : Prop := Bq (Y' 51) len (X' 1) (Y' 46) ∧ (X' 1 2 = 0 → DR X' Y' ∧ On X' Y') ∧ Kd X X' ∧ Ke Y Y' ∧ Mo X X'
theorem mid {n len : Nat} {X Y X1 Y1 : Mem} {T : Mem → Option Mem} {w : Int} (hn : 1000 ≤ n) (g : Gd len X Y) (k1 : Kd X X1) (k2 : Ke Y Y1) (m1 : Mo X X1) (h : Aq len (X1 1) (Y1 46)) (hd : X1 1 2 = 0 → DR X1 Y1) (ho : 0 ≤ bOr (Y1 46 8) (bShl 1 w) ∧ bOr (Y1 46 8) (bShl 1 w) < 64 ∧ X1 1 5 = bOr (Y1 46 8) (bShl 1 w) / 4) (hz : ∀ Y2, Gd len X1 Y2 → Zw len X1 Y2 → ∃ X', T X1 = some X' ∧ Br len (X' 1) (Y2 46) ∧ Kd X1 X') (hb : ∀ Y2, Gd len X1 Y2 → Bq (Y2 51) len (X1 1) (Y2 46) → Y2 46 12 = 0 → DR X1 Y2 → ∃ X' Y', T X1 = some X' ∧ rb75 n w Y2 = f_X6_readLine_171 n Y' ∧ Lw len X1 Y2 X' Y') : ∃ X' Y', (T X1).bind (fun M => f_X3_takeLine_101 n M) = some X' ∧ f_X6_readLine_75 n w Y1 = some Y' ∧ LL len X Y X' Y' := by
  rw [rb75_is, Option.bind_some]
  generalize hv : bOr (Y1 46 8) (bShl 1 w) = v at ho ⊢
  have ke2 : Ke Y (st Y1 46 8 v) := k2.trans (Ke_46 (by decide))
  have aq : Aq len (X1 1) (st Y1 46 8 v 46) := Aq_q h (fun _ _ => rfl) (fun j h1 h2 => st_nk _ _ _ (by omega))
  obtain ⟨Y2, s1, s2, s3⟩ := step_w hn (Gd_k g k1 ke2) aq
  have ke3 := ke2.trans s3.e
  have g2 : Gd len X1 Y2 := Gd_k g k1 ke3
  have r12 := Bq_12 s2
  rw [s1, Option.bind_some, wr_id (x := Y2 46 12) (by omega) (by omega)]
  by_cases q : Y2 46 12 = 0
  · have x2 : X1 1 2 = 0 := by
      rcases s2 with b | b
      · exact b.1
      · have := b.1; have := b.2.1; omega
    have d2 : DR X1 Y2 := DR_k (hd x2) (fun _ _ _ => rfl) (by rw [s3.1 49 (by decide), st_ne _ _ _ (by decide)]) (by rw [s3.1 50 (by decide), st_ne _ _ _ (by decide)]) (by rw [s3.2 6 (by decide), st_nk _ _ _ (by decide)]) (by rw [s3.2 7 (by decide), st_nk _ _ _ (by decide)])
    obtain ⟨X3, Y3, c1, c2, c3, c4, c5, c6, c7⟩ := hb Y2 g2 s2 q d2
    have kd3 := k1.trans c5
    have ke4 := ke3.trans c6
    obtain ⟨X4, Y4, e1, e2, e3, e4, e5⟩ := end_b hn (Gd_k g kd3 ke4) c3
    refine ⟨X4, Y4, ?_, ?_, e3, fun z => ?_, kd3.trans e4.d, ke4.trans e5.e, m1.trans (c7.trans e4.m)⟩
    · rw [c1, Option.bind_some, e1]
    · rw [if_pos (by omega), c2, e2]
    · obtain ⟨f1, f2, f3⟩ := c4 (e4.2.2 z).1
      refine ⟨DR_k f1 (fun a h1 h2 => e4.1 a (by omega)) (e5.1 49 (by decide)) (e5.1 50 (by decide)) (e5.2 6 (by decide)) (e5.2 7 (by decide)), ?_⟩
      have e8 : Y4 46 8 = v := by rw [e5.2 8 (by decide), f3, s3.2 8 (by decide), st_same]
      unfold On
      rw [e8, e4.2.1 5 (by decide), f2]
      exact ho
  · obtain ⟨X3, c1, c2, c3⟩ := hz Y2 g2 ⟨s2, q⟩
    refine ⟨X3, Y2, ?_, ?_, Or.inr c2, fun z => by have := c2.1; omega, k1.trans c3, ke3, fun z => by have := c2.1; omega⟩
    · rw [c1, Option.bind_some, end_z c2]
    · rw [if_neg (by omega)]
/-- lines that come once -/
theorem once_b {n len : Nat} {X Y : Mem} {T F : Mem → Option Mem} (w : Nat) (hw : w < 4) (hn : 1000 ≤ n) (g : Gd len X Y) (h : Aq len (X 1) (Y 46)) (h2 : X 1 2 = 0) (d : DR X Y) (o : On X Y) (hF : ∀ M, F M = (f_X3_markOnce (w : Int) M).bind T) (hz : ∀ X1 Y2, Gd len X1 Y2 → Zw len X1 Y2 → ∃ X', T X1 = some X' ∧ Br len (X' 1) (Y2 46) ∧ Kd X1 X') (hb : ∀ X1 Y2, Gd len X1 Y2 → Bq (Y2 51) len (X1 1) (Y2 46) → Y2 46 12 = 0 → DR X1 Y2 → ∃ X' Y', T X1 = some X' ∧ f_X6_readOnce n ((w : Int) + 2) Y2 = some Y' ∧ Lw len X1 Y2 X' Y') : ∃ X' Y', (F X).bind (fun M => f_X3_takeLine_101 n M) = some X' ∧ f_X6_readLine_53 n ((w : Int) + 2) Y = some Y' ∧ LL len X Y X' Y' := by
  obtain ⟨o1, o2, o3⟩ := o
  have oa := once_all ⟨(Y 46 8).toNat, by omega⟩ ⟨w, hw⟩
  dsimp only at oa
  rw [show (((Y 46 8).toNat : Nat) : Int) = Y 46 8 by omega] at oa
  obtain ⟨oa1, oa2, oa3⟩ := oa
  have hb' : ∀ X1 Y2, Gd len X1 Y2 → Bq (Y2 51) len (X1 1) (Y2 46) → Y2 46 12 = 0 → DR X1 Y2 → ∃ X' Y', T X1 = some X' ∧ rb75 n ((w : Int) + 2) Y2 = f_X6_readLine_171 n Y' ∧ Lw len X1 Y2 X' Y' := fun X1 Y2 p1 p2 p3 p4 => by
    obtain ⟨X', Y', q1, q2, q3⟩ := hb X1 Y2 p1 p2 p3 p4
    refine ⟨X', Y', q1, ?_, q3⟩
    unfold rb75
    rw [wr_id (x := (w : Int) + 2) (by omega) (by omega), if_neg (by omega), if_neg (by omega), q2, Option.bind_some]
  rw [hF]
  unfold f_X3_markOnce f_X3_markOnce_16 f_X6_readLine_53
  rw [has_c, Option.bind_some, ifbi, wr_id (x := (w : Int) + 2) (by omega) (by omega), if_neg (show ¬ ((w : Int) + 2 ≤ 1) by omega), o3]
  by_cases q : bt (Y 46 8 / 4) (w : Int) = 1
  · obtain ⟨X1, Y1, d1, d2, d3, d4, d5⟩ := fail_w 4 (by decide) h
    rw [if_pos q, if_pos (oa1.mp q), d1, d2, Option.bind_some, Option.bind_some, Option.bind_some]
    have y8 : Y1 46 8 = Y 46 8 := d5.2 8 (by decide)
    have x5 : X1 1 5 = Y 46 8 / 4 := by rw [d4.2.1 5 (by decide), o3]
    refine mid hn g (d4.d.trans Kd_5) d5.e ?_ (Or.inr (Br_q d3 (fun j hj => st_nk _ _ _ (by omega)) (fun _ _ _ => rfl))) (fun z => ?_) ?_ (fun Y2 => hz _ Y2) (fun Y2 => hb' _ Y2)
    · intro z
      rw [st_nk _ _ _ (by decide)] at z
      have := d3.1; omega
    · rw [st_nk _ _ _ (by decide)] at z
      have := d3.1; omega
    · rw [y8, st_same, x5]
      exact ⟨oa2.1, oa2.2, oa3⟩
  · rw [if_neg q, if_neg (fun z => q (oa1.mpr z)), Option.bind_some, Option.bind_some]
    refine mid hn g Kd_5 (Ke.refl _) ?_ (Aq_q h (fun j hj => st_nk _ _ _ (by omega)) (fun _ _ _ => rfl)) (fun z => ?_) ?_ (fun Y2 => hz _ Y2) (fun Y2 => hb' _ Y2)
    · intro z
      rw [st_nk _ _ _ (by decide)] at z ⊢
      exact ⟨z, Int.le_refl _⟩
    · exact DR_k d (fun a h1 h2 => st_ne _ _ _ (by omega)) rfl rfl rfl rfl
    · rw [st_same]
      exact ⟨oa2.1, oa2.2, oa3⟩
theorem line_b {n len : Nat} {X Y : Mem} (hn : 1000 ≤ n) (g : Gd len X Y) (h : Aq len (X 1) (Y 46)) (h2 : X 1 2 = 0) (d : DR X Y) (o : On X Y) : ∃ X' Y', f_X3_takeLine n X = some X' ∧ f_X6_readLine n Y = some Y' ∧ LL len X Y X' Y' := by
  have ol : ∀ w : Nat, w < 2 → 0 ≤ bOr (Y 46 8) (bShl 1 (w : Int)) ∧ bOr (Y 46 8) (bShl 1 (w : Int)) < 64 ∧ X 1 5 = bOr (Y 46 8) (bShl 1 (w : Int)) / 4 := fun w hw => by
    obtain ⟨o1, o2, o3⟩ := o
    have oa := once_lo ⟨(Y 46 8).toNat, by omega⟩ ⟨w, hw⟩
    dsimp only at oa
    rw [show (((Y 46 8).toNat : Nat) : Int) = Y 46 8 by omega] at oa
    exact ⟨oa.1.1, oa.1.2, by rw [o3]; exact oa.2⟩
  have y6 : Y 46 6 = X 8 4 := d.2.2.1
  have y7 : Y 46 7 = X 8 5 := d.2.2.2.1
  have d1 := d.1
  have d2 := d.2.1
  have c8 := ck8 g.2.2.2.2.1
  have bad : ∀ v1, f_X6_wordHere n Y = some v1 → rg v1 → ¬ (0 ≤ v1 ∧ v1 ≤ 5) → (∀ j, j < 6 → f_X3_isWord n j X = some 0) → ∃ X' Y', f_X3_takeLine n X = some X' ∧ f_X6_readLine n Y = some Y' ∧ LL len X Y X' Y' := fun v1 e er q hj => by
    obtain ⟨X2, Y2, p1, p2, p3, p4, p5⟩ := fail_w 2 (by decide) h
    refine ⟨X2, Y2, ?_, ?_, Or.inr p3, fun z => by have := p3.1; omega, p4.d, p5.e, p4.m⟩
    · unfold f_X3_takeLine
      rw [hj 0 (by decide), Option.bind_some, if_pos wr_0, hj 1 (by decide), Option.bind_some, if_pos wr_0, hj 2 (by decide), Option.bind_some, if_pos wr_0, hj 3 (by decide), Option.bind_some, if_pos wr_0, hj 4 (by decide), Option.bind_some, if_pos wr_0, hj 5 (by decide), Option.bind_some, if_pos wr_0, p1, Option.bind_some, end_z p3]
    · unfold f_X6_readLine
      rw [e, Option.bind_some, wr_rg er, in_r er (rgl 0) (rgl 5), Option.bind_some, ifbi, if_neg q, p2, Option.bind_some]
  rcases word_w hn g h h2 with ⟨k, k1, k2, k3, k4, k5⟩ | ⟨k2, k5⟩
  · have rl : k < 6 → f_X6_readLine n Y = if (k : Int) = 0 then (if Y 46 6 = 4 then f_X6_readLine_48 n (k : Int) Y else f_X6_readLine_35 n (k : Int) Y) else f_X6_readLine_35 n (k : Int) Y := fun hk => by
      unfold f_X6_readLine
      rw [k2, Option.bind_some, wr_id (x := (k : Int)) (by omega) (by omega), in_r (by unfold rg; omega) (rgl 0) (rgl 5), Option.bind_some, ifbi, if_pos (by omega), wr_id (x := Y 46 6) (by omega) (by omega)]
    have kk : k = 0 ∨ k = 1 ∨ k = 2 ∨ k = 3 ∨ k = 4 ∨ k = 5 ∨ 6 ≤ k := by omega
    rcases kk with q | q | q | q | q | q | q
    · subst q
      have er := rl (by decide)
      rw [if_pos (show ((0 : Nat) : Int) = 0 from rfl)] at er
      have e53 : ∀ M, f_X6_readLine_53 n ((0 : Nat) : Int) M = f_X6_readLine_75 n ((0 : Nat) : Int) M := fun M => by
        unfold f_X6_readLine_53; rw [if_pos (by decide)]
      have e35 : ∀ M, f_X6_readLine_35 n ((0 : Nat) : Int) M = f_X6_readLine_75 n ((0 : Nat) : Int) M := fun M => by
        unfold f_X6_readLine_35; rw [if_neg (by decide), e53]
      have eo : f_X3_takeLine n X = (f_X3_takeLand n X).bind fun M => f_X3_takeLine_101 n M := by
        unfold f_X3_takeLine
        rw [k4, Option.bind_some, if_neg w1n0]
      rw [er, eo]
      unfold f_X3_takeLand
      rw [c8, Option.bind_some, wr_id (x := X 8 4) (by omega) (by omega)]
      by_cases l4 : X 8 4 < 4
      · rw [if_pos l4, if_neg (by omega), e35]
        refine mid (T := f_X3_takeLand_16 n) hn g (Kd.refl _) (Ke.refl _) (Mo.refl _) h (fun _ => d) (ol 0 (by decide)) (fun Y2 p1 p2 => land_z hn p1 p2) (fun Y2 p1 p2 p3 p4 => ?_)
        obtain ⟨X', Y', z1, z2, z3⟩ := land_b hn p1 p2 p4 l4
        exact ⟨X', Y', z1, by unfold rb75; rw [if_pos (by decide), z2], z3⟩
      · obtain ⟨X2, Y2, p1, p2, p3, p4, p5⟩ := fail_w 5 (by decide) h
        have e48 : f_X6_readLine_48 n ((0 : Nat) : Int) Y = f_X6_readLine_75 n ((0 : Nat) : Int) Y2 := by
          unfold f_X6_readLine_48; rw [p2, Option.bind_some, e53]
        have np : X2 1 2 ≠ 0 := by have := p3.1; omega
        rw [if_neg l4, if_pos (by omega), e48, p1, Option.bind_some]
        refine mid (T := f_X3_takeLand_16 n) hn g p4.d p5.e p4.m (Or.inr p3) (fun z => absurd z np) (by rw [p5.2 8 (by decide), p4.2.1 5 (by decide)]; exact ol 0 (by decide)) (fun Y2 p1 p2 => land_z hn p1 p2) (fun Y3 q1 q2 q3 q4 => ?_)
        rcases q2 with b | b
        · exact absurd b.1 np
        · have := b.1; have := b.2.1; omega
    · subst q
      have er := rl (by decide)
      rw [if_neg (by decide)] at er
      have e53 : ∀ M, f_X6_readLine_53 n ((1 : Nat) : Int) M = f_X6_readLine_75 n ((1 : Nat) : Int) M := fun M => by
        unfold f_X6_readLine_53; rw [if_pos (by decide)]
      have eo : f_X3_takeLine n X = (f_X3_takeDream n X).bind fun M => f_X3_takeLine_101 n M := by
        unfold f_X3_takeLine
        rw [k5 0 (by decide) (by decide), Option.bind_some, if_pos wr_0, k4, Option.bind_some, if_neg w1n0]
      have e35 : f_X6_readLine_35 n ((1 : Nat) : Int) Y = if Y 46 7 = 4 then f_X6_readLine_48 n ((1 : Nat) : Int) Y else f_X6_readLine_75 n ((1 : Nat) : Int) Y := by
        unfold f_X6_readLine_35; rw [if_pos (by decide), e53, wr_id (x := Y 46 7) (by omega) (by omega)]
      rw [er, eo, e35]
      unfold f_X3_takeDream
      rw [c8, Option.bind_some, wr_id (x := X 8 5) (by omega) (by omega)]
      by_cases l4 : X 8 5 < 4
      · rw [if_pos l4, if_neg (by omega)]
        refine mid (T := f_X3_takeDream_16 n) hn g (Kd.refl _) (Ke.refl _) (Mo.refl _) h (fun _ => d) (ol 1 (by decide)) (fun Y2 p1 p2 => dream_z hn p1 p2) (fun Y2 p1 p2 p3 p4 => ?_)
        obtain ⟨X', Y', z1, z2, z3⟩ := dream_b hn p1 p2 p3 p4 l4
        exact ⟨X', Y', z1, by unfold rb75; rw [if_neg (by decide), if_pos (by decide), z2, Option.bind_some], z3⟩
      · obtain ⟨X2, Y2, p1, p2, p3, p4, p5⟩ := fail_w 5 (by decide) h
        have e48 : f_X6_readLine_48 n ((1 : Nat) : Int) Y = f_X6_readLine_75 n ((1 : Nat) : Int) Y2 := by
          unfold f_X6_readLine_48; rw [p2, Option.bind_some, e53]
        have np : X2 1 2 ≠ 0 := by have := p3.1; omega
        rw [if_neg l4, if_pos (by omega), e48, p1, Option.bind_some]
        refine mid (T := f_X3_takeDream_16 n) hn g p4.d p5.e p4.m (Or.inr p3) (fun z => absurd z np) (by rw [p5.2 8 (by decide), p4.2.1 5 (by decide)]; exact ol 1 (by decide)) (fun Y2 p1 p2 => dream_z hn p1 p2) (fun Y3 q1 q2 q3 q4 => ?_)
        rcases q2 with b | b
        · exact absurd b.1 np
        · have := b.1; have := b.2.1; omega
    · subst q
      have er := rl (by decide)
      rw [if_neg (by decide)] at er
      have e35 : f_X6_readLine_35 n ((2 : Nat) : Int) Y = f_X6_readLine_53 n (((0 : Nat) : Int) + 2) Y := by
        unfold f_X6_readLine_35; rw [if_neg (by decide)]; rfl
      have eo : f_X3_takeLine n X = (f_X3_takePeople n X).bind fun M => f_X3_takeLine_101 n M := by
        unfold f_X3_takeLine
        rw [k5 0 (by decide) (by decide), Option.bind_some, if_pos wr_0, k5 1 (by decide) (by decide), Option.bind_some, if_pos wr_0, k4, Option.bind_some, if_neg w1n0]
      rw [er, eo, e35]
      exact once_b (T := tlP n) 0 (by decide) hn g h h2 d o (fun M => rfl) (fun X1 Y2 p1 p2 => tlP_z hn p1 p2) (fun X1 Y2 p1 p2 p3 p4 => people_b hn p1 p2 p4)
    · subst q
      have er := rl (by decide)
      rw [if_neg (by decide)] at er
      have e35 : f_X6_readLine_35 n ((3 : Nat) : Int) Y = f_X6_readLine_53 n (((1 : Nat) : Int) + 2) Y := by
        unfold f_X6_readLine_35; rw [if_neg (by decide)]; rfl
      have eo : f_X3_takeLine n X = (f_X3_takeGranary n X).bind fun M => f_X3_takeLine_101 n M := by
        unfold f_X3_takeLine
        rw [k5 0 (by decide) (by decide), Option.bind_some, if_pos wr_0, k5 1 (by decide) (by decide), Option.bind_some, if_pos wr_0, k5 2 (by decide) (by decide), Option.bind_some, if_pos wr_0, k4, Option.bind_some, if_neg w1n0]
      rw [er, eo, e35]
      exact once_b (T := tlG n) 1 (by decide) hn g h h2 d o (fun M => rfl) (fun X1 Y2 p1 p2 => tlG_z hn p1 p2) (fun X1 Y2 p1 p2 p3 p4 => granary_b hn p1 p2 p4)
    · subst q
      have er := rl (by decide)
      rw [if_neg (by decide)] at er
      have e35 : f_X6_readLine_35 n ((4 : Nat) : Int) Y = f_X6_readLine_53 n (((2 : Nat) : Int) + 2) Y := by
        unfold f_X6_readLine_35; rw [if_neg (by decide)]; rfl
      have eo : f_X3_takeLine n X = (f_X3_takePrice n X).bind fun M => f_X3_takeLine_101 n M := by
        unfold f_X3_takeLine
        rw [k5 0 (by decide) (by decide), Option.bind_some, if_pos wr_0, k5 1 (by decide) (by decide), Option.bind_some, if_pos wr_0, k5 2 (by decide) (by decide), Option.bind_some, if_pos wr_0, k5 3 (by decide) (by decide), Option.bind_some, if_pos wr_0, k4, Option.bind_some, if_neg w1n0]
      rw [er, eo, e35]
      exact once_b (T := tlC n) 2 (by decide) hn g h h2 d o (fun M => rfl) (fun X1 Y2 p1 p2 => tlC_z hn p1 p2) (fun X1 Y2 p1 p2 p3 p4 => price_b hn p1 p2 p4)
    · subst q
      have er := rl (by decide)
      rw [if_neg (by decide)] at er
      have e35 : f_X6_readLine_35 n ((5 : Nat) : Int) Y = f_X6_readLine_53 n (((3 : Nat) : Int) + 2) Y := by
        unfold f_X6_readLine_35; rw [if_neg (by decide)]; rfl
      have eo : f_X3_takeLine n X = (f_X3_takeSteward n X).bind fun M => f_X3_takeLine_101 n M := by
        unfold f_X3_takeLine
        rw [k5 0 (by decide) (by decide), Option.bind_some, if_pos wr_0, k5 1 (by decide) (by decide), Option.bind_some, if_pos wr_0, k5 2 (by decide) (by decide), Option.bind_some, if_pos wr_0, k5 3 (by decide) (by decide), Option.bind_some, if_pos wr_0, k5 4 (by decide) (by decide), Option.bind_some, if_pos wr_0, k4, Option.bind_some, if_neg w1n0]
      rw [er, eo, e35]
      exact once_b (T := tlW n) 3 (by decide) hn g h h2 d o (fun M => rfl) (fun X1 Y2 p1 p2 => tlW_z hn p1 p2) (fun X1 Y2 p1 p2 p3 p4 => steward_b hn p1 p2 p3 p4)
    · exact bad k k2 (by unfold rg; omega) (by omega) (fun j hj => k5 j (by omega) (by omega))
  · exact bad (-4) k2 (rgl (-4)) (by decide) (fun j hj => k5 j (by omega))
