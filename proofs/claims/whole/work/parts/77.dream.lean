/-! lines: the steward -/
theorem kind_z {n len : Nat} {X Y : Mem} (hn : 1000 ≤ n) (g : Gd len X Y) (h : Zw len X Y) : ∃ v X', f_X3_takeKind n X = some (v, X') ∧ Br len (X' 1) (Y 46) ∧ Kp X X' := by
  obtain ⟨X1, a1, a2, a3⟩ := take_z hn g h
  have g1 := Gd_k g a3.d (Ke.refl Y)
  obtain ⟨b6, e6⟩ := isWord_z (n := n) (k := 6) hn g1 (by decide) a2
  obtain ⟨b7, e7⟩ := isWord_z (n := n) (k := 7) hn g1 (by decide) a2
  obtain ⟨b8, e8⟩ := isWord_z (n := n) (k := 8) hn g1 (by decide) a2
  obtain ⟨b9, e9⟩ := isWord_z (n := n) (k := 9) hn g1 (by decide) a2
  obtain ⟨b10, e10⟩ := isWord_z (n := n) (k := 10) hn g1 (by decide) a2
  have : ∃ v, f_X3_takeKind n X = some (v, X1) := by
    unfold f_X3_takeKind
    rw [a1, Option.bind_some, e6, Option.bind_some, e7, Option.bind_some, e8, Option.bind_some, e9, Option.bind_some, e10, Option.bind_some, fail_z 2 a2, Option.bind_some]
    split
    · split
      · split
        · split
          · split
            · exact ⟨_, rfl⟩
            · exact ⟨_, rfl⟩
          · exact ⟨_, rfl⟩
        · exact ⟨_, rfl⟩
      · exact ⟨_, rfl⟩
    · exact ⟨_, rfl⟩
  obtain ⟨v, hv⟩ := this
  exact ⟨v, X1, hv, a2, a3⟩
def tlW (n : Nat) (M1 : Mem) : Option Mem :=
  (f_X3_takeKind n M1).bind fun (v2, M3) =>
  (f_X3_takeWithin n 0 9 M3).bind fun (v4, M5) =>
  (ckX2 (M5 1 4)).bind fun c6 =>
  (f_X2_appoint c6 v2 v4 M5).bind fun M7 =>
  some M7
theorem tlW_z {n len : Nat} {X Y : Mem} (hn : 1000 ≤ n) (g : Gd len X Y) (h : Zw len X Y) : ∃ X', tlW n X = some X' ∧ Br len (X' 1) (Y 46) ∧ Kd X X' := by
  obtain ⟨v, X1, a1, a2, a3⟩ := kind_z hn g h
  have g1 := Gd_k g a3.d (Ke.refl Y)
  obtain ⟨X3, c1, c2, c3⟩ := within_z 0 9 hn g1 (Br_z a2)
  have g3 := Gd_k g1 c3.d (Ke.refl Y)
  refine ⟨st (st X3 8 13 v) 8 14 0, ?_, Br_x (Br_x c2 (by decide)) (by decide), a3.d.trans (c3.d.trans ((Kd_st (by decide)).trans (Kd_st (by decide))))⟩
  unfold tlW f_X2_appoint
  simp only [a1, c1, Option.bind_some, ck8 g3.2.2.2.2.1]
/-- the steward's kind, on both sides -/
theorem kind_b {n len : Nat} {X Y : Mem} (hn : 1000 ≤ n) (g : Gd len X Y) (h : Bq (Y 51) len (X 1) (Y 46)) (h12 : Y 46 12 = 0) : ∃ v w X' Y', f_X3_takeKind n X = some (v, X') ∧ f_X6_readOnce n 5 Y = f_X6_readOnce_182 n w Y' ∧ Aq len (X' 1) (Y' 46) ∧ (X' 1 2 = 0 → v = w ∧ 0 ≤ v ∧ v ≤ 4) ∧ Kp X X' ∧ Kq Y Y' := by
  obtain ⟨X1, a1, a2, a3, -⟩ := take_w hn g h
  have g1 := Gd_k g a3.d (Ke.refl Y)
  have h2 : X1 1 2 = 0 := by
    rcases a2 with b | b
    · exact b.1
    · have := b.1; have := b.2.1; omega
  have e5 : ∀ v1, f_X6_wordHere n Y = some v1 → f_X6_readOnce n 5 Y = if 0 ≤ wr (v1 - 6) then f_X6_readOnce_182 n (v1 - 6) Y else (f_X6_fails 2 Y).bind fun M2 => f_X6_readOnce_182 n (v1 - 6) M2 := fun v1 e => by
    unfold f_X6_readOnce
    rw [if_neg (by rw [wr_5]; decide), if_neg (by rw [wr_5]; decide), if_neg (by rw [wr_5]; decide), e, Option.bind_some, h12, if_pos wr_0]
  have bad : ∀ v1, f_X6_wordHere n Y = some v1 → ¬ (0 ≤ wr (v1 - 6)) → (∀ j, 6 ≤ j → j < 11 → f_X3_isWord n j X1 = some 0) → ∃ v w X' Y', f_X3_takeKind n X = some (v, X') ∧ f_X6_readOnce n 5 Y = f_X6_readOnce_182 n w Y' ∧ Aq len (X' 1) (Y' 46) ∧ (X' 1 2 = 0 → v = w ∧ 0 ≤ v ∧ v ≤ 4) ∧ Kp X X' ∧ Kq Y Y' := fun v1 e q hj => by
    obtain ⟨X2, Y2, d1, d2, d3, d4, d5⟩ := fail_w 2 (by decide) a2
    refine ⟨0, v1 - 6, X2, Y2, ?_, ?_, Or.inr d3, fun z => by have := d3.1; omega, a3.trans d4, d5⟩
    · unfold f_X3_takeKind
      rw [a1, Option.bind_some, hj 6 (by decide) (by decide), Option.bind_some, if_pos wr_0, hj 7 (by decide) (by decide), Option.bind_some, if_pos wr_0, hj 8 (by decide) (by decide), Option.bind_some, if_pos wr_0, hj 9 (by decide) (by decide), Option.bind_some, if_pos wr_0, hj 10 (by decide) (by decide), Option.bind_some, if_pos wr_0, d1, Option.bind_some]
    · rw [e5 v1 e, if_neg q, d2, Option.bind_some]
  rcases word_w hn g1 a2 h2 with ⟨k, k1, k2, k3, k4, k5⟩ | ⟨k2, k5⟩
  · by_cases k6 : k < 6
    · exact bad k k2 (by rw [wr_id (by omega) (by omega)]; omega) (fun j hj hj2 => k5 j hj2 (by omega))
    · have kk : k = 6 ∨ k = 7 ∨ k = 8 ∨ k = 9 ∨ k = 10 := by omega
      have er : f_X6_readOnce n 5 Y = f_X6_readOnce_182 n ((k : Int) - 6) Y := by rw [e5 k k2, if_pos (by rw [wr_id (by omega) (by omega)]; omega)]
      refine ⟨(k : Int) - 6, (k : Int) - 6, X1, Y, ?_, er, a2, fun _ => ⟨rfl, by omega, by omega⟩, a3, Kq.refl _⟩
      unfold f_X3_takeKind
      rw [a1, Option.bind_some]
      rcases kk with q | q | q | q | q
      · subst q
        rw [k4, Option.bind_some, if_neg w1n0]; rfl
      · subst q
        rw [k5 6 (by decide) (by decide), Option.bind_some, if_pos wr_0, k4, Option.bind_some, if_neg w1n0]; rfl
      · subst q
        rw [k5 6 (by decide) (by decide), Option.bind_some, if_pos wr_0, k5 7 (by decide) (by decide), Option.bind_some, if_pos wr_0, k4, Option.bind_some, if_neg w1n0]; rfl
      · subst q
        rw [k5 6 (by decide) (by decide), Option.bind_some, if_pos wr_0, k5 7 (by decide) (by decide), Option.bind_some, if_pos wr_0, k5 8 (by decide) (by decide), Option.bind_some, if_pos wr_0, k4, Option.bind_some, if_neg w1n0]; rfl
      · subst q
        rw [k5 6 (by decide) (by decide), Option.bind_some, if_pos wr_0, k5 7 (by decide) (by decide), Option.bind_some, if_pos wr_0, k5 8 (by decide) (by decide), Option.bind_some, if_pos wr_0, k5 9 (by decide) (by decide), Option.bind_some, if_pos wr_0, k4, Option.bind_some, if_neg w1n0]; rfl
  · exact bad (-4) k2 (by decide) (fun j _ hj2 => k5 j hj2)
theorem steward_b {n len : Nat} {X Y : Mem} (hn : 1000 ≤ n) (g : Gd len X Y) (h : Bq (Y 51) len (X 1) (Y 46)) (h12 : Y 46 12 = 0) (d : DR X Y) : ∃ X' Y', tlW n X = some X' ∧ f_X6_readOnce n 5 Y = some Y' ∧ Lw len X Y X' Y' := by
  obtain ⟨v, w, X1, Y1, a1, a2, a3, a4, a5, a6⟩ := kind_b hn g h h12
  have ke1 : Ke Y (st Y1 49 19 w) := a6.e.trans (Ke_st (by decide))
  have g1 : Gd len X1 (st Y1 49 19 w) := Gd_k g a5.d ke1
  have aq : Aq len (X1 1) (st Y1 49 19 w 46) := by rw [st_ne _ _ _ (by decide)]; exact a3
  obtain ⟨Y2, s1, s2, s3⟩ := step_w hn g1 aq
  have ke2 := ke1.trans s3.e
  have g2 : Gd len X1 Y2 := Gd_k g a5.d ke2
  obtain ⟨v', w', X3, Y3, b1, b2, b3, b4, b5, b6⟩ := num_w 0 9 (rgl 0) (rgl 9) hn g2 s2
  have kp := a5.trans b5
  refine ⟨st (st X3 8 13 v) 8 14 v', st Y3 49 20 w', ?_, ?_, ?_, fun z => ?_, kp.d.trans ((Kd_st (by decide)).trans (Kd_st (by decide))), ke2.trans (b6.e.trans (Ke_st (by decide))), kp.m.trans (Mo.trans (Mo_st (a := 8) (k := 13) (v := v) (by decide)) (Mo_st (by decide)))⟩
  · unfold tlW f_X2_appoint
    simp only [a1, b1, Option.bind_some, ck8 (Gd_k g kp.d ke2).2.2.2.2.1]
  · rw [a2]
    unfold f_X6_readOnce_182
    rw [Option.bind_some, s1, Option.bind_some, b2, Option.bind_some]
    rfl
  · rw [st_ne _ _ _ (by decide), st_ne _ _ _ (by decide), st_ne _ _ _ (by decide), st_ne _ _ _ (by decide)]; exact b3
  · rw [st_ne _ _ _ (by decide), st_ne _ _ _ (by decide)] at z
    obtain ⟨z1, z2, z3, -⟩ := b4 z
    obtain ⟨y1, y2, y3⟩ := a4 (b5.2.2 z).1
    have e8 : st (st X3 8 13 v) 8 14 v' 8 = rs (rs (X 8) 13 v) 14 v' := by rw [st_row, st_row, kp.1 8 (by decide)]
    have e49 : st Y3 49 20 w' 49 = rs (rs (Y 49) 19 v) 20 v' := by rw [st_row, b6.1 49 (by decide), s3.1 49 (by decide), st_row, a6.1 49 (by decide), y1, z1]
    have e46 : ∀ j, j < 12 → st Y3 49 20 w' 46 j = Y 46 j := fun j hj => by
      rw [st_ne _ _ _ (by decide), b6.2 j (by omega), s3.2 j (by omega), st_ne _ _ _ (by decide), a6.2 j (by omega)]
    obtain ⟨o1, o2, o3, o4, o5, o6, o7, o8, o9, o10⟩ := d.2.2.2.2.1
    refine ⟨DR_set d (fun a h1 h2 => ?_) ?_ ?_ ?_ (e46 6 (by decide)) (e46 7 (by decide)) (fun k hk => ?_) ?_ ?_ ?_ ?_, ?_, e46 8 (by decide)⟩
    · rw [st_ne _ _ _ (by omega), st_ne _ _ _ (by omega), kp.1 a (by omega)]
    · rw [st_ne _ _ _ (by decide), b6.1 50 (by decide), s3.1 50 (by decide), st_ne _ _ _ (by decide), a6.1 50 (by decide)]
    · rw [e8]; rfl
    · rw [e8]; rfl
    · rw [e49, rs_n (by omega), rs_n (by omega)]
    · rw [e8]; exact ⟨o1, o2, o3, o4, o5, o6, o7, ⟨y2, y3⟩, ⟨z2, z3⟩, o10⟩
    · rw [e8]; exact d.2.2.2.2.2.1
    · rw [e8]; exact d.2.2.2.2.2.2.1
    · rw [e8, e49]; exact Rw_k (k := 14) (Rw_k (k := 13) d.2.2.2.2.2.2.2.1 (by decide)) (by decide)
    · rw [st_ne _ _ _ (by decide), st_ne _ _ _ (by decide), kp.2.1 5 (by decide)]
/-! lines: a reading -/
def dwS (t : Nat → Int) (s : Nat) : Nat → Nat → Int → Option Int
  | 0, _, row => some row
  | f + 1, y, row => if t (s + y) = 102 then dwS t s f (y + 1) (bOr row (bShl 1 (y : Int))) else if t (s + y) = 108 then dwS t s f (y + 1) row else none
theorem dwS_cong {t u : Nat → Int} {s len : Nat} (h : ∀ i, i < len → t i = u i) : ∀ f y row, s + y + f ≤ len → dwS t s f y row = dwS u s f y row
  | 0, _, _, _ => rfl
  | f + 1, y, row, hl => by rw [dwS, dwS, h (s + y) (by omega), dwS_cong h f (y + 1) _ (by omega), dwS_cong h f (y + 1) _ (by omega)]
theorem row_lp {n len s e : Nat} {X : Mem} (ht : TpOk (X 2) len) (h7 : X 1 7 = (s : Int)) (h8 : X 1 8 = (e : Int)) (he : e ≤ len) : ∀ (f m y : Nat) (row : Int), f < m → s + y + f = e → lp (fun z => f_X3_takeRow_52 n z.1 z.2 X) m (row, (y : Int)) = match dwS (X 2) s f y row with | some v => some (v, X) | none => f_X3_takeRow_98 n X := by
  have hl := ht.1
  intro f
  induction f with
  | zero =>
    intro m y row hm hy
    obtain ⟨m, rfl⟩ : ∃ k, m = k + 1 := ⟨m - 1, by omega⟩
    refine lp_end (f := fun z => f_X3_takeRow_52 n z.1 z.2 X) (s := (row, (y : Int))) ?_
    show f_X3_takeRow_52 n row (y : Int) X = _
    unfold f_X3_takeRow_52
    rw [h7, h8, wr_id (by omega) (by omega), wr_id (by omega) (by omega), if_pos (by omega)]
  | succ f ih =>
    intro m y row hm hy
    obtain ⟨m, rfl⟩ : ∃ k, m = k + 1 := ⟨m - 1, by omega⟩
    have b := ht.2 (s + y) (by omega)
    have e0 : f_X3_takeRow_52 n row (y : Int) X = if X 2 (s + y) = 102 then some (.inl (bOr row (bShl 1 (y : Int)), ((y + 1 : Nat) : Int))) else if X 2 (s + y) = 108 then some (.inl (row, ((y + 1 : Nat) : Int))) else (f_X3_takeRow_98 n X).map Sum.inr := by
      unfold f_X3_takeRow_52 f_X3_takeRow_105
      rw [h7, h8, wr_id (x := (e : Int) - (s : Int)) (by omega) (by omega), wr_id (x := (y : Int)) (by omega) (by omega), if_neg (by omega), rd_id (by omega) (by omega) (by omega), Option.bind_some, show ((s : Int) + (y : Int)).toNat = s + y by omega, wr_id (x := X 2 (s + y)) (by omega) (by omega)]
      rfl
    rw [dwS]
    by_cases q1 : X 2 (s + y) = 102
    · rw [if_pos q1] at e0 ⊢
      rw [lp_succ (f := fun z => f_X3_takeRow_52 n z.1 z.2 X) (s := (row, (y : Int))) e0]
      exact ih m (y + 1) _ (by omega) (by omega)
    · rw [if_neg q1] at e0 ⊢
      by_cases q2 : X 2 (s + y) = 108
      · rw [if_pos q2] at e0 ⊢
        rw [lp_succ (f := fun z => f_X3_takeRow_52 n z.1 z.2 X) (s := (row, (y : Int))) e0]
        exact ih m (y + 1) _ (by omega) (by omega)
      · rw [if_neg q2] at e0 ⊢
        exact lp_map (f := fun z => f_X3_takeRow_52 n z.1 z.2 X) (s := (row, (y : Int))) e0
theorem rd110_0 (n : Nat) (r : Int) (Y : Mem) : f_X6_readDream_110 n 0 r Y = f_X6_fails 3 Y := by
  unfold f_X6_readDream_110
  rw [if_pos wr_0]
  cases f_X6_fails 3 Y <;> rfl
theorem rd41_0 {n m : Nat} {r k : Int} {Y : Mem} : lp (fun z : Int × Int × Int => f_X6_readDream_41 n z.1 z.2.1 z.2.2 Y) (m + 1) (0, r, k) = f_X6_fails 3 Y := by
  refine lp_map (f := fun z : Int × Int × Int => f_X6_readDream_41 n z.1 z.2.1 z.2.2 Y) (s := (0, r, k)) ?_
  show f_X6_readDream_41 n 0 r k Y = _
  unfold f_X6_readDream_41
  rw [rd110_0, if_pos wr_0]
  split <;> rfl
theorem row_lr {n len s e : Nat} {Y : Mem} (ht : TpOk (Y 51) len) (h10 : Y 46 10 = (len : Int)) (h15 : Y 46 15 = (s : Int)) (h14 : Y 46 14 = (e : Int)) (he : e ≤ len) : ∀ (f m y : Nat) (row : Int), f + 1 < m → s + y + f = e → wr row = row → lp (fun z : Int × Int × Int => f_X6_readDream_41 n z.1 z.2.1 z.2.2 Y) m (1, row, ((s + y : Nat) : Int)) = match dwS (Y 51) s f y row with | some v => f_X6_readDream_110 n 1 v Y | none => f_X6_fails 3 Y := by
  have hl := ht.1
  intro f
  induction f with
  | zero =>
    intro m y row hm hy hr
    obtain ⟨m, rfl⟩ : ∃ k, m = k + 1 := ⟨m - 1, by omega⟩
    refine lp_map (f := fun z : Int × Int × Int => f_X6_readDream_41 n z.1 z.2.1 z.2.2 Y) (s := (1, row, ((s + y : Nat) : Int))) ?_
    show f_X6_readDream_41 n 1 row ((s + y : Nat) : Int) Y = _
    unfold f_X6_readDream_41
    rw [h14, wr_id (by omega) (by omega), wr_id (by omega) (by omega), if_pos (by omega)]
    rfl
  | succ f ih =>
    intro m y row hm hy hr
    obtain ⟨m, rfl⟩ : ∃ k, m = k + 1 := ⟨m - 1, by omega⟩
    have b := ht.2 (s + y) (by omega)
    have eb : f_X6_byteAt ((s + y : Nat) : Int) Y = some (Y 51 (s + y)) := by
      have := byteAt_r (N := Y) (r := Y 46) (i := s + y) ht h10 (by omega)
      rw [sr_self] at this
      rw [this]; unfold tb; rw [if_pos (by omega)]
    have e0 : f_X6_readDream_41 n 1 row ((s + y : Nat) : Int) Y = if Y 51 (s + y) = 102 then some (.inl (1, bOr row (bShl 1 (y : Int)), ((s + (y + 1) : Nat) : Int))) else if Y 51 (s + y) = 108 then some (.inl (1, row, ((s + (y + 1) : Nat) : Int))) else some (.inl (0, row, ((s + (y + 1) : Nat) : Int))) := by
      unfold f_X6_readDream_41 f_X6_readDream_73 f_X6_readDream_78 f_X6_readDream_102
      rw [h14, wr_id (x := (e : Int)) (by omega) (by omega), wr_id (x := ((s + y : Nat) : Int)) (by omega) (by omega), if_neg (by omega), if_neg w1n0, eb, Option.bind_some, Option.bind_some, Option.bind_some, wr_id (x := Y 51 (s + y)) (by omega) (by omega), h15, show ((s + y : Nat) : Int) - (s : Int) = (y : Int) by omega, show ((s + y : Nat) : Int) + 1 = ((s + (y + 1) : Nat) : Int) by omega, bOr0 hr]
      by_cases q1 : Y 51 (s + y) = 102
      · rw [if_pos q1, if_pos q1, if_pos q1]
      · rw [if_neg q1, if_neg q1, Option.bind_some, wr_id (x := Y 51 (s + y)) (by omega) (by omega), if_neg q1, if_neg q1]
    rw [dwS]
    by_cases q1 : Y 51 (s + y) = 102
    · rw [if_pos q1] at e0 ⊢
      rw [lp_succ (f := fun z : Int × Int × Int => f_X6_readDream_41 n z.1 z.2.1 z.2.2 Y) (s := (1, row, ((s + y : Nat) : Int))) e0]
      exact ih m (y + 1) _ (by omega) (by omega) (wr_bOr _ _)
    · rw [if_neg q1] at e0 ⊢
      by_cases q2 : Y 51 (s + y) = 108
      · rw [if_pos q2] at e0 ⊢
        rw [lp_succ (f := fun z : Int × Int × Int => f_X6_readDream_41 n z.1 z.2.1 z.2.2 Y) (s := (1, row, ((s + y : Nat) : Int))) e0]
        exact ih m (y + 1) _ (by omega) (by omega) hr
      · rw [if_neg q2] at e0 ⊢
        rw [lp_succ (f := fun z : Int × Int × Int => f_X6_readDream_41 n z.1 z.2.1 z.2.2 Y) (s := (1, row, ((s + y : Nat) : Int))) e0]
        obtain ⟨m, rfl⟩ : ∃ k, m = k + 1 := ⟨m - 1, by omega⟩
        exact rd41_0
