/-! text -/
theorem lp_steps {σ ρ : Type} {f : σ → Option (σ ⊕ ρ)} (S : Nat → σ) : ∀ (k m i : Nat), (∀ q, q < k → f (S (i + q)) = some (.inl (S (i + q + 1)))) → lp f (k + m) (S i) = lp f m (S (i + k)) := by
  intro k
  induction k with
  | zero => intro m i _; rw [Nat.zero_add]; rfl
  | succ k ih =>
    intro m i hs
    have h0 : f (S i) = some (.inl (S (i + 1))) := hs 0 (by omega)
    rw [show k + 1 + m = (k + m) + 1 by omega, lp_succ h0, ih m (i + 1) (fun q hq => by
      have := hs (q + 1) (by omega)
      rw [show i + (q + 1) = i + 1 + q by omega] at this
      exact this), show i + 1 + k = i + (k + 1) by omega]
/-- how the lines end -/
def Ed (len : Nat) (X Y X' Y' : Mem) : Prop := Kd X X' ∧ Ke Y Y' ∧ ((X' 1 2 = 0 ∧ Y' 46 12 = 0 ∧ DR X' Y') ∨ Br len (X' 1) (Y' 46))
theorem lines_b {n len : Nat} (hn : 1000 ≤ n) : ∀ (f m m' x : Nat) (X Y : Mem), f < m → f < m' → Gd len X Y → Bq (Y 51) len (X 1) (Y 46) → (X 1 2 = 0 → DR X Y ∧ On X Y ∧ (x : Int) ≤ X 1 8 ∧ (len : Int) < X 1 8 + f) → ∃ (x' : Nat) (X' Y' : Mem), lp (fun s => f_X5_text_13 n s.1 s.2) m ((x : Int), X) = f_X5_text_43 n (x' : Int) X' ∧ lp (fun s => f_X6_text_52 n s.1 s.2) m' ((x : Int), Y) = f_X6_text_76 n (x' : Int) Y' ∧ Ed len X Y X' Y' := by
  intro f
  induction f with
  | zero =>
    intro m m' x X Y hm hm' g h hd
    obtain ⟨m, rfl⟩ : ∃ k, m = k + 1 := ⟨m - 1, by omega⟩
    obtain ⟨m', rfl⟩ : ∃ k, m' = k + 1 := ⟨m' - 1, by omega⟩
    rcases h with ⟨b1, i, b2, b3, -⟩ | b
    · have := (hd b1).2.2.2; omega
    · refine ⟨x, X, Y, lp_map (f := fun s => f_X5_text_13 n s.1 s.2) (s := ((x : Int), X)) ?_, lp_map (f := fun s => f_X6_text_52 n s.1 s.2) (s := ((x : Int), Y)) ?_, Kd.refl _, Ke.refl _, Or.inr b⟩
      · show f_X5_text_13 n (x : Int) X = _
        unfold f_X5_text_13 f_X3_findsLine
        rw [takeB_z b, Option.bind_some, wr_id (x := X 1 2) (by have := b.1; omega) (by have := b.1; omega), if_neg (show ¬ X 1 2 = 0 by have := b.1; omega), Option.bind_some]
        dsimp only
        rw [if_pos wr_0]
        split <;> rfl
      · show f_X6_text_52 n (x : Int) Y = _
        unfold f_X6_text_52
        rw [wr_id (x := Y 46 12) (by have := b.1; have := b.2.1; omega) (by have := b.1; have := b.2.1; omega), if_neg (by have := b.1; have := b.2.1; omega)]
  | succ f ih =>
    intro m m' x X Y hm hm' g h hd
    obtain ⟨m, rfl⟩ : ∃ k, m = k + 1 := ⟨m - 1, by omega⟩
    obtain ⟨m', rfl⟩ : ∃ k, m' = k + 1 := ⟨m' - 1, by omega⟩
    have hl := g.1.1
    have h0 := h
    rcases h with ⟨b1, i, b2, b3, b4, b5⟩ | b
    · obtain ⟨d1, d2, d3, d4⟩ := hd b1
      by_cases q : x < 160
      · obtain ⟨X1, a1, a2, a3, a4⟩ := take_w hn g h0
        have g1 := Gd_k g a3.d (Ke.refl Y)
        have aq := a2
        rcases a2 with ⟨c1, c2, c3, c4, c5, c6⟩ | c
        · by_cases z : X1 1 6 = 3
          · refine ⟨x, X1, Y, lp_map (f := fun s => f_X5_text_13 n s.1 s.2) (s := ((x : Int), X)) ?_, lp_map (f := fun s => f_X6_text_52 n s.1 s.2) (s := ((x : Int), Y)) ?_, a3.d, Ke.refl _, Or.inl ⟨c1, c2, DR_k d1 (fun a h1 h2 => a3.1 a (by omega)) rfl rfl rfl rfl⟩⟩
            · show f_X5_text_13 n (x : Int) X = _
              unfold f_X5_text_13 f_X3_findsLine
              rw [wr_id (x := (x : Int)) (by omega) (by omega), if_neg (by omega), a1, Option.bind_some, c1, if_pos wr_0, z, if_pos wr_3, Option.bind_some]
              dsimp only
              rw [if_pos wr_0]
            · show f_X6_text_52 n (x : Int) Y = _
              unfold f_X6_text_52
              rw [c2, if_pos wr_0, c3, z, show rkS 3 = 0 from rfl, if_pos wr_0]
          · have d1' : DR X1 Y := DR_k d1 (fun a h1 h2 => a3.1 a (by omega)) rfl rfl rfl rfl
            have d2' : On X1 Y := ⟨d2.1, d2.2.1, by rw [a3.2.1 5 (by decide)]; exact d2.2.2⟩
            obtain ⟨X2, Y2, e1, e2, e3, e4, e5, e6, e7⟩ := line_b hn g1 aq c1 d1' d2'
            have s1 : f_X5_text_13 n (x : Int) X = some (.inl (((x + 1 : Nat) : Int), X2)) := by
              unfold f_X5_text_13 f_X3_findsLine
              rw [wr_id (x := (x : Int)) (by omega) (by omega), if_neg (by omega), a1, Option.bind_some, c1, if_pos wr_0, wr_id (x := X1 1 6) (by omega) (by omega), if_neg z, Option.bind_some]
              dsimp only
              rw [if_neg w1n0, e1, Option.bind_some]
              rfl
            have s2 : f_X6_text_52 n (x : Int) Y = some (.inl (((x + 1 : Nat) : Int), Y2)) := by
              unfold f_X6_text_52
              have : rkS (X1 1 6) = 1 ∨ rkS (X1 1 6) = 2 ∨ rkS (X1 1 6) = 3 := by
                have : X1 1 6 = 0 ∨ X1 1 6 = 1 ∨ X1 1 6 = 2 := by omega
                rcases this with e | e | e <;> rw [e] <;> decide
              rw [c2, if_pos wr_0, c3, wr_id (x := rkS (X1 1 6)) (by omega) (by omega), if_neg (by omega), e2, Option.bind_some]
              rfl
            obtain ⟨x', X', Y', f1, f2, f3, f4, f5⟩ := ih m m' (x + 1) X2 Y2 (by omega) (by omega) (Gd_k g1 e5 e6) e3 (fun z2 => by
              obtain ⟨p1, p2⟩ := e4 z2
              have p3 := (e7 z2).2
              have p4 := a4 c1 z
              exact ⟨p1, p2, by omega, by omega⟩)
            refine ⟨x', X', Y', ?_, ?_, a3.d.trans (e5.trans f3), e6.trans f4, f5⟩
            · rw [lp_succ (f := fun s => f_X5_text_13 n s.1 s.2) (s := ((x : Int), X)) s1]; exact f1
            · rw [lp_succ (f := fun s => f_X6_text_52 n s.1 s.2) (s := ((x : Int), Y)) s2]; exact f2
        · refine ⟨x, X1, Y, lp_map (f := fun s => f_X5_text_13 n s.1 s.2) (s := ((x : Int), X)) ?_, lp_map (f := fun s => f_X6_text_52 n s.1 s.2) (s := ((x : Int), Y)) ?_, a3.d, Ke.refl _, Or.inr c⟩
          · show f_X5_text_13 n (x : Int) X = _
            unfold f_X5_text_13 f_X3_findsLine
            rw [wr_id (x := (x : Int)) (by omega) (by omega), if_neg (by omega), a1, Option.bind_some, wr_id (x := X1 1 2) (by have := c.1; omega) (by have := c.1; omega), if_neg (by have := c.1; omega), Option.bind_some]
            dsimp only
            rw [if_pos wr_0]
          · show f_X6_text_52 n (x : Int) Y = _
            unfold f_X6_text_52
            rw [wr_id (x := Y 46 12) (by have := c.1; have := c.2.1; omega) (by have := c.1; have := c.2.1; omega), if_neg (by have := c.1; have := c.2.1; omega)]
      · have il : i = len := by omega
        subst il
        have et : tSt (Y 51) i i = i := by unfold tSt; rw [Nat.sub_self]; rfl
        have ek : tKd (Y 51) i i = 3 := by unfold tKd; rw [if_neg (by omega)]
        rw [et] at b5
        have nb : ¬ tBd (Y 51) i i = true := by unfold tBd; rw [ek]; simp
        obtain ⟨c2, c3, -⟩ := b5 nb
        rw [ek] at c3
        refine ⟨x, X, Y, lp_map (f := fun s => f_X5_text_13 n s.1 s.2) (s := ((x : Int), X)) ?_, lp_map (f := fun s => f_X6_text_52 n s.1 s.2) (s := ((x : Int), Y)) ?_, Kd.refl _, Ke.refl _, Or.inl ⟨b1, c2, d1⟩⟩
        · show f_X5_text_13 n (x : Int) X = _
          unfold f_X5_text_13
          rw [wr_id (x := (x : Int)) (by omega) (by omega), if_pos (by omega)]
        · show f_X6_text_52 n (x : Int) Y = _
          unfold f_X6_text_52
          rw [c2, if_pos wr_0, c3, show rkS 3 = 0 from rfl, if_pos wr_0]
    · refine ⟨x, X, Y, lp_map (f := fun s => f_X5_text_13 n s.1 s.2) (s := ((x : Int), X)) ?_, lp_map (f := fun s => f_X6_text_52 n s.1 s.2) (s := ((x : Int), Y)) ?_, Kd.refl _, Ke.refl _, Or.inr b⟩
      · show f_X5_text_13 n (x : Int) X = _
        unfold f_X5_text_13 f_X3_findsLine
        rw [takeB_z b, Option.bind_some, wr_id (x := X 1 2) (by have := b.1; omega) (by have := b.1; omega), if_neg (show ¬ X 1 2 = 0 by have := b.1; omega), Option.bind_some]
        dsimp only
        rw [if_pos wr_0]
        split <;> rfl
      · show f_X6_text_52 n (x : Int) Y = _
        unfold f_X6_text_52
        rw [wr_id (x := Y 46 12) (by have := b.1; have := b.2.1; omega) (by have := b.1; have := b.2.1; omega), if_neg (by have := b.1; have := b.2.1; omega)]
/-- the beginning, the object -/
theorem begin_c (M : Mem) : ∃ X, f_X3_begin 8 M = some X ∧ (∀ a, a ≠ 1 → a ≠ 8 → X a = M a) ∧ (∀ j, j < 2 ∨ 9 < j → X 1 j = M 1 j) ∧ X 1 2 = 0 ∧ X 1 4 = 8 ∧ X 1 5 = 0 ∧ X 1 8 = 0 ∧ X 8 4 = 0 ∧ X 8 5 = 0 ∧ X 8 6 = 0 ∧ X 8 7 = 0 ∧ X 8 8 = 40 ∧ X 8 9 = 0 ∧ X 8 10 = 0 ∧ X 8 11 = 1 ∧ X 8 12 = 1 ∧ X 8 13 = 0 ∧ X 8 14 = 0 ∧ X 8 15 = 0 ∧ X 8 16 = 0 ∧ X 8 17 = 0 ∧ X 8 18 = 0 := by
  unfold f_X3_begin f_X2_begin f_X2_appoint
  rw [Option.bind_some, st_same, show ckX2 ((8 : Nat) : Int) = some 8 from rfl]
  simp only [Option.bind_some]
  refine ⟨_, rfl, ?_, ?_, ?_⟩
  · intro a h1 h8
    funext i
    simp only [st_at]
    simp [h1, h8]
  · intro j hj
    simp only [st_at]
    have a2 : j ≠ 2 := by omega
    have a3 : j ≠ 3 := by omega
    have a4 : j ≠ 4 := by omega
    have a5 : j ≠ 5 := by omega
    have a8 : j ≠ 8 := by omega
    simp [a2, a3, a4, a5, a8]
  · simp [st_at]
theorem clear_r {n : Nat} {Y : Mem} (hn : 1000 ≤ n) : lp (fun s => f_X6_text_29 n 0 s.1 s.2) n ((0 : Int), Y) = f_X6_text_48 n 0 (sr Y 49 (fun i => if i < 25 then 0 else Y 49 i)) := by
  obtain ⟨m, rfl⟩ : ∃ m, n = 25 + (m + 1) := ⟨n - 26, by omega⟩
  have h := lp_steps (f := fun s => f_X6_text_29 (25 + (m + 1)) 0 s.1 s.2) (fun k : Nat => ((k : Int), sr Y 49 (fun i => if i < k then 0 else Y 49 i))) 25 (m + 1) 0 (fun q hq => by
    show f_X6_text_29 (25 + (m + 1)) 0 ((0 + q : Nat) : Int) (sr Y 49 (fun i => if i < 0 + q then 0 else Y 49 i)) = _
    rw [Nat.zero_add]
    unfold f_X6_text_29
    rw [wr_id (by omega) (by omega), if_neg (by omega), wt_id (by omega) (by omega) (by omega), Option.bind_some, Int.toNat_natCast, st_rs]
    congr 4
    funext i
    unfold rs
    by_cases e : i = q
    · rw [if_pos e, if_pos (by omega)]
    · rw [if_neg e]
      show (if i < q then (0 : Int) else Y 49 i) = _
      by_cases e2 : i < q
      · rw [if_pos e2, if_pos (by omega)]
      · rw [if_neg e2, if_neg (by omega)])
  have e0 : sr Y 49 (fun i => if i < 0 then 0 else Y 49 i) = Y := by
    have : (fun i : Nat => if i < 0 then (0 : Int) else Y 49 i) = Y 49 := by funext i; rw [if_neg (by omega)]
    rw [this, sr_self]
  rw [e0] at h
  refine h.trans ?_
  refine lp_map (f := fun s => f_X6_text_29 (25 + (m + 1)) 0 s.1 s.2) (s := (((0 + 25 : Nat) : Int), sr Y 49 (fun i => if i < 0 + 25 then 0 else Y 49 i))) ?_
  show f_X6_text_29 (25 + (m + 1)) 0 ((0 + 25 : Nat) : Int) _ = _
  unfold f_X6_text_29
  rw [if_pos (by decide)]
def cpR (Y : Mem) (k : Nat) : Mem := sr (sr Y 47 (fun i => if i < k then Y 49 i else Y 47 i)) 48 (fun i => if i < 4 ∧ i < k then Y 50 i else Y 48 i)
theorem copyT_r {n : Nat} {Y : Mem} {x : Int} (hn : 1000 ≤ n) : lp (fun s => f_X6_text_106 n x s.1 s.2) n ((0 : Int), Y) = f_X6_text_146 n x (cpR Y 25) := by
  obtain ⟨m, rfl⟩ : ∃ m, n = 25 + (m + 1) := ⟨n - 26, by omega⟩
  have h := lp_steps (f := fun s => f_X6_text_106 (25 + (m + 1)) x s.1 s.2) (fun k : Nat => ((k : Int), cpR Y k)) 25 (m + 1) 0 (fun q hq => by
    show f_X6_text_106 (25 + (m + 1)) x ((0 + q : Nat) : Int) (cpR Y (0 + q)) = _
    rw [Nat.zero_add]
    have em : (wr (q : Int)).tmod (wr 4) = ((q % 4 : Nat) : Int) := by
      rw [wr_id (by omega) (by omega), wr_4, Int.tmod_eq_emod_of_nonneg (by omega)]; rfl
    have e49 : cpR Y q 49 = Y 49 := by unfold cpR; rw [sr_ne _ _ (by decide), sr_ne _ _ (by decide)]
    have e50 : cpR Y q 50 = Y 50 := by unfold cpR; rw [sr_ne _ _ (by decide), sr_ne _ _ (by decide)]
    unfold f_X6_text_106
    rw [em, wr_id (by omega) (by omega), if_neg (by omega), rd_id (by omega) (by omega) (by omega), Option.bind_some, Int.toNat_natCast, e49, wt_id (by omega) (by omega) (by omega), Option.bind_some, Int.toNat_natCast, rd_id (by omega) (by omega) (by omega), Option.bind_some, Int.toNat_natCast, st_ne _ _ _ (by decide), e50, wt_id (by omega) (by omega) (by omega), Option.bind_some, Int.toNat_natCast]
    have ef : st (st (cpR Y q) 47 q (Y 49 q)) 48 (q % 4) (Y 50 (q % 4)) = cpR Y (q + 1) := by
      funext a i
      rw [st_at, st_at]
      unfold cpR sr
      by_cases a8 : a = 48
      · subst a8
        simp only [true_and, if_true]
        by_cases e : i = q % 4
        · rw [if_pos e, if_pos (by omega), e]
        · rw [if_neg e, if_neg (by omega)]
          by_cases e2 : i < 4 ∧ i < q
          · rw [if_pos e2, if_pos (by omega)]
          · rw [if_neg e2, if_neg (by omega)]
      · rw [if_neg (fun z => a8 z.1), if_neg a8, if_neg a8]
        by_cases a7 : a = 47
        · subst a7
          rw [if_pos rfl, if_pos rfl]
          by_cases e : i = q
          · rw [if_pos ⟨rfl, e⟩, if_pos (by omega), e]
          · rw [if_neg (fun z => e z.2)]
            by_cases e2 : i < q
            · rw [if_pos e2, if_pos (by omega)]
            · rw [if_neg e2, if_neg (by omega)]
        · rw [if_neg (fun z => a7 z.1), if_neg a7, if_neg a7]
    rw [ef]
    rfl)
  have e0 : cpR Y 0 = Y := by
    unfold cpR
    have e1 : (fun i : Nat => if i < 0 then Y 49 i else Y 47 i) = Y 47 := by funext i; rw [if_neg (by omega)]
    have e2 : (fun i : Nat => if i < 4 ∧ i < 0 then Y 50 i else Y 48 i) = Y 48 := by funext i; rw [if_neg (by omega)]
    rw [e1, e2, sr_self, sr_self]
  rw [e0] at h
  refine h.trans ?_
  refine lp_map (f := fun s => f_X6_text_106 (25 + (m + 1)) x s.1 s.2) (s := (((0 + 25 : Nat) : Int), cpR Y (0 + 25))) ?_
  show f_X6_text_106 (25 + (m + 1)) x ((0 + 25 : Nat) : Int) _ = _
  unfold f_X6_text_106
  rw [if_pos (by decide)]
