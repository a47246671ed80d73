theorem row_z {n len : Nat} {X Y : Mem} (hn : 1000 ≤ n) (g : Gd len X Y) (h : Zw len X Y) : ∃ X', f_X3_takeRow n X = some (0, X') ∧ Br len (X' 1) (Y 46) ∧ Kp X X' := by
  obtain ⟨X', a1, a2, a3⟩ := take_z hn g h
  refine ⟨X', ?_, a2, a3⟩
  unfold f_X3_takeRow
  rw [a1, Option.bind_some, wr_id (x := X' 1 2) (by have := a2.1; omega) (by have := a2.1; omega), if_neg (by have := a2.1; omega)]
/-- behind a row that failed -/
theorem dream_f {n len : Nat} {X X1 Y : Mem} {v : Int} (hn : 1000 ≤ n) (g : Gd len X1 Y) (e : f_X3_takeRow n X = some (v, X1)) (h : Br len (X1 1) (Y 46)) : ∃ X', f_X3_takeDream_16 n X = some X' ∧ Br len (X' 1) (Y 46) ∧ Kd X1 X' := by
  obtain ⟨X3, c1, c2, c3⟩ := within_z 1 9 hn g (Br_z h)
  refine ⟨X3, ?_, c2, c3.d⟩
  have : ¬ wr (X3 1 2) = 0 := by rw [wr_id (by have := c2.1; omega) (by have := c2.1; omega)]; have := c2.1; omega
  unfold f_X3_takeDream_16
  simp only [e, c1, Option.bind_some, if_neg this]
theorem dream_z {n len : Nat} {X Y : Mem} (hn : 1000 ≤ n) (g : Gd len X Y) (h : Zw len X Y) : ∃ X', f_X3_takeDream_16 n X = some X' ∧ Br len (X' 1) (Y 46) ∧ Kd X X' := by
  obtain ⟨X1, a1, a2, a3⟩ := row_z hn g h
  obtain ⟨X', b1, b2, b3⟩ := dream_f hn (Gd_k g a3.d (Ke.refl _)) a1 a2
  exact ⟨X', b1, b2, a3.d.trans b3⟩
theorem DR_dream {X Y X' Y' : Mem} {l : Nat} {v w : Int} (d : DR X Y) (hl : X 8 5 = (l : Int)) (hl4 : l < 4) (hw : 1 ≤ w ∧ w ≤ 9) (e8 : X' 8 = rs (X 8) 5 ((l + 1 : Nat) : Int)) (e11 : X' 11 = rs (X 11) l v) (e12 : X' 12 = rs (X 12) l w) (e9 : X' 9 = X 9) (e10 : X' 10 = X 10) (e49 : Y' 49 = rs (Y 49) (8 + l) w) (e50 : Y' 50 = rs (Y 50) l v) (e7 : Y' 46 7 = ((l + 1 : Nat) : Int)) (e6 : Y' 46 6 = Y 46 6) : DR X' Y' := by
  obtain ⟨d1, d2, d3, d4, d5, d6, d7, d8, d9, d10⟩ := d
  have f5 : X' 8 5 = ((l + 1 : Nat) : Int) := by rw [e8, rs_s]
  have fk : ∀ k, k ≠ 5 → X' 8 k = X 8 k := fun k hk => by rw [e8, rs_n hk]
  refine ⟨by rw [fk 4 (by decide)]; exact d1, by rw [f5]; omega, by rw [e6, fk 4 (by decide)]; exact d3, by rw [e7, f5], OkS_rw (fun k h1 h2 => (fk k (by omega)).symm) d5, by rw [fk 10 (by decide), fk 8 (by decide)]; exact d6, by rw [fk 16 (by decide)]; exact d7, fun k h1 h2 => ?_, fun i hi => ?_, fun r hr => ?_⟩
  · rw [fk k (by omega), ← d8 k h1 h2]
    have ee : ∀ j, 12 ≤ j → Y' 49 j = Y 49 j := fun j hj => by rw [e49, rs_n (by omega)]
    unfold vw
    rw [ee (0 + 14) (by decide), ee (0 + 18) (by decide), ee (0 + 17) (by decide), ee (0 + k + 6) (by omega)]
  · rw [fk 4 (by decide)] at hi
    rw [e9, e10, e49, rs_n (by omega), rs_n (by omega)]
    exact d9 i hi
  · rw [f5] at hr
    rw [e11, e12, e50, e49]
    by_cases q : r = l
    · subst q
      rw [rs_s, rs_s, rs_s, rs_s]
      exact ⟨hw, rfl, rfl⟩
    · rw [rs_n q, rs_n q, rs_n q, rs_n (by omega)]
      exact d10 r (by omega)
theorem dream_b {n len : Nat} {X Y : Mem} (hn : 1000 ≤ n) (g : Gd len X Y) (h : Bq (Y 51) len (X 1) (Y 46)) (h12 : Y 46 12 = 0) (d : DR X Y) (hl : X 8 5 < 4) : ∃ X' Y', f_X3_takeDream_16 n X = some X' ∧ f_X6_readDream n Y = some Y' ∧ Lw len X Y X' Y' := by
  obtain ⟨l, el⟩ : ∃ l : Nat, X 8 5 = (l : Int) := ⟨(X 8 5).toNat, by have := d.2.1; omega⟩
  have l4 : l < 4 := by omega
  have y7 : Y 46 7 = (l : Int) := by rw [d.2.2.2.1, el]
  obtain ⟨X1, a1, a2, a3, -⟩ := take_w hn g h
  have g1 := Gd_k g a3.d (Ke.refl Y)
  have aq := a2
  have hl0 := g.1.1
  rcases a2 with ⟨b1, b2, b3, b4, ⟨s, e, c1, c2, c3, c4, c5, c6⟩, b6⟩ | b
  · -- a failure x on both sides
    have bad : ∀ x, 1 ≤ x ∧ x ≤ 5 → (∀ X2, f_X3_fail x X1 = some X2 → f_X3_takeRow n X = some (0, X2)) → (∀ Y2, f_X6_fails x Y = some Y2 → f_X6_readDream n Y = some Y2) → ∃ X' Y', f_X3_takeDream_16 n X = some X' ∧ f_X6_readDream n Y = some Y' ∧ Lw len X Y X' Y' := fun x hx p1 p2 => by
      obtain ⟨X2, Y2, d1, d2, d3, d4, d5⟩ := fail_w x hx aq
      obtain ⟨X', e1, e2, e3⟩ := dream_f hn (Gd_k g (a3.trans d4).d d5.e) (p1 X2 d1) d3
      exact ⟨X', Y2, e1, p2 Y2 d2, Lw_br e2 ((a3.trans d4).d.trans e3) d5.e⟩
    by_cases q6 : X1 1 6 = 0
    · have q16 : Y 46 16 = 1 := by rw [b3, q6]; rfl
      by_cases q8 : e - s ≤ 8
      · have L1 := row_lp (n := n) (X := X1) g1.1 c1 c2 c6 (e - s) n 0 0 (by omega) (by omega)
        have L2 := row_lr (n := n) (Y := Y) g.2.1 g.2.2.2.2.2.1 c3 c4 c6 (e - s) n 0 0 (by omega) (by omega) wr_0
        rw [dwS_cong g1.2.2.1 (e - s) 0 0 (by omega)] at L1
        have R1 : f_X3_takeRow n X = lp (fun z => f_X3_takeRow_52 n z.1 z.2 X1) n (0, 0) := by
          unfold f_X3_takeRow
          rw [a1, Option.bind_some, b1, if_pos wr_0, q6, if_pos wr_0, c1, c2, wr_id (by omega) (by omega), if_pos (by omega)]
        have R2 : f_X6_readDream n Y = lp (fun z : Int × Int × Int => f_X6_readDream_41 n z.1 z.2.1 z.2.2 Y) n (1, 0, ((s + 0 : Nat) : Int)) := by
          unfold f_X6_readDream f_X6_readDream_33
          rw [q16, if_pos wr_1, c3, c4, wr_id (by omega) (by omega), if_neg (by omega)]
          rfl
        cases hd : dwS (Y 51) s (e - s) 0 0 with
        | none =>
          rw [hd] at L1 L2
          refine bad 3 (by decide) (fun X2 z => ?_) (fun Y2 z => ?_)
          · rw [R1]
            refine L1.trans ?_
            show f_X3_takeRow_98 n X1 = _
            unfold f_X3_takeRow_98
            rw [z, Option.bind_some]
          · rw [R2]; exact L2.trans z
        | some v =>
          rw [hd] at L1 L2
          have R1' : f_X3_takeRow n X = some (v, X1) := by rw [R1]; exact L1
          have ke1 : Ke Y (st Y 50 l v) := Ke_st (by decide)
          have aq1 : Aq len (X1 1) (st Y 50 l v 46) := by rw [st_ne _ _ _ (by decide)]; exact aq
          obtain ⟨Y2, s1, s2, s3⟩ := step_w hn (Gd_k g a3.d ke1) aq1
          have ke2 := ke1.trans s3.e
          obtain ⟨v', w', X3, Y3, n1, n2, n3, n4, n5, n6⟩ := num_w 1 9 (rgl 1) (rgl 9) hn (Gd_k g a3.d ke2) s2
          have kp := a3.trans n5
          have y27 : Y2 46 7 = (l : Int) := by rw [s3.2 7 (by decide), st_ne _ _ _ (by decide), y7]
          have y37 : st Y3 49 (8 + l) w' 46 7 = (l : Int) := by rw [st_ne _ _ _ (by decide), n6.2 7 (by decide), y27]
          have R2' : f_X6_readDream n Y = some (st (st Y3 49 (8 + l) w') 46 7 ((l + 1 : Nat) : Int)) := by
            rw [R2]
            refine L2.trans ?_
            show f_X6_readDream_110 n 1 v Y = _
            unfold f_X6_readDream_110
            rw [if_neg w1n0, y7, wt_id (by omega) (by omega) (by omega), Option.bind_some, Int.toNat_natCast, s1, Option.bind_some, n2, Option.bind_some]
            dsimp only
            rw [y27, wt_id (by omega) (by omega) (by omega), Option.bind_some, show ((8 : Int) + (l : Int)).toNat = 8 + l by omega, Option.bind_some, y37]
            rfl
          have ke4 : Ke Y (st (st Y3 49 (8 + l) w') 46 7 ((l + 1 : Nat) : Int)) := ke2.trans (n6.e.trans ((Ke_st (by decide)).trans (Ke_46 (by decide))))
          have bq : ∀ X' : Mem, X' 1 = X3 1 → Bq ((st (st Y3 49 (8 + l) w') 46 7 ((l + 1 : Nat) : Int)) 51) len (X' 1) ((st (st Y3 49 (8 + l) w') 46 7 ((l + 1 : Nat) : Int)) 46) := fun X' e => by
            rw [e, st_ne (b := 51) _ _ _ (by decide), st_ne (b := 51) _ _ _ (by decide)]
            exact Bq_q n3 (fun _ _ => rfl) (fun j h1 h2 => by rw [st_nk _ _ _ (by omega), st_ne _ _ _ (by decide)])
          have y8 : st (st Y3 49 (8 + l) w') 46 7 ((l + 1 : Nat) : Int) 46 8 = Y 46 8 := by
            rw [st_nk _ _ _ (by decide), st_ne _ _ _ (by decide), n6.2 8 (by decide), s3.2 8 (by decide), st_ne _ _ _ (by decide)]
          have r2 := Bq_2 n3
          by_cases z : X3 1 2 = 0
          · obtain ⟨z1, z2, z3, -⟩ := n4 z
            have e3 : X3 8 5 = (l : Int) := by rw [kp.1 8 (by decide), el]
            have hx : ∀ X', X' = st (st (st X3 11 l v) 12 l v') 8 5 ((l + 1 : Nat) : Int) → X' 1 = X3 1 := fun X' e => by rw [e, st_ne _ _ _ (by decide), st_ne _ _ _ (by decide), st_ne _ _ _ (by decide)]
            refine ⟨_, _, ?_, R2', bq (st (st (st X3 11 l v) 12 l v') 8 5 ((l + 1 : Nat) : Int)) (hx _ rfl), fun _ => ⟨?_, ?_, y8⟩, ?_, ke4, ?_⟩
            · unfold f_X3_takeDream_16 f_X2_addReading
              have c8 : ckX2 (X3 1 4) = some 8 := ck8 (by rw [kp.2.1 4 (by decide)]; exact g.2.2.2.2.1)
              simp only [R1', n1, Option.bind_some, z, wr_0, if_true, c8]
              rw [e3, wr_id (x := (l : Int)) (by omega) (by omega), if_neg (by omega), wt_id (by omega) (by omega) (by omega), Option.bind_some, Int.toNat_natCast, st_ne _ _ _ (by decide), e3, wt_id (by omega) (by omega) (by omega), Option.bind_some, Option.bind_some, Int.toNat_natCast, st_ne _ _ _ (by decide), st_ne _ _ _ (by decide), e3]
              rfl
            · refine DR_dream (v := v) d el l4 ⟨z2, z3⟩ ?_ ?_ ?_ ?_ ?_ ?_ ?_ ?_ ?_
              · rw [st_row, st_ne _ _ _ (by decide), st_ne _ _ _ (by decide), kp.1 8 (by decide)]
              · rw [st_ne _ _ _ (by decide), st_ne _ _ _ (by decide), st_row, kp.1 11 (by decide)]
              · rw [st_ne _ _ _ (by decide), st_row, st_ne _ _ _ (by decide), kp.1 12 (by decide)]
              · rw [st_ne _ _ _ (by decide), st_ne _ _ _ (by decide), st_ne _ _ _ (by decide), kp.1 9 (by decide)]
              · rw [st_ne _ _ _ (by decide), st_ne _ _ _ (by decide), st_ne _ _ _ (by decide), kp.1 10 (by decide)]
              · rw [st_ne _ _ _ (by decide), st_row, n6.1 49 (by decide), s3.1 49 (by decide), st_ne _ _ _ (by decide), z1]
              · rw [st_ne _ _ _ (by decide), st_ne _ _ _ (by decide), n6.1 50 (by decide), s3.1 50 (by decide), st_row]
              · rw [st_same]
              · rw [st_nk _ _ _ (by decide), st_ne _ _ _ (by decide), n6.2 6 (by decide), s3.2 6 (by decide), st_ne _ _ _ (by decide)]
            · rw [hx _ rfl, kp.2.1 5 (by decide)]
            · exact kp.d.trans ((Kd_st (by decide)).trans ((Kd_st (by decide)).trans (Kd_st (by decide))))
            · exact Mo.trans kp.m (Mo.trans (Mo_st (a := 11) (k := l) (v := v) (by decide)) (Mo.trans (Mo_st (a := 12) (k := l) (v := v') (by decide)) (Mo_st (by decide))))
          · refine ⟨X3, _, ?_, R2', bq X3 rfl, fun q => absurd q z, kp.d, ke4, kp.m⟩
            have : ¬ wr (X3 1 2) = 0 := by rw [wr_id (by omega) (by omega)]; exact z
            unfold f_X3_takeDream_16
            simp only [R1', n1, Option.bind_some, if_neg this]
      · refine bad 3 (by decide) (fun X2 z => ?_) (fun Y2 z => ?_)
        · unfold f_X3_takeRow
          rw [a1, Option.bind_some, b1, if_pos wr_0, q6, if_pos wr_0, c1, c2, wr_id (by omega) (by omega), if_neg (by omega), z, Option.bind_some]
        · unfold f_X6_readDream f_X6_readDream_33
          rw [q16, if_pos wr_1, c3, c4, wr_id (by omega) (by omega), if_pos (by omega)]
          obtain ⟨m, rfl⟩ : ∃ k, n = k + 1 := ⟨n - 1, by omega⟩
          exact rd41_0.trans z
    · have q16 : Y 46 16 = 0 ∨ Y 46 16 = 2 ∨ Y 46 16 = 3 := by
        rw [b3]
        have : X1 1 6 = 1 ∨ X1 1 6 = 2 ∨ X1 1 6 = 3 := by omega
        rcases this with e | e | e <;> rw [e] <;> decide
      refine bad 2 (by decide) (fun X2 z => ?_) (fun Y2 z => ?_)
      · unfold f_X3_takeRow
        rw [a1, Option.bind_some, b1, if_pos wr_0, wr_id (x := X1 1 6) (by omega) (by omega), if_neg q6, z, Option.bind_some]
      · unfold f_X6_readDream
        rw [wr_id (x := Y 46 16) (by omega) (by omega), if_neg (by omega), z, Option.bind_some]
  · have := b.1; have := b.2.1; omega
