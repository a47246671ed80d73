/-! call by call: the object and the reference answer the same, and the invariant holds again -/
theorem sc_of {M : Mem} (h : Rel M) : M 3 10 ≤ M 3 8 := h.1.2.2.2.2.2.1.2.1
theorem op_need {M : Mem} {x : Int} (hx : rg x) (h : Rel M) : ∃ r M1 M2, f_X5_need x M = some (r, M1) ∧ f_X6_need x M1 = some (r, M2) ∧ Rel M2 := by
  obtain ⟨c1, c2, c3, c4, ok, okb, rw0, rb⟩ := Rel_c h
  have sc := sc_of h
  unfold f_X5_need f_X6_need
  rw [within_c hx (rgl 0) (rgl 40), Option.bind_some, ifbi]
  by_cases g : 0 ≤ x ∧ x ≤ 40
  · rw [if_pos g]
    refine ⟨M 3 6, st M 3 6 x, st (st M 3 6 x) 47 12 x, rfl, ?_, ?_⟩
    · rw [wr_rg hx, in_r hx (rgl 0) (rgl 40), Option.bind_some, if_pos g, sets_r (Or.inr rfl) (x := 12) (p := 12) rfl (by decide), if_neg (by decide), st_ne _ _ _ (show (47 : Nat) ≠ 3 by decide), ← rw0 6 (by decide) (by decide), vw_6]
      rfl
    · exact Rel_set h 6 (by decide) x (OkS_upd ok 6 x (by omega)) (by simp; omega) (by decide)
  · rw [if_neg g]
    refine ⟨-1, M, M, rfl, ?_, h⟩
    rw [wr_rg hx, in_r hx (rgl 0) (rgl 40), Option.bind_some, if_neg g, sets_r (Or.inl rfl) (x := 12) (p := 12) rfl (by decide), if_pos rfl]
    rfl
theorem op_hunger {M : Mem} {x : Int} (hx : rg x) (h : Rel M) : ∃ r M1 M2, f_X5_hunger x M = some (r, M1) ∧ f_X6_hunger x M1 = some (r, M2) ∧ Rel M2 := by
  obtain ⟨c1, c2, c3, c4, ok, okb, rw0, rb⟩ := Rel_c h
  have sc := sc_of h
  unfold f_X5_hunger f_X6_hunger
  rw [within_c hx (rgl 0) (rgl 20), Option.bind_some, ifbi]
  by_cases g : 0 ≤ x ∧ x ≤ 20
  · rw [if_pos g]
    refine ⟨M 3 7, st M 3 7 x, st (st M 3 7 x) 47 13 x, rfl, ?_, ?_⟩
    · rw [wr_rg hx, in_r hx (rgl 0) (rgl 20), Option.bind_some, if_pos g, sets_r (Or.inr rfl) (x := 13) (p := 13) rfl (by decide), if_neg (by decide), st_ne _ _ _ (show (47 : Nat) ≠ 3 by decide), ← rw0 7 (by decide) (by decide), vw_7]
      rfl
    · exact Rel_set h 7 (by decide) x (OkS_upd ok 7 x (by omega)) (by simp; omega) (by decide)
  · rw [if_neg g]
    refine ⟨-1, M, M, rfl, ?_, h⟩
    rw [wr_rg hx, in_r hx (rgl 0) (rgl 20), Option.bind_some, if_neg g, sets_r (Or.inl rfl) (x := 13) (p := 13) rfl (by decide), if_pos rfl]
    rfl
theorem op_cap {M : Mem} {x : Int} (hx : rg x) (h : Rel M) : ∃ r M1 M2, f_X5_cap x M = some (r, M1) ∧ f_X6_cap x M1 = some (r, M2) ∧ Rel M2 := by
  obtain ⟨c1, c2, c3, c4, ok, okb, rw0, rb⟩ := Rel_c h
  have sc := sc_of h
  have h10 : 0 ≤ M 3 10 ∧ M 3 10 ≤ 40 := by unfold OkS at ok; omega
  have e16 : M 47 16 = M 3 10 := by rw [← rw0 10 (by decide) (by decide), vw_10]
  unfold f_X5_cap f_X6_cap
  rw [within_c hx (rgl 0) (rgl 40), Option.bind_some, ifbi, wr_id (x := M 3 10) (by omega) (by omega), wr_rg hx]
  by_cases g : 0 ≤ x ∧ x ≤ 40
  · rw [if_pos g]
    by_cases q : M 3 10 ≤ x
    · rw [if_pos q]
      refine ⟨M 3 8, st M 3 8 x, st (st M 3 8 x) 47 14 (40 - x), rfl, ?_, ?_⟩
      · rw [in_r hx (rgl 0) (rgl 40), Option.bind_some, if_pos g, if_neg w1n0, st_ne _ _ _ (show (47 : Nat) ≠ 3 by decide), e16, wr_id (by omega) (by omega), if_pos q, sets_r (Or.inr rfl) (x := 14) (p := 14) rfl (by decide), if_neg (by decide), st_ne _ _ _ (show (47 : Nat) ≠ 3 by decide), Option.bind_some, ← rw0 8 (by decide) (by decide), vw_8]
      · exact Rel_set h 8 (by decide) x (OkS_upd ok 8 x (by omega)) (by simp; omega) (by decide)
    · rw [if_neg q]
      refine ⟨-2, M, M, rfl, ?_, h⟩
      rw [in_r hx (rgl 0) (rgl 40), Option.bind_some, if_pos g, if_neg w1n0, e16, wr_id (by omega) (by omega), if_neg q]
  · rw [if_neg g]
    refine ⟨-1, M, M, rfl, ?_, h⟩
    rw [in_r hx (rgl 0) (rgl 40), Option.bind_some, if_neg g, if_pos wr_0]
theorem op_rot {M : Mem} {x : Int} (hx : rg x) (h : Rel M) : ∃ r M1 M2, f_X5_rot x M = some (r, M1) ∧ f_X6_rot x M1 = some (r, M2) ∧ Rel M2 := by
  obtain ⟨c1, c2, c3, c4, ok, okb, rw0, rb⟩ := Rel_c h
  have sc := sc_of h
  unfold f_X5_rot f_X6_rot f_X6_rot_22 f_X6_rot_23
  rw [isRot_c hx, Option.bind_some, ifbi, wr_rg hx]
  by_cases g : x ≠ 1 ∧ 0 ≤ x ∧ x ≤ 9
  · rw [if_pos g]
    refine ⟨M 3 9, st M 3 9 x, st (st M 3 9 x) 47 15 x, rfl, ?_, ?_⟩
    · rw [in_r hx (rgl 0) (rgl 9), Option.bind_some, if_pos g.2, if_neg w1n0, if_neg g.1, sets_r (Or.inr rfl) (x := 15) (p := 15) rfl (by decide), if_neg (by decide), st_ne _ _ _ (show (47 : Nat) ≠ 3 by decide), ← rw0 9 (by decide) (by decide), vw_9]
      rfl
    · exact Rel_set h 9 (by decide) x (OkS_upd ok 9 x (by omega)) (by simp; omega) (by decide)
  · rw [if_neg g]
    refine ⟨-1, M, M, rfl, ?_, h⟩
    rw [in_r hx (rgl 0) (rgl 9), Option.bind_some, ifbi, sets_r (Or.inl rfl) (x := 15) (p := 15) rfl (by decide), if_pos rfl]
    by_cases q : 0 ≤ x ∧ x ≤ 9
    · rw [if_pos q, if_pos (by omega)]; rfl
    · rw [if_neg q]; rfl
theorem op_fill {M : Mem} {x : Int} (hx : rg x) (h : Rel M) : ∃ r M1 M2, f_X5_fill x M = some (r, M1) ∧ f_X6_fill x M1 = some (r, M2) ∧ Rel M2 := by
  obtain ⟨c1, c2, c3, c4, ok, okb, rw0, rb⟩ := Rel_c h
  have h8 : 0 ≤ M 3 8 ∧ M 3 8 ≤ 40 := by unfold OkS at ok; omega
  unfold f_X5_fill f_X6_fill
  rw [within_c hx (rgl 0) (rgl (M 3 8)), Option.bind_some, ifbi, wr_rg hx]
  by_cases g : 0 ≤ x ∧ x ≤ M 3 8
  · rw [if_pos g]
    refine ⟨M 3 10, st M 3 10 x, st (st M 3 10 x) 47 16 x, rfl, ?_, ?_⟩
    · rw [show (0 : Int) = ((0 : Nat) : Int) from rfl, capOn_r (by decide), Option.bind_some, st_ne _ _ _ (show (47 : Nat) ≠ 3 by decide), rw0 8 (by decide) (by decide), wr_id (by omega) (by omega), in_r hx (rgl _) (rgl _), Option.bind_some, if_pos (by omega), sets_r (Or.inr rfl) (x := 16) (p := 16) rfl (by decide), if_neg (by decide), st_ne _ _ _ (show (47 : Nat) ≠ 3 by decide), ← rw0 10 (by decide) (by decide), vw_10]
      rfl
    · exact Rel_set h 10 (by decide) x (OkS_upd ok 10 x (by omega)) (by simp; omega) (by decide)
  · rw [if_neg g]
    refine ⟨-1, M, M, rfl, ?_, h⟩
    rw [show (0 : Int) = ((0 : Nat) : Int) from rfl, capOn_r (by decide), Option.bind_some, rw0 8 (by decide) (by decide), wr_id (by omega) (by omega), in_r hx (rgl _) (rgl _), Option.bind_some, if_neg (by omega), sets_r (Or.inl rfl) (x := 16) (p := 16) rfl (by decide), if_pos rfl]
    rfl
theorem op_price {M : Mem} {x y : Int} (hx : rg x) (hy : rg y) (h : Rel M) : ∃ r M1 M2, f_X5_price x y M = some (r, M1) ∧ f_X6_price x y M1 = some (r, M2) ∧ Rel M2 := by
  obtain ⟨c1, c2, c3, c4, ok, okb, rw0, rb⟩ := Rel_c h
  have sc := sc_of h
  unfold f_X5_price f_X6_price
  rw [isFlag_c hx, Option.bind_some, ifbi, within_c hy (rgl 0) (rgl 9), Option.bind_some, ifbi]
  by_cases g : x = 0 ∨ x = 1
  · rw [if_pos g]
    by_cases q : 0 ≤ y ∧ y ≤ 9
    · rw [if_pos q, priceIn_c g, Option.bind_some]
      rcases g with rfl | rfl
      · rw [wr_0, if_neg (by decide)]
        refine ⟨M 3 12, st M 3 12 y, st (st M 3 12 y) 47 17 (y - 1), rfl, ?_, ?_⟩
        · rw [isFat_r (rgl 0), Option.bind_some, if_pos (Or.inl rfl), if_neg w1n0, wr_rg hy, in_r hy (rgl 0) (rgl 9), Option.bind_some, if_pos q, if_neg w1n0, sets_r (Or.inr rfl) (p := 17) (by decide) (by decide), if_neg (by decide), st_ne _ _ _ (show (47 : Nat) ≠ 3 by decide), Option.bind_some, ← rw0 12 (by decide) (by decide), vw_12, Int.add_comm]
        · exact Rel_set h 12 (by decide) y (OkS_upd ok 12 y (by omega)) (by simp; omega) (by decide)
      · rw [wr_1, if_pos rfl]
        refine ⟨M 3 11, st M 3 11 y, st (st M 3 11 y) 47 18 (y - 1), rfl, ?_, ?_⟩
        · rw [isFat_r (rgl 1), Option.bind_some, if_pos (Or.inr rfl), if_neg w1n0, wr_rg hy, in_r hy (rgl 0) (rgl 9), Option.bind_some, if_pos q, if_neg w1n0, sets_r (Or.inr rfl) (p := 18) (by decide) (by decide), if_neg (by decide), st_ne _ _ _ (show (47 : Nat) ≠ 3 by decide), Option.bind_some, ← rw0 11 (by decide) (by decide), vw_11, Int.add_comm]
        · exact Rel_set h 11 (by decide) y (OkS_upd ok 11 y (by omega)) (by simp; omega) (by decide)
    · rw [if_neg q]
      refine ⟨-1, M, M, rfl, ?_, h⟩
      rw [isFat_r hx, Option.bind_some, if_pos g, if_neg w1n0, wr_rg hy, in_r hy (rgl 0) (rgl 9), Option.bind_some, if_neg q, if_pos wr_0]
  · rw [if_neg g]
    refine ⟨-1, M, M, rfl, ?_, h⟩
    rw [isFat_r hx, Option.bind_some, if_neg g, if_pos wr_0]
theorem op_steward {M : Mem} {x y : Int} (hx : rg x) (hy : rg y) (h : Rel M) : ∃ r M1 M2, f_X5_steward x y M = some (r, M1) ∧ f_X6_steward x y M1 = some (r, M2) ∧ Rel M2 := by
  obtain ⟨c1, c2, c3, c4, ok, okb, rw0, rb⟩ := Rel_c h
  have sc := sc_of h
  unfold f_X5_steward f_X6_steward
  rw [within_c hx (rgl 0) (rgl 4), Option.bind_some, ifbi, within_c hy (rgl 0) (rgl 9), Option.bind_some, ifbi]
  by_cases g : 0 ≤ x ∧ x ≤ 4
  · rw [if_pos g]
    by_cases q : 0 ≤ y ∧ y ≤ 9
    · rw [if_pos q, appoint_c, Option.bind_some]
      refine ⟨M 3 13, st (st M 3 13 x) 3 14 y, st (st (st (st M 3 13 x) 3 14 y) 47 20 y) 47 19 x, rfl, ?_, ?_⟩
      · rw [wr_rg hx, in_r hx (rgl 0) (rgl 4), Option.bind_some, if_pos g, if_neg w1n0, wr_rg hy, in_r hy (rgl 0) (rgl 9), Option.bind_some, if_pos q, if_neg w1n0, Option.bind_some, sets_r (Or.inr rfl) (x := 19) (p := 19) rfl (by decide), if_neg (by decide), Option.bind_some, st_nk _ _ _ (by decide), st_ne _ _ _ (show (47 : Nat) ≠ 3 by decide), st_ne _ _ _ (show (47 : Nat) ≠ 3 by decide), ← rw0 13 (by decide) (by decide), vw_13]
      · have A := Rel_set h 13 (by decide) x (OkS_upd ok 13 x (by omega)) (by simp; omega) (by decide)
        obtain ⟨d1, d2, d3, d4, ok', okb', rw0', rb'⟩ := Rel_c A
        have B := Rel_set A 14 (by decide) y (OkS_upd ok' 14 y (by omega)) (by have := sc_of A; simp; omega) (by decide)
        have e : st (st (st (st M 3 13 x) 3 14 y) 47 20 y) 47 19 x = st (st (st (st M 3 13 x) 47 (ps 13) (wv 13 x)) 3 14 y) 47 (ps 14) (wv 14 y) := by
          funext a k
          show _ = st (st (st (st M 3 13 x) 47 19 x) 3 14 y) 47 20 y a k
          simp only [st_at]
          by_cases a3 : a = 3
          · subst a3; simp
          · by_cases a47 : a = 47
            · subst a47
              simp
              by_cases k19 : k = 19
              · simp [k19]
              · simp [k19]
            · simp [a3, a47]
        rw [e]; exact B
    · rw [if_neg q]
      refine ⟨-1, M, M, rfl, ?_, h⟩
      rw [wr_rg hx, in_r hx (rgl 0) (rgl 4), Option.bind_some, if_pos g, if_neg w1n0, wr_rg hy, in_r hy (rgl 0) (rgl 9), Option.bind_some, if_neg q, if_pos wr_0]
  · rw [if_neg g]
    refine ⟨-1, M, M, rfl, ?_, h⟩
    rw [wr_rg hx, in_r hx (rgl 0) (rgl 4), Option.bind_some, if_neg g, if_pos wr_0]
theorem op_keeps {M : Mem} {x : Int} (hx : rg x) (h : Rel M) : ∃ r, f_X5_keeps x M = some r ∧ f_X6_keeps x M = some r := by
  obtain ⟨c1, c2, c3, c4, ok, okb, rw0, rb⟩ := Rel_c h
  unfold f_X5_keeps f_X6_keeps
  rw [within_c hx (rgl 0) (rgl 99), Option.bind_some, ifbi, wr_rg hx, in_r hx (rgl 0) (rgl 99), Option.bind_some, ifbi]
  by_cases g : 0 ≤ x ∧ x ≤ 99
  · rw [if_pos g, if_pos g, keptOf_c ok g.1 (by omega), show (0 : Int) = ((0 : Nat) : Int) from rfl, keepsOn_r (by decide) (OkS_rw rw0.symm ok) g.1 (by omega), kpS_rw rw0]
    exact ⟨_, rfl, rfl⟩
  · rw [if_neg g, if_neg g]
    exact ⟨_, rfl, rfl⟩
theorem op_bears {n : Nat} {M : Mem} {x : Int} (hn : 1000 ≤ n) (hx : rg x) (h : Rel M) : ∃ r, f_X5_bears n x M = some r ∧ f_X6_bears n x M = some r := by
  obtain ⟨c1, c2, c3, c4, ok, okb, rw0, rb⟩ := Rel_c h
  unfold f_X5_bears f_X6_bears
  rw [isFlag_c hx, Option.bind_some, ifbi, isFat_r hx, Option.bind_some, ifbi]
  by_cases g : x = 0 ∨ x = 1
  · rw [if_pos g, if_pos g, harvest_c (by omega) c1.1 c1.2 g, show (0 : Int) = ((0 : Nat) : Int) from rfl, bearsOn_r (by omega) (by rw [c3]; exact c1) (by decide) g, rb x g]
    exact ⟨_, rfl, rfl⟩
  · rw [if_neg g, if_neg g]
    exact ⟨_, rfl, rfl⟩
theorem op_fault {M : Mem} (h : Rel M) : ∃ r, f_X5_fault M = some r ∧ f_X6_fault M = some r := by
  unfold f_X5_fault f_X6_fault
  rw [h.2.1.2.2.2]
  exact ⟨_, rfl, rfl⟩
theorem op_torn {M : Mem} (h : Rel M) : ∃ r, f_X5_torn M = some r ∧ f_X6_torn M = some r := by
  unfold f_X5_torn f_X6_torn
  rw [h.2.2.2.2.1.2]
  exact ⟨_, rfl, rfl⟩
theorem pbS_cong {S T R Q : Nat → Int} (h : Rw S T) : ∀ {n : Nat}, (∀ r, r < n → R r = Q r) → pbS S R n = pbS T Q n
  | 0, _ => rfl
  | n + 1, g => by
    rw [pbS, pbS, pbS_cong h (fun r hr => g r (by omega)), g n (by omega)]
    unfold cbS
    rw [h 15 (by decide) (by decide), h 16 (by decide) (by decide)]
theorem rows_of {M : Mem} (h : Rel M) : ∀ r, r < (M 3 5).toNat → M 48 r = M 6 r := h.1.2.2.2.2.1
/-- the readings that can be, the same on both sides -/
theorem pb_eq {M : Mem} (h : Rel M) : pbS (vw (M 47) 0) (M 48) (M 46 3).toNat = pbS (M 3) (M 6) (M 3 5).toNat := by
  obtain ⟨c1, c2, c3, c4, ok, okb, rw0, rb⟩ := Rel_c h
  rw [c4]
  exact pbS_cong rw0 (rows_of h)
theorem op_can {n : Nat} {M : Mem} (hn : 1000 ≤ n) (h : Rel M) : ∃ r, f_X5_can n M = some r ∧ f_X6_can n M = some r := by
  obtain ⟨c1, c2, c3, c4, ok, okb, rw0, rb⟩ := Rel_c h
  unfold f_X5_can f_X6_can
  rw [possible_c (by omega) c2, canNow_r (by omega) (by rw [c4]; exact c2), pb_eq h]
  exact ⟨_, rfl, rfl⟩
theorem op_rule {M : Mem} {x : Int} (hx : rg x) (h : Rel M) : ∃ r, f_X5_rule x M = some r ∧ f_X6_rule x M = some r := by
  obtain ⟨c1, c2, c3, c4, ok, okb, rw0, rb⟩ := Rel_c h
  have e : ∀ k, 6 ≤ k → k ≤ 18 → M 3 k = vw (M 47) 0 k := fun k a b => (rw0 k a b).symm
  have r0 : ∀ k : Nat, k < 125 → rd M 47 125 (k : Int) = some (M 47 k) := fun k hk => by rw [rd_id (by omega) (by omega) (by omega), Int.toNat_natCast]
  have c0 : f_X6_capOn 0 M = some (vw (M 47) 0 8) := capOn_r (p := 0) (by decide)
  unfold f_X5_rule f_X6_rule
  rw [wr_rg hx, e 6 (by decide) (by decide), e 7 (by decide) (by decide), e 8 (by decide) (by decide), e 9 (by decide) (by decide), e 10 (by decide) (by decide), e 11 (by decide) (by decide), e 12 (by decide) (by decide), e 13 (by decide) (by decide), e 14 (by decide) (by decide), e 15 (by decide) (by decide), e 17 (by decide) (by decide), e 18 (by decide) (by decide), c3, c4, in_r hx (rgl 9) (rgl 11), in_r hx (rgl 12) (rgl 13), Option.bind_some, Option.bind_some, ifbi, ifbi, c0, Option.bind_some]
  rw [vw_6, vw_7, vw_8, vw_9, vw_10, vw_11, vw_12, vw_13, vw_14, vw_15, vw_17, vw_18]
  have cs : x = 0 ∨ x = 1 ∨ x = 2 ∨ x = 3 ∨ x = 4 ∨ x = 5 ∨ x = 6 ∨ x = 7 ∨ x = 8 ∨ x = 9 ∨ x = 10 ∨ x = 11 ∨ x = 12 ∨ x = 13 ∨ x < 0 ∨ 13 < x := by omega
  rcases cs with rfl | rfl | rfl | rfl | rfl | rfl | rfl | rfl | rfl | rfl | rfl | rfl | rfl | rfl | g
  · exact ⟨_, rfl, rfl⟩
  · exact ⟨_, rfl, rfl⟩
  · exact ⟨_, rfl, rfl⟩
  · exact ⟨_, rfl, rfl⟩
  · exact ⟨_, rfl, rfl⟩
  · exact ⟨_, rfl, rfl⟩
  · exact ⟨_, rfl, rfl⟩
  · exact ⟨_, rfl, rfl⟩
  · exact ⟨_, rfl, rfl⟩
  · refine ⟨M 47 19, rfl, ?_⟩
    show (rd M 47 125 ((19 : Nat) : Int)).bind _ = _
    rw [r0 19 (by decide)]; rfl
  · refine ⟨M 47 20, rfl, ?_⟩
    show (rd M 47 125 ((20 : Nat) : Int)).bind _ = _
    rw [r0 20 (by decide)]; rfl
  · refine ⟨M 47 21, rfl, ?_⟩
    show (rd M 47 125 ((21 : Nat) : Int)).bind _ = _
    rw [r0 21 (by decide)]; rfl
  · refine ⟨M 47 23, rfl, ?_⟩
    show (rd M 47 125 ((23 : Nat) : Int)).bind _ = _
    rw [r0 23 (by decide)]; rfl
  · refine ⟨M 47 24, rfl, ?_⟩
    show (rd M 47 125 ((24 : Nat) : Int)).bind _ = _
    rw [r0 24 (by decide)]; rfl
  · refine ⟨-1, ?_, ?_⟩
    · simp only [show ¬ x = 0 by omega, show ¬ x = 1 by omega, show ¬ x = 2 by omega, show ¬ x = 3 by omega, show ¬ x = 4 by omega, show ¬ x = 5 by omega, show ¬ x = 6 by omega, show ¬ x = 7 by omega, show ¬ x = 8 by omega, show ¬ x = 9 by omega, show ¬ x = 10 by omega, show ¬ x = 11 by omega, show ¬ x = 12 by omega, show ¬ x = 13 by omega, if_false]
    · simp only [show ¬ x = 0 by omega, show ¬ x = 1 by omega, show ¬ x = 2 by omega, show ¬ x = 3 by omega, show ¬ x = 4 by omega, show ¬ x = 5 by omega, show ¬ x = 6 by omega, show ¬ x = 7 by omega, show ¬ x = 8 by omega, show ¬ (9 ≤ x ∧ x ≤ 11) by omega, show ¬ (12 ≤ x ∧ x ≤ 13) by omega, if_false]
theorem op_land {M : Mem} {x y : Int} (hx : rg x) (hy : rg y) (h : Rel M) : ∃ r, f_X5_land x y M = some r ∧ f_X6_land x y M = some r := by
  obtain ⟨c1, c2, c3, c4, ok, okb, rw0, rb⟩ := Rel_c h
  have cp := h.1.2.2.2.2.2.2
  unfold f_X5_land f_X6_land
  rw [isLand_c hx c1, Option.bind_some, ifbi, isFlag_c hy, Option.bind_some, ifbi, isLand_r hx (by rw [c3]; exact c1), Option.bind_some, ifbi, wr_rg hy, in_r hy (rgl 0) (rgl 1), Option.bind_some, ifbi, c3]
  by_cases g : 0 ≤ x ∧ x ≤ M 3 4 - 1
  · rw [if_pos g, if_pos g]
    by_cases q : y = 0 ∨ y = 1
    · obtain ⟨i, rfl⟩ : ∃ i : Nat, x = (i : Int) := ⟨x.toNat, by omega⟩
      have a := cp.2.1 i (by omega)
      rw [if_pos q, if_pos (by omega)]
      unfold f_X2_yields
      rcases q with rfl | rfl
      · rw [wr_0, if_neg (by decide), Option.bind_some, rd_id (by omega) (by omega) (by omega), Option.bind_some, rdp (p := 0) (k := 2 * i) (by omega) (by omega), Option.bind_some, a.1, Int.toNat_natCast]
        exact ⟨_, rfl, rfl⟩
      · rw [wr_1, if_pos rfl, Option.bind_some, rd_id (by omega) (by omega) (by omega), Option.bind_some, rdp (p := 0) (k := 2 * i + 1) (by omega) (by omega), Option.bind_some, ← Nat.add_assoc, a.2, Int.toNat_natCast]
        exact ⟨_, rfl, rfl⟩
    · rw [if_neg q, if_neg (by omega)]
      exact ⟨_, rfl, rfl⟩
  · rw [if_neg g, if_neg g]
    exact ⟨_, rfl, rfl⟩
theorem op_reading {M : Mem} {x y : Int} (hx : rg x) (hy : rg y) (h : Rel M) : ∃ r, f_X5_reading x y M = some r ∧ f_X6_reading x y M = some r := by
  obtain ⟨c1, c2, c3, c4, ok, okb, rw0, rb⟩ := Rel_c h
  have cp := h.1.2.2.2.2.2.2
  unfold f_X5_reading f_X6_reading
  rw [isReading_c hx c2, Option.bind_some, ifbi, isReading_r hx (by rw [c4]; exact c2), Option.bind_some, ifbi, wr_rg hy, within_c hy (rgl 10) (rgl 17), Option.bind_some, ifbi, in_r hy (rgl 10) (rgl 17), Option.bind_some, ifbi, c4]
  by_cases g : 0 ≤ x ∧ x ≤ M 3 5 - 1
  · rw [if_pos g, if_pos g]
    obtain ⟨i, rfl⟩ : ∃ i : Nat, x = (i : Int) := ⟨x.toNat, by omega⟩
    have er := rows_of h i (by omega)
    have eo := cp.2.2 i (by omega)
    rw [canBe_c (by omega) (by omega), Option.bind_some, canBe_r (by omega) (by omega), Option.bind_some, fatIn_c (by omega) (by omega), Option.bind_some, rd_id (by omega) (by omega) (by omega), Option.bind_some, rdp (p := 8) (k := i) (by omega) (by omega), Option.bind_some, rd_id (by omega) (by omega) (by omega), Option.bind_some, Int.toNat_natCast]
    show ∃ r, (if y = 0 then some (M 7 i) else if y = 1 then (if wr (cbS (M 3) (M 6 i)) = 0 then some 0 else some 1) else if 10 ≤ y ∧ y ≤ 17 then some (bt (M 6 i) (y - 10)) else some (-1)) = some r ∧ (if 10 ≤ y ∧ y ≤ 17 then some (bt (M 48 i) (y - 10)) else if y = 0 then some (M 47 (8 + i)) else if y = 1 then (if wr (cbS (vw (M 47) 0) (M 48 i)) = 0 then some 0 else some 1) else some (-1)) = some r
    rw [er, show M 47 (8 + i) = M 7 i from eo, show cbS (vw (M 47) 0) (M 6 i) = cbS (M 3) (M 6 i) by unfold cbS; rw [rw0 15 (by decide) (by decide), rw0 16 (by decide) (by decide)]]
    by_cases y0 : y = 0
    · rw [if_pos y0, if_neg (show ¬ (10 ≤ y ∧ y ≤ 17) by omega), if_pos y0]; exact ⟨_, rfl, rfl⟩
    · by_cases y1 : y = 1
      · rw [if_neg y0, if_pos y1, if_neg (show ¬ (10 ≤ y ∧ y ≤ 17) by omega), if_neg y0, if_pos y1]
        split <;> exact ⟨_, rfl, rfl⟩
      · by_cases yb : 10 ≤ y ∧ y ≤ 17
        · rw [if_neg y0, if_neg y1, if_pos yb, if_pos yb]; exact ⟨_, rfl, rfl⟩
        · rw [if_neg y0, if_neg y1, if_neg yb, if_neg yb, if_neg y0, if_neg y1]; exact ⟨_, rfl, rfl⟩
  · rw [if_neg g, if_neg g]
    exact ⟨_, rfl, rfl⟩
