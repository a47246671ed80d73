/-! the invariant's parts, each by what it rests on -/
theorem CtOk_k {M M' : Mem} {j : Nat} (e : ∀ a, a = 6 ∨ (j ≤ a ∧ a ≤ j + 4) → M' a = M a) (e4 : M' 3 4 = M 3 4) (e5 : M' 3 5 = M 3 5) (g : CtOk M j) : CtOk M' j := by
  unfold CtOk at g ⊢
  rw [e j (by omega), e (j + 1) (by omega), e (j + 2) (by omega), e (j + 3) (by omega), e (j + 4) (by omega), e4, e5, e 6 (by omega)]
  exact g
theorem CPg_k {M M' : Mem} {j p : Nat} (hL : (M 3 4).toNat ≤ 4 ∧ (M 3 5).toNat ≤ 4) (e : ∀ a, j ≤ a ∧ a ≤ j + 4 → M' a = M a) (e4 : M' 3 4 = M 3 4) (e5 : M' 3 5 = M 3 5) (e47 : ∀ k, p ≤ k → k < p + 25 → M' 47 k = M 47 k) (g : CPg M j p) : CPg M' j p := by
  unfold CPg at g ⊢
  rw [e j (by omega), e (j + 1) (by omega), e (j + 2) (by omega), e (j + 4) (by omega), e4, e5]
  refine ⟨Rw.trans (vw_off (fun i h1 h2 => e47 i (by omega) (by omega))) g.1, fun i hi => ?_, fun r hr => ?_⟩
  · rw [e47 _ (by omega) (by omega), e47 _ (by omega) (by omega)]; exact g.2.1 i hi
  · rw [e47 _ (by omega) (by omega)]; exact g.2.2 r hr
theorem RelA_k {M M' : Mem} (g : RelA M) (e : ∀ a, (3 ≤ a ∧ a ≤ 7) ∨ a = 48 → M' a = M a) (e47 : ∀ k, k < 25 → M' 47 k = M 47 k) (e1 : M' 46 1 = M 46 1) (e3 : M' 46 3 = M 46 3) : RelA M' := by
  have hL : (M 3 4).toNat ≤ 4 ∧ (M 3 5).toNat ≤ 4 := by have := g.1; have := g.2.1; omega
  have q3 : M' 3 = M 3 := e 3 (by omega)
  unfold RelA at g ⊢
  rw [q3, e 48 (by omega), e 6 (by omega), e1, e3]
  exact ⟨g.1, g.2.1, g.2.2.1, g.2.2.2.1, g.2.2.2.2.1, CtOk_k (fun a ha => e a (by omega)) (by rw [q3]) (by rw [q3]) g.2.2.2.2.2.1, CPg_k hL (fun a ha => e a (by omega)) (by rw [q3]) (by rw [q3]) (fun k _ h2 => e47 k (by omega)) g.2.2.2.2.2.2⟩
theorem RelT_k {M M' : Mem} (g : RelT M) (e1 : M' 1 1 = M 1 1) (e2 : M' 1 2 = M 1 2) (e3 : M' 46 10 = M 46 10) (e4 : M' 46 11 = M 46 11) (e5 : M' 2 = M 2) (e6 : M' 51 = M 51) : RelT M' := by
  unfold RelT at g ⊢
  rw [e1, e2, e3, e4, e5, e6]; exact g
theorem RelK_k {M M' : Mem} (g : RelK M) (e1 : M' 22 = M 22) (e2 : M' 23 = M 23) (e3 : M' 24 = M 24) (e4 : M' 55 = M 55) (e5 : M' 46 22 = M 46 22) : RelK M' := by
  unfold RelK at g ⊢
  rw [e1, e2, e3, e4, e5]; exact g
theorem RelI_k {M M' : Mem} (hL : (M 3 4).toNat ≤ 4 ∧ (M 3 5).toNat ≤ 4) (g : RelI M) (e : ∀ a, a = 6 ∨ a = 26 ∨ a = 56 ∨ (28 ≤ a ∧ a ≤ 37) → M' a = M a) (e4 : M' 3 4 = M 3 4) (e5 : M' 3 5 = M 3 5) (e47 : ∀ k, 25 ≤ k → k < 75 → M' 47 k = M 47 k) : RelI M' := by
  intro k hk
  obtain ⟨a1, a2, a3⟩ := g k hk
  rw [e 26 (by omega), e 56 (by omega)]
  exact ⟨a1, a2, fun z => ⟨CtOk_k (fun a ha => e a (by omega)) e4 e5 (a3 z).1, CPg_k hL (fun a ha => e a (by omega)) e4 e5 (fun i h1 h2 => e47 i (by omega) (by omega)) (a3 z).2⟩⟩
theorem RelH_k {M M' : Mem} (g : RelH M) (e : ∀ a, (38 ≤ a ∧ a ≤ 45) ∨ (57 ≤ a ∧ a ≤ 59) → M' a = M a) (e1 : M' 0 8 = M 0 8) (e2 : M' 46 27 = M 46 27) : RelH M' := by
  refine ⟨fun k hk => ?_, ?_⟩
  · have g1 := g.1 k hk
    unfold ShOk at g1 ⊢
    rw [e (38 + 2 * k) (by omega), e (39 + 2 * k) (by omega), e 57 (by omega), e 58 (by omega), e 59 (by omega)]
    exact g1
  · rw [e1, e2]; exact g.2
theorem RelC_k {M M' : Mem} (g : RelC M) (e1 : M' 52 = M 52) (e2 : M' 53 = M 53) : RelC M' := by
  unfold RelC at g ⊢
  rw [e1, e2]; exact g
theorem hL_of {M : Mem} (h : Rel M) : (M 3 4).toNat ≤ 4 ∧ (M 3 5).toNat ≤ 4 := by have := h.1.1; have := h.1.2.1; omega
theorem op_feed {M : Mem} {x : Int} (hx : rg x) (h : Rel M) : ∃ r M1 M2, f_X5_feed x M = some (r, M1) ∧ f_X6_feed x M1 = some (r, M2) ∧ Rel M2 := by
  have h0 := h
  obtain ⟨gA, gT, gK, gI, gH, gC⟩ := h0
  obtain ⟨t1, t2, t3, t4⟩ := gT
  unfold f_X5_feed f_X6_feed f_X3_write
  rw [within_c hx (rgl 0) (rgl 127), Option.bind_some, ifbi, wr_rg hx, wr_id (x := M 1 1) (by omega) (by omega)]
  by_cases g : 0 ≤ x ∧ x ≤ 127
  · rw [if_pos g]
    by_cases q : M 1 1 < 160
    · rw [if_pos q, wt_id (by omega) (by omega) (by omega), Option.bind_some, Option.bind_some, st_ne _ _ _ (show (1 : Nat) ≠ 2 by decide), Option.bind_some]
      dsimp only
      rw [if_neg w1n0, st_same]
      refine ⟨M 1 1 + 1, st (st M 2 (M 1 1).toNat x) 1 1 (M 1 1 + 1), st (st (st (st M 2 (M 1 1).toNat x) 1 1 (M 1 1 + 1)) 51 (M 1 1).toNat x) 46 10 (M 1 1 + 1), rfl, ?_, ?_⟩
      · rw [in_r hx (rgl 0) (rgl 127), Option.bind_some, if_pos g, if_neg w1n0, st_ne _ _ _ (show (46 : Nat) ≠ 1 by decide), st_ne _ _ _ (show (46 : Nat) ≠ 2 by decide), t2, wr_id (by omega) (by omega), if_neg (by omega), wt_id (by omega) (by omega) (by omega), Option.bind_some, Option.bind_some, st_ne _ _ _ (show (46 : Nat) ≠ 51 by decide), st_ne _ _ _ (show (46 : Nat) ≠ 1 by decide), st_ne _ _ _ (show (46 : Nat) ≠ 2 by decide), t2, st_same]
      · refine ⟨RelA_k gA (fun a ha => by rw [st_ne _ _ _ (by omega), st_ne _ _ _ (by omega), st_ne _ _ _ (by omega), st_ne _ _ _ (by omega)]) (fun k _ => by simp [st_at]) (by simp [st_at]) (by simp [st_at]), ?_, RelK_k gK (by rw [st_ne _ _ _ (by decide), st_ne _ _ _ (by decide), st_ne _ _ _ (by decide), st_ne _ _ _ (by decide)]) (by rw [st_ne _ _ _ (by decide), st_ne _ _ _ (by decide), st_ne _ _ _ (by decide), st_ne _ _ _ (by decide)]) (by rw [st_ne _ _ _ (by decide), st_ne _ _ _ (by decide), st_ne _ _ _ (by decide), st_ne _ _ _ (by decide)]) (by rw [st_ne _ _ _ (by decide), st_ne _ _ _ (by decide), st_ne _ _ _ (by decide), st_ne _ _ _ (by decide)]) (by simp [st_at]), RelI_k (hL_of h) gI (fun a ha => by rw [st_ne _ _ _ (by omega), st_ne _ _ _ (by omega), st_ne _ _ _ (by omega), st_ne _ _ _ (by omega)]) (by simp [st_at]) (by simp [st_at]) (fun k _ _ => by simp [st_at]), RelH_k gH (fun a ha => by rw [st_ne _ _ _ (by omega), st_ne _ _ _ (by omega), st_ne _ _ _ (by omega), st_ne _ _ _ (by omega)]) (by simp [st_at]) (by simp [st_at]), RelC_k gC (by rw [st_ne _ _ _ (by decide), st_ne _ _ _ (by decide), st_ne _ _ _ (by decide), st_ne _ _ _ (by decide)]) (by rw [st_ne _ _ _ (by decide), st_ne _ _ _ (by decide), st_ne _ _ _ (by decide), st_ne _ _ _ (by decide)])⟩
        have b1 : st (st (st (st M 2 (M 1 1).toNat x) 1 1 (M 1 1 + 1)) 51 (M 1 1).toNat x) 46 10 (M 1 1 + 1) 1 1 = M 1 1 + 1 := by simp [st_at]
        have b2 : st (st (st (st M 2 (M 1 1).toNat x) 1 1 (M 1 1 + 1)) 51 (M 1 1).toNat x) 46 10 (M 1 1 + 1) 46 10 = M 1 1 + 1 := by simp [st_at]
        refine ⟨by rw [b1]; omega, by rw [b1, b2], fun i hi => ?_, by simp [st_at]; exact t4⟩
        rw [b1] at hi
        by_cases e : i = (M 1 1).toNat
        · subst e; simp [st_at]; exact g
        · have := t3 i (by omega)
          simp [st_at, e]; exact this
    · rw [if_neg q, Option.bind_some]
      dsimp only
      rw [if_pos wr_0]
      refine ⟨-3, M, M, rfl, ?_, h⟩
      rw [in_r hx (rgl 0) (rgl 127), Option.bind_some, if_pos g, if_neg w1n0, t2, wr_id (by omega) (by omega), if_pos (by omega)]
  · rw [if_neg g]
    refine ⟨-1, M, M, rfl, ?_, h⟩
    rw [in_r hx (rgl 0) (rgl 127), Option.bind_some, if_neg g, if_pos wr_0]
theorem op_end {M : Mem} {x : Int} (hx : rg x) (h : Rel M) : ∃ r M1 M2, f_X5_end x M = some (r, M1) ∧ f_X6_end x M1 = some (r, M2) ∧ Rel M2 := by
  have h0 := h
  obtain ⟨gA, gT, gK, gI, gH, gC⟩ := h0
  obtain ⟨t1, t2, t3, t4⟩ := gT
  unfold f_X5_end f_X6_end
  rw [within_c hx (rgl 0) (rgl (M 1 1)), Option.bind_some, ifbi, wr_rg hx]
  by_cases g : 0 ≤ x ∧ x ≤ M 1 1
  · rw [if_pos g]
    refine ⟨M 1 1, st M 1 1 x, st (st M 1 1 x) 46 10 x, rfl, ?_, ?_⟩
    · rw [st_ne _ _ _ (show (46 : Nat) ≠ 1 by decide), t2, wr_id (by omega) (by omega), in_r hx (rgl 0) (rgl _), Option.bind_some, if_pos g, if_neg w1n0]
      rfl
    · refine ⟨RelA_k gA (fun a ha => by rw [st_ne _ _ _ (by omega), st_ne _ _ _ (by omega)]) (fun k _ => by simp [st_at]) (by simp [st_at]) (by simp [st_at]), ?_, RelK_k gK (by rw [st_ne _ _ _ (by decide), st_ne _ _ _ (by decide)]) (by rw [st_ne _ _ _ (by decide), st_ne _ _ _ (by decide)]) (by rw [st_ne _ _ _ (by decide), st_ne _ _ _ (by decide)]) (by rw [st_ne _ _ _ (by decide), st_ne _ _ _ (by decide)]) (by simp [st_at]), RelI_k (hL_of h) gI (fun a ha => by rw [st_ne _ _ _ (by omega), st_ne _ _ _ (by omega)]) (by simp [st_at]) (by simp [st_at]) (fun k _ _ => by simp [st_at]), RelH_k gH (fun a ha => by rw [st_ne _ _ _ (by omega), st_ne _ _ _ (by omega)]) (by simp [st_at]) (by simp [st_at]), RelC_k gC (by rw [st_ne _ _ _ (by decide), st_ne _ _ _ (by decide)]) (by rw [st_ne _ _ _ (by decide), st_ne _ _ _ (by decide)])⟩
      have b1 : st (st M 1 1 x) 46 10 x 1 1 = x := by simp [st_at]
      have b2 : st (st M 1 1 x) 46 10 x 46 10 = x := by simp [st_at]
      refine ⟨by rw [b1]; omega, by rw [b1, b2], fun i hi => ?_, by simp [st_at]; exact t4⟩
      rw [b1] at hi
      have := t3 i (by omega)
      simp [st_at]; exact this
  · rw [if_neg g]
    refine ⟨-1, M, M, rfl, ?_, h⟩
    rw [t2, wr_id (by omega) (by omega), in_r hx (rgl 0) (rgl _), Option.bind_some, if_neg g, if_pos wr_0]
theorem op_see {M : Mem} {x y : Int} (hx : rg x) (hy : rg y) (h : Rel M) : ∃ r M1 M2, f_X5_see x y M = some (r, M1) ∧ f_X6_see x y M1 = some (r, M2) ∧ Rel M2 := by
  have h0 := h
  obtain ⟨gA, gT, gK, gI, gH, gC⟩ := h0
  obtain ⟨t1, t2, t3⟩ := gK
  unfold f_X5_see f_X6_see f_X0_note
  rw [within_c hx (rgl 1) (rgl 8), Option.bind_some, ifbi, within_c hy (rgl 0) (rgl 40), Option.bind_some, ifbi, wr_id (x := M 22 2) (by omega) (by omega)]
  by_cases g : 1 ≤ x ∧ x ≤ 8
  · rw [if_pos g]
    by_cases g2 : 0 ≤ y ∧ y ≤ 40
    · rw [if_pos g2]
      by_cases q : M 22 2 < 6
      · rw [if_pos q, wt_id (by omega) (by omega) (by omega), Option.bind_some, st_ne _ _ _ (show (22 : Nat) ≠ 23 by decide), wt_id (by omega) (by omega) (by omega), Option.bind_some, Option.bind_some, st_ne _ _ _ (show (22 : Nat) ≠ 24 by decide), st_ne _ _ _ (show (22 : Nat) ≠ 23 by decide), Option.bind_some]
        dsimp only
        rw [if_neg w1n0, st_same]
        obtain ⟨k, hk⟩ : ∃ k : Nat, M 22 2 = (k : Int) := ⟨(M 22 2).toNat, by omega⟩
        rw [hk] at t1 t2 t3 q ⊢
        rw [Int.toNat_natCast] at t3 ⊢
        refine ⟨(k : Int) + 1, _, st (st (st (st (st (st M 23 k x) 24 k y) 22 2 ((k : Int) + 1)) 55 (2 * k) x) 55 (2 * k + 1) y) 46 22 ((k : Int) + 1), rfl, ?_, ?_⟩
        · rw [wr_rg hx, in_r hx (rgl 1) (rgl 8), Option.bind_some, if_pos g, if_neg w1n0, wr_rg hy, in_r hy (rgl 0) (rgl 40), Option.bind_some, if_pos g2, if_neg w1n0, st_ne _ _ _ (show (46 : Nat) ≠ 22 by decide), st_ne _ _ _ (show (46 : Nat) ≠ 24 by decide), st_ne _ _ _ (show (46 : Nat) ≠ 23 by decide), t2, wr_id (by omega) (by omega), if_neg (by omega), wt_id (by omega) (by omega) (by omega), Option.bind_some, st_ne _ _ _ (show (46 : Nat) ≠ 55 by decide), st_ne _ _ _ (show (46 : Nat) ≠ 22 by decide), st_ne _ _ _ (show (46 : Nat) ≠ 24 by decide), st_ne _ _ _ (show (46 : Nat) ≠ 23 by decide), t2, wt_id (by omega) (by omega) (by omega), Option.bind_some, Option.bind_some, st_ne _ _ _ (show (46 : Nat) ≠ 55 by decide), st_ne _ _ _ (show (46 : Nat) ≠ 55 by decide), st_ne _ _ _ (show (46 : Nat) ≠ 22 by decide), st_ne _ _ _ (show (46 : Nat) ≠ 24 by decide), st_ne _ _ _ (show (46 : Nat) ≠ 23 by decide), t2, st_same, show (2 * (k : Int)).toNat = 2 * k by omega, show (2 * (k : Int) + 1).toNat = 2 * k + 1 by omega]
        · have E : ∀ a, a ≠ 23 → a ≠ 24 → a ≠ 22 → a ≠ 55 → a ≠ 46 → st (st (st (st (st (st M 23 k x) 24 k y) 22 2 ((k : Int) + 1)) 55 (2 * k) x) 55 (2 * k + 1) y) 46 22 ((k : Int) + 1) a = M a := fun a h1 h2 h3 h4 h5 => by rw [st_ne _ _ _ h5, st_ne _ _ _ h4, st_ne _ _ _ h4, st_ne _ _ _ h3, st_ne _ _ _ h2, st_ne _ _ _ h1]
          refine ⟨RelA_k gA (fun a ha => E a (by omega) (by omega) (by omega) (by omega) (by omega)) (fun k _ => by rw [E 47 (by decide) (by decide) (by decide) (by decide) (by decide)]) (by simp [st_at]) (by simp [st_at]), RelT_k gT (by rw [E 1 (by decide) (by decide) (by decide) (by decide) (by decide)]) (by rw [E 1 (by decide) (by decide) (by decide) (by decide) (by decide)]) (by simp [st_at]) (by simp [st_at]) (E 2 (by decide) (by decide) (by decide) (by decide) (by decide)) (E 51 (by decide) (by decide) (by decide) (by decide) (by decide)), ?_, RelI_k (hL_of h) gI (fun a ha => E a (by omega) (by omega) (by omega) (by omega) (by omega)) (by rw [E 3 (by decide) (by decide) (by decide) (by decide) (by decide)]) (by rw [E 3 (by decide) (by decide) (by decide) (by decide) (by decide)]) (fun k _ _ => by rw [E 47 (by decide) (by decide) (by decide) (by decide) (by decide)]), RelH_k gH (fun a ha => E a (by omega) (by omega) (by omega) (by omega) (by omega)) (by rw [E 0 (by decide) (by decide) (by decide) (by decide) (by decide)]) (by simp [st_at]), RelC_k gC (E 52 (by decide) (by decide) (by decide) (by decide) (by decide)) (E 53 (by decide) (by decide) (by decide) (by decide) (by decide))⟩
          have b1 : st (st (st (st (st (st M 23 k x) 24 k y) 22 2 ((k : Int) + 1)) 55 (2 * k) x) 55 (2 * k + 1) y) 46 22 ((k : Int) + 1) 22 2 = (k : Int) + 1 := by simp [st_at]
          refine ⟨by rw [b1]; omega, by rw [b1]; simp [st_at], fun i hi => ?_⟩
          rw [b1] at hi
          by_cases e : i = k
          · subst e
            simp only [st_at]
            refine ⟨by simp, by simp, ?_, ?_⟩
            · simp; exact hx
            · simp; exact hy
          · have a := t3 i (by omega)
            have f1 : ¬ 2 * i = 2 * k := by omega
            have f2 : ¬ 2 * i = 2 * k + 1 := by omega
            have f3 : ¬ 2 * i + 1 = 2 * k := by omega
            simp only [st_at]
            simp [e, f1, f2, f3]
            exact a
      · rw [if_neg q, Option.bind_some]
        dsimp only
        rw [if_pos wr_0]
        refine ⟨-3, M, M, rfl, ?_, h⟩
        rw [wr_rg hx, in_r hx (rgl 1) (rgl 8), Option.bind_some, if_pos g, if_neg w1n0, wr_rg hy, in_r hy (rgl 0) (rgl 40), Option.bind_some, if_pos g2, if_neg w1n0, t2, wr_id (by omega) (by omega), if_pos (by omega)]
    · rw [if_neg g2]
      refine ⟨-1, M, M, rfl, ?_, h⟩
      rw [wr_rg hx, in_r hx (rgl 1) (rgl 8), Option.bind_some, if_pos g, if_neg w1n0, wr_rg hy, in_r hy (rgl 0) (rgl 40), Option.bind_some, if_neg g2, if_pos wr_0]
  · rw [if_neg g]
    refine ⟨-1, M, M, rfl, ?_, h⟩
    rw [wr_rg hx, in_r hx (rgl 1) (rgl 8), Option.bind_some, if_neg g, if_pos wr_0]
theorem op_forget {M : Mem} {x : Int} (hx : rg x) (h : Rel M) : ∃ r M1 M2, f_X5_forget x M = some (r, M1) ∧ f_X6_forget x M1 = some (r, M2) ∧ Rel M2 := by
  have h0 := h
  obtain ⟨gA, gT, gK, gI, gH, gC⟩ := h0
  obtain ⟨t1, t2, t3⟩ := gK
  unfold f_X5_forget f_X6_forget
  rw [within_c hx (rgl 0) (rgl (M 22 2)), Option.bind_some, ifbi, wr_rg hx]
  by_cases g : 0 ≤ x ∧ x ≤ M 22 2
  · rw [if_pos g]
    refine ⟨M 22 2, st M 22 2 x, st (st M 22 2 x) 46 22 x, rfl, ?_, ?_⟩
    · rw [st_ne _ _ _ (show (46 : Nat) ≠ 22 by decide), t2, wr_id (by omega) (by omega), in_r hx (rgl 0) (rgl _), Option.bind_some, if_pos g, if_neg w1n0]
      rfl
    · have E : ∀ a, a ≠ 22 → a ≠ 46 → st (st M 22 2 x) 46 22 x a = M a := fun a h1 h2 => by rw [st_ne _ _ _ h2, st_ne _ _ _ h1]
      refine ⟨RelA_k gA (fun a ha => E a (by omega) (by omega)) (fun k _ => by rw [E 47 (by decide) (by decide)]) (by simp [st_at]) (by simp [st_at]), RelT_k gT (by rw [E 1 (by decide) (by decide)]) (by rw [E 1 (by decide) (by decide)]) (by simp [st_at]) (by simp [st_at]) (E 2 (by decide) (by decide)) (E 51 (by decide) (by decide)), ?_, RelI_k (hL_of h) gI (fun a ha => E a (by omega) (by omega)) (by rw [E 3 (by decide) (by decide)]) (by rw [E 3 (by decide) (by decide)]) (fun k _ _ => by rw [E 47 (by decide) (by decide)]), RelH_k gH (fun a ha => E a (by omega) (by omega)) (by rw [E 0 (by decide) (by decide)]) (by simp [st_at]), RelC_k gC (E 52 (by decide) (by decide)) (E 53 (by decide) (by decide))⟩
      have b1 : st (st M 22 2 x) 46 22 x 22 2 = x := by simp [st_at]
      refine ⟨by rw [b1]; omega, by rw [b1]; simp [st_at], fun i hi => ?_⟩
      rw [b1] at hi
      rw [E 55 (by decide) (by decide), E 23 (by decide) (by decide), E 24 (by decide) (by decide)]
      exact t3 i (by omega)
  · rw [if_neg g]
    refine ⟨-1, M, M, rfl, ?_, h⟩
    rw [t2, wr_id (by omega) (by omega), in_r hx (rgl 0) (rgl _), Option.bind_some, if_neg g, if_pos wr_0]
