/-! lands, odds, years -/
theorem op_till {M : Mem} {x y z : Int} (hx : rg x) (hy : rg y) (hz : rg z) (h : Rel M) : ∃ r M1 M2, f_X5_till x y z M = some (r, M1) ∧ f_X6_till x y z M1 = some (r, M2) ∧ Rel M2 := by
  obtain ⟨c1, c2, c3, c4, ok, okb, rw0, rb⟩ := Rel_c h
  have ct := h.1.2.2.2.2.2.1
  have cp := h.1.2.2.2.2.2.2
  unfold f_X5_till f_X6_till f_X6_till_35 f_X6_till_36
  rw [isLand_c hx c1, Option.bind_some, ifbi, isFlag_c hy, Option.bind_some, ifbi, within_c hz (rgl 0) (rgl 9), Option.bind_some, ifbi]
  by_cases g : 0 ≤ x ∧ x ≤ M 3 4 - 1
  · rw [if_pos g]
    obtain ⟨i, rfl⟩ : ∃ i : Nat, x = (i : Int) := ⟨x.toNat, by omega⟩
    by_cases q : y = 0 ∨ y = 1
    · rw [if_pos q]
      by_cases u : 0 ≤ z ∧ z ≤ 9
      · rw [if_pos u]
        have a := cp.2.1 i (by omega)
        have key : ∀ (c p : Nat), (c = 4 ∧ p = 2 * i + 1) ∨ (c = 5 ∧ p = 2 * i) → Rel (st (st M c i z) 47 p z) := by
          intro c p hc
          refine Rel_A h ?_ ?_ ?_
          · intro a k h1 h2
            rw [st_at, st_at, if_neg (by omega), if_neg (by omega)]
          · have e3 : st (st M c i z) 47 p z 3 = M 3 := by rw [st_ne _ _ _ (by decide), st_ne _ _ _ (by omega)]
            unfold CtOk at ct ⊢
            rw [e3, show st (st M c i z) 47 p z (3 + 3) = M (3 + 3) by rw [st_ne _ _ _ (by decide), st_ne _ _ _ (by omega)], show st (st M c i z) 47 p z (3 + 4) = M (3 + 4) by rw [st_ne _ _ _ (by decide), st_ne _ _ _ (by omega)]]
            refine ⟨ct.1, ct.2.1, ct.2.2.1, rfl, rfl, fun t ht => ?_, ct.2.2.2.2.2.2⟩
            have b := ct.2.2.2.2.2.1 t ht
            simp only [st_at, show ¬ (3 + 1 = 47) by decide, show ¬ (3 + 2 = 47) by decide, false_and, if_false]
            refine ⟨?_, ?_⟩
            · split
              · exact u
              · exact b.1
            · split
              · exact u
              · exact b.2
          · have e3 : st (st M c i z) 47 p z 3 = M 3 := by rw [st_ne _ _ _ (by decide), st_ne _ _ _ (by omega)]
            unfold CPg at cp ⊢
            rw [e3, show st (st M c i z) 47 p z (3 + 4) = M (3 + 4) by rw [st_ne _ _ _ (by decide), st_ne _ _ _ (by omega)]]
            have e47 : ∀ k, k ≠ p → st (st M c i z) 47 p z 47 k = M 47 k := fun k hk => by rw [st_nk _ _ _ hk, st_ne _ _ _ (by omega)]
            refine ⟨Rw.trans ?_ cp.1, fun t ht => ?_, fun t ht => ?_⟩
            · intro k h1 h2
              unfold vw
              rw [e47 _ (by omega), e47 _ (by omega), e47 _ (by omega), e47 _ (by omega)]
            · have b := cp.2.1 t ht
              simp only [st_at, show ¬ (3 + 1 = 47) by decide, show ¬ (3 + 2 = 47) by decide, false_and, if_false, true_and, show ¬ (47 = c) by omega]
              rcases hc with ⟨rfl, rfl⟩ | ⟨rfl, rfl⟩
              · rw [if_neg (by omega), if_neg (by omega)]
                by_cases e : t = i
                · subst e; simpa using b.1
                · rw [if_neg (by omega), if_neg (by omega)]; exact b
              · rw [if_neg (show ¬ (0 + 2 * t + 1 = 2 * i) by omega), if_neg (show ¬ (3 + 1 = 5 ∧ t = i) by omega)]
                by_cases e : t = i
                · subst e; simpa using b.2
                · rw [if_neg (by omega), if_neg (by omega)]; exact b
            · rw [e47 _ (by omega)]; exact cp.2.2 t ht
        unfold f_X2_yields
        rcases q with rfl | rfl
        · rw [wr_0, if_neg (by decide), Option.bind_some, rd_id (by omega) (by omega) (by omega), Option.bind_some, wt_id (by omega) (by omega) (by omega), Option.bind_some, Int.toNat_natCast]
          refine ⟨M 5 i, st M 5 i z, st (st M 5 i z) 47 (2 * i) z, rfl, ?_, key 5 (2 * i) (Or.inr ⟨rfl, rfl⟩)⟩
          rw [isLand_r hx (by rw [st_ne _ _ _ (by decide), c3]; exact c1), Option.bind_some, st_ne _ _ _ (show (46 : Nat) ≠ 5 by decide), c3, if_pos g, if_neg w1n0, in_r (rgl 0) (rgl 0) (rgl 1), Option.bind_some, ifbi, if_pos (by decide), wr_rg hz, in_r hz (rgl 0) (rgl 9), Option.bind_some, if_pos u, if_neg w1n0, sets_r (Or.inr rfl) (p := 2 * i) (by omega) (by omega), if_neg (by decide), st_ne _ _ _ (show (47 : Nat) ≠ 5 by decide), Option.bind_some, show M 47 (2 * i) = M 5 i by rw [← a.1]; simp]
        · rw [wr_1, if_pos rfl, Option.bind_some, rd_id (by omega) (by omega) (by omega), Option.bind_some, wt_id (by omega) (by omega) (by omega), Option.bind_some, Int.toNat_natCast]
          refine ⟨M 4 i, st M 4 i z, st (st M 4 i z) 47 (2 * i + 1) z, rfl, ?_, key 4 (2 * i + 1) (Or.inl ⟨rfl, rfl⟩)⟩
          rw [isLand_r hx (by rw [st_ne _ _ _ (by decide), c3]; exact c1), Option.bind_some, st_ne _ _ _ (show (46 : Nat) ≠ 4 by decide), c3, if_pos g, if_neg w1n0, in_r (rgl 1) (rgl 0) (rgl 1), Option.bind_some, ifbi, if_pos (by decide), wr_rg hz, in_r hz (rgl 0) (rgl 9), Option.bind_some, if_pos u, if_neg w1n0, sets_r (Or.inr rfl) (p := 2 * i + 1) (by omega) (by omega), if_neg (by decide), st_ne _ _ _ (show (47 : Nat) ≠ 4 by decide), Option.bind_some, show M 47 (2 * i + 1) = M 4 i by rw [← a.2]; simp]
      · rw [if_neg u]
        refine ⟨-1, M, M, rfl, ?_, h⟩
        rw [isLand_r hx (by rw [c3]; exact c1), Option.bind_some, c3, if_pos g, if_neg w1n0, wr_rg hy, in_r hy (rgl 0) (rgl 1), Option.bind_some, ifbi, if_pos (show 0 ≤ y ∧ y ≤ 1 by omega), wr_rg hz, in_r hz (rgl 0) (rgl 9), Option.bind_some, if_neg u, if_pos wr_0, sets_r (Or.inl rfl) (p := 2 * i + y.toNat) (by omega) (by omega), if_pos rfl]
        rfl
    · rw [if_neg q]
      refine ⟨-1, M, M, rfl, ?_, h⟩
      rw [isLand_r hx (by rw [c3]; exact c1), Option.bind_some, c3, if_pos g, if_neg w1n0, wr_rg hy, in_r hy (rgl 0) (rgl 1), Option.bind_some, ifbi, if_neg (show ¬ (0 ≤ y ∧ y ≤ 1) by omega)]
      unfold f_X6_sets
      rw [if_pos wr_0]
      rfl
  · rw [if_neg g]
    refine ⟨-1, M, M, rfl, ?_, h⟩
    rw [isLand_r hx (by rw [c3]; exact c1), Option.bind_some, c3, if_neg g, if_pos wr_0]
    unfold f_X6_sets
    rw [if_pos wr_0]
    rfl
theorem op_weigh {M : Mem} {x y : Int} (hx : rg x) (hy : rg y) (h : Rel M) : ∃ r M1 M2, f_X5_weigh x y M = some (r, M1) ∧ f_X6_weigh x y M1 = some (r, M2) ∧ Rel M2 := by
  obtain ⟨c1, c2, c3, c4, ok, okb, rw0, rb⟩ := Rel_c h
  have ct := h.1.2.2.2.2.2.1
  have cp := h.1.2.2.2.2.2.2
  unfold f_X5_weigh f_X6_weigh f_X6_weigh_25 f_X6_weigh_26
  rw [isReading_c hx c2, Option.bind_some, ifbi, within_c hy (rgl 1) (rgl 9), Option.bind_some, ifbi]
  by_cases g : 0 ≤ x ∧ x ≤ M 3 5 - 1
  · rw [if_pos g]
    obtain ⟨i, rfl⟩ : ∃ i : Nat, x = (i : Int) := ⟨x.toNat, by omega⟩
    by_cases u : 1 ≤ y ∧ y ≤ 9
    · rw [if_pos u]
      have a := cp.2.2 i (by omega)
      rw [rd_id (by omega) (by omega) (by omega), Option.bind_some, wt_id (by omega) (by omega) (by omega), Option.bind_some, Int.toNat_natCast]
      refine ⟨M 7 i, st M 7 i y, st (st M 7 i y) 47 (8 + i) y, rfl, ?_, ?_⟩
      · rw [isReading_r hx (by rw [st_ne _ _ _ (by decide), c4]; exact c2), Option.bind_some, st_ne _ _ _ (show (46 : Nat) ≠ 7 by decide), c4, if_pos g, if_neg w1n0, wr_rg hy, in_r hy (rgl 1) (rgl 9), Option.bind_some, if_pos u, if_neg w1n0, sets_r (Or.inr rfl) (p := 8 + i) (by omega) (by omega), if_neg (by decide), st_ne _ _ _ (show (47 : Nat) ≠ 7 by decide), Option.bind_some, show M 47 (8 + i) = M 7 i from a]
      · have e : ∀ a, a ≠ 7 → a ≠ 47 → st (st M 7 i y) 47 (8 + i) y a = M a := fun a h1 h2 => by rw [st_ne _ _ _ h2, st_ne _ _ _ h1]
        have e47 : ∀ k, k ≠ 8 + i → st (st M 7 i y) 47 (8 + i) y 47 k = M 47 k := fun k hk => by rw [st_nk _ _ _ hk, st_ne _ _ _ (by decide)]
        refine Rel_A h ?_ ?_ ?_
        · intro a k h1 h2
          rw [st_at, st_at, if_neg (by omega), if_neg (by omega)]
        · unfold CtOk at ct ⊢
          rw [e 3 (by decide) (by decide), e (3 + 1) (by decide) (by decide), e (3 + 2) (by decide) (by decide), e (3 + 3) (by decide) (by decide)]
          refine ⟨ct.1, ct.2.1, ct.2.2.1, rfl, rfl, ct.2.2.2.2.2.1, fun t ht => ?_⟩
          have b := ct.2.2.2.2.2.2 t ht
          refine ⟨?_, rfl⟩
          simp only [st_at, show ¬ (3 + 4 = 47) by decide, false_and, if_false]
          split
          · exact u
          · exact b.1
        · unfold CPg at cp ⊢
          rw [e 3 (by decide) (by decide), e (3 + 1) (by decide) (by decide), e (3 + 2) (by decide) (by decide)]
          refine ⟨Rw.trans ?_ cp.1, fun t ht => ?_, fun t ht => ?_⟩
          · intro k h1 h2
            unfold vw
            rw [e47 _ (by omega), e47 _ (by omega), e47 _ (by omega), e47 _ (by omega)]
          · rw [e47 _ (by omega), e47 _ (by omega)]; exact cp.2.1 t ht
          · have b := cp.2.2 t ht
            by_cases q : t = i
            · subst q; simp [st_at]
            · rw [e47 _ (by omega), b]
              simp [st_at, q]
    · rw [if_neg u]
      refine ⟨-1, M, M, rfl, ?_, h⟩
      rw [isReading_r hx (by rw [c4]; exact c2), Option.bind_some, c4, if_pos g, if_neg w1n0, wr_rg hy, in_r hy (rgl 1) (rgl 9), Option.bind_some, if_neg u, if_pos wr_0, sets_r (Or.inl rfl) (p := 8 + i) (by omega) (by omega), if_pos rfl]
      rfl
  · rw [if_neg g]
    refine ⟨-1, M, M, rfl, ?_, h⟩
    rw [isReading_r hx (by rw [c4]; exact c2), Option.bind_some, c4, if_neg g, if_pos wr_0]
    unfold f_X6_sets
    rw [if_pos wr_0]
    rfl
theorem past_all : ∀ p : Fin 256, ∀ y : Fin 8, ∀ f : Fin 2, 0 ≤ bOr (p.val : Int) (bShl (f.val : Int) (y.val : Int)) ∧ bOr (p.val : Int) (bShl (f.val : Int) (y.val : Int)) ≤ 255 := by decide +kernel
theorem past_rng {p y f : Int} (hp : 0 ≤ p ∧ p ≤ 255) (hy : 0 ≤ y ∧ y < 8) (hf : isF f) : 0 ≤ bOr p (bShl f y) ∧ bOr p (bShl f y) ≤ 255 := by
  obtain ⟨a, rfl⟩ : ∃ a : Nat, p = (a : Int) := ⟨p.toNat, by omega⟩
  obtain ⟨b, rfl⟩ : ∃ b : Nat, y = (b : Int) := ⟨y.toNat, by omega⟩
  obtain ⟨c, hc, rfl⟩ := Fnat hf
  exact past_all ⟨a, by omega⟩ ⟨b, by omega⟩ ⟨c, by omega⟩
/-- a year gone on both sides -/
theorem Rel_year {M : Mem} (h : Rel M) {f k : Int} (hf : isF f) (hk : 0 ≤ k ∧ k ≤ M 3 8) (hy : M 3 15 < 8) : Rel (sr (sr M 3 (psS (M 3) (B2 M 3) f k)) 47 (gr (M 47) 0 (psS (vw (M 47) 0) (Bp (M 47) (M 46 1).toNat 0) f k))) := by
  obtain ⟨c1, c2, c3, c4, ok, okb, rw0, rb⟩ := Rel_c h
  have ct := h.1.2.2.2.2.2.1
  have h8 : 0 ≤ M 3 8 ∧ M 3 8 ≤ 40 := by unfold OkS at ok; omega
  have h15 : 0 ≤ M 3 15 := by unfold OkS at ok; omega
  have hr := rtS_rng ok hk.1 (by omega)
  refine Rel_row h (psS_i _ _ _ _ 4 (by decide)) (psS_i _ _ _ _ 5 (by decide)) (OkS_ps ok hy hk.1 (by omega)) ?_ ?_ (fun i hi => gr_o (by omega)) (Rw.trans (vw_gr (fun i hi => psS_i _ _ _ _ i hi)) (psS_rw rw0 rb hf k))
  · rw [psS_10, psS_i _ _ _ _ 8 (by decide)]; omega
  · have e : psS (M 3) (B2 M 3) f k 16 = bOr (M 3 16) (bShl f (M 3 15)) := by unfold psS; simp
    rw [e]; exact past_rng ct.2.2.1 ⟨h15, hy⟩ hf
theorem op_go {n : Nat} {M : Mem} {x y : Int} (hn : 1000 ≤ n) (hx : rg x) (hy : rg y) (h : Rel M) : ∃ r M1 M2, f_X5_go n x y M = some (r, M1) ∧ f_X6_go n x y M1 = some (r, M2) ∧ Rel M2 := by
  obtain ⟨c1, c2, c3, c4, ok, okb, rw0, rb⟩ := Rel_c h
  have h8 : 0 ≤ M 3 8 ∧ M 3 8 ≤ 40 := by unfold OkS at ok; omega
  have h15 : 0 ≤ M 3 15 ∧ M 3 15 ≤ 8 := by unfold OkS at ok; omega
  have ok' := OkS_rw rw0.symm ok
  have okb' := OkB_rb rb.symm okb
  have c46 : 0 ≤ M 46 1 ∧ M 46 1 ≤ 4 := by rw [c3]; exact c1
  have e21 : M 47 21 = M 3 15 := by rw [← rw0 15 (by decide) (by decide), vw_15]
  have cap0 : ∀ N : Mem, N 47 = M 47 → f_X6_capOn 0 N = some (M 3 8) := fun N hN => by
    have := capOn_r (p := 0) (M := N) (by decide)
    rw [hN, rw0 8 (by decide) (by decide)] at this; exact this
  unfold f_X5_go f_X6_go
  rw [passTold_c (by omega) c1 ok okb hx hy, Option.bind_some]
  unfold ptS
  by_cases g : (x = 0 ∨ x = 1) ∧ 0 ≤ y ∧ y ≤ M 3 8 ∧ y ≤ lfS (M 3) (B2 M 3) x
  · rw [if_pos g]
    have lf := lfS_rw rw0 rb g.1
    have hl := lfS_rng ok okb g.1
    by_cases q : M 3 15 < 8
    · rw [if_pos q]
      refine ⟨hgS (M 3) (B2 M 3) x, sr M 3 (psS (M 3) (B2 M 3) x y), _, rfl, ?_, Rel_year h g.1 ⟨g.2.1, g.2.2.1⟩ q⟩
      have X47 : sr M 3 (psS (M 3) (B2 M 3) x y) 47 = M 47 := sr_ne _ _ (by decide)
      have X46 : sr M 3 (psS (M 3) (B2 M 3) x y) 46 = M 46 := sr_ne _ _ (by decide)
      have A1 := leftOn_r (n := n) (p := 0) (M := sr M 3 (psS (M 3) (B2 M 3) x y)) (f := x) (by omega) (by rw [X46]; exact c46) (by decide) g.1 (by rw [X47]; exact ok') (by rw [X46, X47]; exact okb')
      have A3 := goesOn_r (n := n) (p := 0) (M := sr M 3 (psS (M 3) (B2 M 3) x y)) (f := x) (k := y) (by omega) (by rw [X46]; exact c46) (by decide) g.1 (by rw [X47]; exact ok') (by rw [X46, X47]; exact okb') g.2.1 (by omega)
      rw [X46, X47] at A1 A3
      unfold f_X6_goes
      rw [isFat_r hx, Option.bind_some, if_pos g.1, if_neg w1n0, cap0 _ X47, Option.bind_some, wr_rg hy, wr_id (x := M 3 8) (by omega) (by omega), in_r hy (rgl 0) (rgl _), Option.bind_some, if_pos (show 0 ≤ y ∧ y ≤ M 3 8 from ⟨g.2.1, g.2.2.1⟩), if_neg w1n0, show (0 : Int) = ((0 : Nat) : Int) from rfl, A1, Option.bind_some, lf, wr_id (by omega) (by omega), if_pos g.2.2.2, X47, e21, wr_id (by omega) (by omega), if_neg (by omega), A3, Option.bind_some, Option.bind_some, hgS_rw rw0 rb g.1]
    · rw [if_neg q, sr_self]
      refine ⟨-3, M, M, rfl, ?_, h⟩
      have A1 := leftOn_r (n := n) (p := 0) (M := M) (f := x) (by omega) c46 (by decide) g.1 ok' okb'
      unfold f_X6_goes
      rw [isFat_r hx, Option.bind_some, if_pos g.1, if_neg w1n0, cap0 _ rfl, Option.bind_some, wr_rg hy, wr_id (x := M 3 8) (by omega) (by omega), in_r hy (rgl 0) (rgl _), Option.bind_some, if_pos (show 0 ≤ y ∧ y ≤ M 3 8 from ⟨g.2.1, g.2.2.1⟩), if_neg w1n0, show (0 : Int) = ((0 : Nat) : Int) from rfl, A1, Option.bind_some, lf, wr_id (by omega) (by omega), if_pos g.2.2.2, e21, wr_id (by omega) (by omega), if_pos (by omega)]
      rfl
  · rw [if_neg g, sr_self]
    refine ⟨-1, M, M, rfl, ?_, h⟩
    unfold f_X6_goes
    rw [isFat_r hx, Option.bind_some]
    by_cases g1 : x = 0 ∨ x = 1
    · have lf := lfS_rw rw0 rb g1
      have hl := lfS_rng ok okb g1
      have A1 := leftOn_r (n := n) (p := 0) (M := M) (f := x) (by omega) c46 (by decide) g1 ok' okb'
      rw [if_pos g1, if_neg w1n0, cap0 _ rfl, Option.bind_some, wr_rg hy, wr_id (x := M 3 8) (by omega) (by omega), in_r hy (rgl 0) (rgl _), Option.bind_some]
      by_cases g2 : 0 ≤ y ∧ y ≤ M 3 8
      · rw [if_pos g2, if_neg w1n0, show (0 : Int) = ((0 : Nat) : Int) from rfl, A1, Option.bind_some, lf, wr_id (by omega) (by omega), if_neg (fun z => g ⟨g1, g2.1, g2.2, z⟩)]
        rfl
      · rw [if_neg g2, if_pos wr_0]; rfl
    · rw [if_neg g1, if_pos wr_0]; rfl
theorem op_year {n : Nat} {M : Mem} {x : Int} (hn : 1000 ≤ n) (hx : rg x) (h : Rel M) : ∃ r M1 M2, f_X5_year n x M = some (r, M1) ∧ f_X6_year n x M1 = some (r, M2) ∧ Rel M2 := by
  obtain ⟨c1, c2, c3, c4, ok, okb, rw0, rb⟩ := Rel_c h
  have h15 : 0 ≤ M 3 15 ∧ M 3 15 ≤ 8 := by unfold OkS at ok; omega
  have ok' := OkS_rw rw0.symm ok
  have okb' := OkB_rb rb.symm okb
  have c46 : 0 ≤ M 46 1 ∧ M 46 1 ≤ 4 := by rw [c3]; exact c1
  have e21 : M 47 21 = M 3 15 := by rw [← rw0 15 (by decide) (by decide), vw_15]
  unfold f_X5_year f_X6_year
  rw [isFlag_c hx, Option.bind_some, ifbi, isOver_c h15, Option.bind_some]
  by_cases g : x = 0 ∨ x = 1
  · rw [if_pos g]
    by_cases q : M 3 15 < 8
    · rw [if_pos q, if_pos wr_0, passByHim_c (by omega) c1 ok okb g, Option.bind_some]
      have hl := lfS_rng ok okb g
      have hk := kpS_rng ok hl.1 (by omega)
      refine ⟨_, _, _, rfl, ?_, Rel_year h g ⟨hk.1, hk.2.2.1⟩ q⟩
      show _ = some (hgS (M 3) (B2 M 3) x, _)
      have X47 : sr M 3 (hmS (M 3) (B2 M 3) x) 47 = M 47 := sr_ne _ _ (by decide)
      have X46 : sr M 3 (hmS (M 3) (B2 M 3) x) 46 = M 46 := sr_ne _ _ (by decide)
      have A1 := leftOn_r (n := n) (p := 0) (M := sr M 3 (hmS (M 3) (B2 M 3) x)) (f := x) (by omega) (by rw [X46]; exact c46) (by decide) g (by rw [X47]; exact ok') (by rw [X46, X47]; exact okb')
      have A2 := keepsOn_r (p := 0) (M := sr M 3 (hmS (M 3) (B2 M 3) x)) (l := lfS (M 3) (B2 M 3) x) (by decide) (by rw [X47]; exact ok') hl.1 (by omega)
      have A3 := goesOn_r (n := n) (p := 0) (M := sr M 3 (hmS (M 3) (B2 M 3) x)) (f := x) (k := kpS (M 3) (lfS (M 3) (B2 M 3) x)) (by omega) (by rw [X46]; exact c46) (by decide) g (by rw [X47]; exact ok') (by rw [X46, X47]; exact okb') hk.1 hk.2.1
      rw [X46, X47] at A1 A3
      rw [X47, kpS_rw rw0] at A2
      rw [lfS_rw rw0 rb g] at A1
      rw [isFat_r hx, Option.bind_some, if_pos g, if_neg w1n0, X47, e21, wr_id (by omega) (by omega), if_neg (by omega), show (0 : Int) = ((0 : Nat) : Int) from rfl, A1, Option.bind_some, A2, Option.bind_some, A3, Option.bind_some, hgS_rw rw0 rb g]
      rfl
    · rw [if_neg q, if_neg w1n0]
      refine ⟨-3, M, M, rfl, ?_, h⟩
      rw [isFat_r hx, Option.bind_some, if_pos g, if_neg w1n0, e21, wr_id (by omega) (by omega), if_pos (by omega)]
  · rw [if_neg g]
    refine ⟨-1, M, M, rfl, ?_, h⟩
    rw [isFat_r hx, Option.bind_some, if_neg g, if_pos wr_0]
