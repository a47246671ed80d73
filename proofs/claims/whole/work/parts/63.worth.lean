/-! worth -/
theorem bkS_cong {S T : Nat → Int} {B C : Int → Int} {O P : Nat → Int} {m : Nat} {v w : Int → Int → Int} (hS : Rw S T) (hB : RB B C) (hO : ∀ i, i < m → O i = P i) (hv : ∀ a s, v a s = w a s) {are s f : Int} (hf : isF f) (k : Nat) : bkS S B O m v are s f k = bkS T C P m w are s f k := by
  unfold bkS lfX hgX
  rw [odS_cong hO, hB f hf, hS 6 (by decide) (by decide), hS 7 (by decide) (by decide), prS_rw hS, rtS_rw hS, hv]
theorem vlS_cong {S T : Nat → Int} {B C : Int → Int} {O P R Q : Nat → Int} {m : Nat} (hS : Rw S T) (hB : RB B C) (hO : ∀ i, i < m → O i = P i) (hR : ∀ i, i < m → R i = Q i) : ∀ (k : Nat) (y A s : Int), vlS S B O R m k y A s = vlS T C P Q m k y A s
  | 0, _, _, _ => rfl
  | k + 1, y, A, s => by
    have ih := vlS_cong hS hB hO hR k (y + 1)
    have e : ∀ f, isF f → vbS S B O R m (vlS S B O R m k (y + 1)) y A s f = vbS T C P Q m (vlS T C P Q m k (y + 1)) y A s f := fun f hf => by
      unfold vbS
      rw [tlS_cong hR]
      split
      · rfl
      · have el : lfX S B s f = lfX T C s f := by unfold lfX; rw [hB f hf, hS 6 (by decide) (by decide)]
        rw [el, hS 8 (by decide) (by decide)]
        exact mxB_cong (fun i _ => bkS_cong hS hB hO ih hf i)
    rw [vlS, vlS, e 0 (Or.inl rfl), e 1 (Or.inr rfl)]
/-- the object's trial, with the land i bearing nothing -/
def zrM (M : Mem) (i : Nat) : Mem := st (st (cpS M 8 3) 10 i 0) 9 i 0
/-- what the lands bear without it -/
def zrB (M : Mem) (i : Nat) (f : Int) : Int := if f = 1 then hv (fun j => if j = i then 0 else M 4 j) (M 3 4).toNat else hv (fun j => if j = i then 0 else M 5 j) (M 3 4).toNat
theorem zr_at {M : Mem} (h : Rel M) {i : Nat} (hi : i < 4) : Rw (zrM M i 8) (M 3) ∧ zrM M i 8 4 = M 3 4 ∧ zrM M i 8 5 = M 3 5 ∧ (∀ j, j < 4 → zrM M i 9 j = if j = i then 0 else M 4 j) ∧ (∀ j, j < 4 → zrM M i 10 j = if j = i then 0 else M 5 j) ∧ (∀ j, j < 4 → zrM M i 11 j = M 6 j) ∧ (∀ j, j < 4 → zrM M i 12 j = M 7 j) ∧ ∀ a, a < 8 ∨ 12 < a → zrM M i a = M a := by
  obtain ⟨p1, p2, p3, p4, p5, p6, p7⟩ := cp8 h
  have e8 : zrM M i 8 = cpS M 8 3 8 := by unfold zrM; rw [st_ne _ _ _ (by decide), st_ne _ _ _ (by decide)]
  refine ⟨by rw [e8]; exact p1, by rw [e8]; exact p4, by rw [e8]; exact p5, fun j hj => ?_, fun j hj => ?_, fun j hj => ?_, fun j hj => ?_, fun a ha => ?_⟩
  · unfold zrM
    rw [st_at, st_at, show (9 : Nat) = 8 + 1 from rfl, cpS_a (by decide) hj]
    by_cases q : j = i
    · rw [if_pos ⟨rfl, q⟩, if_pos q]
    · rw [if_neg (fun z => q z.2), if_neg (by omega), if_neg q]
  · unfold zrM
    rw [st_at, st_at, show (10 : Nat) = 8 + 2 from rfl, cpS_a (by decide) hj]
    by_cases q : j = i
    · rw [if_neg (by omega), if_pos ⟨rfl, q⟩, if_pos q]
    · rw [if_neg (by omega), if_neg (fun z => q z.2), if_neg q]
  · unfold zrM
    rw [st_ne _ _ _ (by decide), st_ne _ _ _ (by decide)]
    exact p6 j hj
  · unfold zrM
    rw [st_ne _ _ _ (by decide), st_ne _ _ _ (by decide), show (12 : Nat) = 8 + 4 from rfl, cpS_a (by decide) hj]
  · unfold zrM
    rw [st_ne _ _ _ (by omega), st_ne _ _ _ (by omega)]
    exact p7 a ha
theorem zr_B {M : Mem} (h : Rel M) {i : Nat} (hi : i < 4) {N : Mem} (e : ∀ a, a < 13 ∨ 21 < a → N a = zrM M i a) : RB (B2 N 8) (zrB M i) := by
  obtain ⟨c1, c2, c3, c4, ok, okb, rw0, rb⟩ := Rel_c h
  obtain ⟨z1, z2, z3, z4, z5, z6, z7, z8⟩ := zr_at h hi
  intro f hf
  unfold B2 zrB
  rw [e 8 (by decide), e (8 + 1) (by decide), e (8 + 2) (by decide), z2]
  split
  · exact hv_cong (fun j hj => z4 j (by omega))
  · exact hv_cong (fun j hj => z5 j (by omega))
theorem zr_ok {M : Mem} (h : Rel M) (i : Nat) : OkB (zrB M i) := by
  obtain ⟨c1, c2, c3, c4, ok, okb, rw0, rb⟩ := Rel_c h
  have L := h.1.2.2.2.2.2.1.2.2.2.2.2.1
  intro f hf
  have a := hv_rng (y := fun j => if j = i then 0 else M 4 j) (c := 9) (n := (M 3 4).toNat) (fun j hj => by split; omega; exact (L j hj).1)
  have b := hv_rng (y := fun j => if j = i then 0 else M 5 j) (c := 9) (n := (M 3 4).toNat) (fun j hj => by split; omega; exact (L j hj).2)
  unfold zrB
  split <;> omega
/-- the greatest worth without the land -/
def zvS (M : Mem) (i : Nat) (x A : Int) : Int := vlS (M 3) (zrB M i) (M 7) (M 6) (M 3 5).toNat (min x (8 - M 3 15)).toNat (M 3 15) A (M 3 10)
theorem zvS_rng {M : Mem} (h : Rel M) {i : Nat} {x A : Int} (hx : 0 ≤ x ∧ x ≤ 5) : -4000000 ≤ zvS M i x A ∧ zvS M i x A ≤ 4000000 := by
  obtain ⟨ok, hB, hm, hO⟩ := OkV_0 h
  have h10 : 0 ≤ M 3 10 ∧ M 3 10 ≤ 40 := by unfold OkS at ok; omega
  have a := vl_rng (R := M 6) ok (zr_ok h i) hm hO (min x (8 - M 3 15)).toNat (M 3 15) A (M 3 10) h10.1 h10.2
  have w := Wk_rng (min x (8 - M 3 15)).toNat (by omega)
  unfold zvS
  omega
theorem zv_c {n i : Nat} {M N : Mem} {x A : Int} (hn : 1000 ≤ n) (h : Rel M) (hi : i < 4) (e : ∀ a, a < 13 ∨ 21 < a → N a = zrM M i a) (hx : 0 ≤ x ∧ x ≤ 5) : ∃ N', f_X1_greatest n 8 x A N = some (zvS M i x A, N') ∧ ∀ a, a < 13 ∨ 21 < a → N' a = zrM M i a := by
  obtain ⟨c1, c2, c3, c4, ok, okb, rw0, rb⟩ := Rel_c h
  obtain ⟨z1, z2, z3, z4, z5, z6, z7, z8⟩ := zr_at h hi
  have ct := h.1.2.2.2.2.2.1
  have e8 := e 8 (by decide)
  have hO : ∀ j, j < (M 3 5).toNat → N (8 + 4) j = M 7 j := fun j hj => by rw [e (8 + 4) (by decide)]; exact z7 j (by omega)
  have hR : ∀ j, j < (M 3 5).toNat → N (8 + 3) j = M 6 j := fun j hj => by rw [e (8 + 3) (by decide)]; exact z6 j (by omega)
  have H : CtS N 8 := by
    refine ⟨Or.inr rfl, by rw [e8]; exact OkS_rw z1.symm ok, OkB_rb (zr_B h hi e).symm (zr_ok h i), by rw [e8, z2]; exact c1, by rw [e8, z3]; exact c2, fun j hj => ?_⟩
    rw [e8, z3] at hj
    rw [hO j hj]; exact (odds_of h).1 j hj
  obtain ⟨N', a1, a2⟩ := greatest_c (n := n) (M := N) (c := 8) (x := x) (A := A) hn hx H (by rw [e8, z1 10 (by decide) (by decide), z1 8 (by decide) (by decide)]; exact ct.2.1)
  refine ⟨N', ?_, fun a ha => by rw [a2 a ha, e a ha]⟩
  rw [a1, e8, z3, z1 15 (by decide) (by decide), z1 10 (by decide) (by decide), vlS_cong z1 (zr_B h hi e) hO hR]
  rfl
theorem gv_cw {n : Nat} {M N : Mem} {x A : Int} (hn : 1000 ≤ n) (h : Rel M) (e : ∀ a, a < 8 ∨ 21 < a → N a = M a) (hx : 0 ≤ x ∧ x ≤ 5) : ∃ N', f_X1_greatest n 3 x A N = some (gvS M x A, N') ∧ ∀ a, a < 13 ∨ 21 < a → N' a = N a := by
  have hN : Rel N := by
    refine Rel_off (M := M) ?_ h
    intro a k q
    rw [e a (by unfold Scr at q; omega)]
  obtain ⟨N', a1, a2⟩ := greatest_c (n := n) (M := N) (c := 3) (x := x) (A := A) hn hx (CtS_3 hN) hN.1.2.2.2.2.2.1.2.1
  refine ⟨N', ?_, a2⟩
  rw [a1]
  unfold gvS
  have eB : B2 N 3 = B2 M 3 := by funext f; unfold B2; rw [e 3 (by decide), e (3 + 1) (by decide), e (3 + 2) (by decide)]
  rw [eB, e 3 (by decide), e (3 + 4) (by decide), e (3 + 3) (by decide)]
theorem op_worth {n : Nat} {M : Mem} {x y z : Int} (hn : 1000 ≤ n) (hx : rg x) (hy : rg y) (hz : rg z) (h : Rel M) : ∃ r M1 M2, f_X5_worth n x y z M = some (r, M1) ∧ f_X6_worth n x y z M1 = some (r, M2) ∧ Rel M2 := by
  obtain ⟨c1, c2, c3, c4, ok, okb, rw0, rb⟩ := Rel_c h
  obtain ⟨o1, o2⟩ := odds_of h
  have cpg := h.1.2.2.2.2.2.2.2.1
  unfold f_X5_worth f_X6_worth f_X5_worth_24 f_X6_worth_30
  rw [isLand_c hx c1, Option.bind_some, ifbi, within_c hy (rgl 0) (rgl 5), Option.bind_some, ifbi, isFlag_c hz, Option.bind_some, ifbi]
  by_cases g0 : 0 ≤ x ∧ x ≤ M 3 4 - 1
  · rw [if_pos g0]
    by_cases g : 0 ≤ y ∧ y ≤ 5
    · rw [if_pos g]
      by_cases g2 : 0 ≤ z ∧ z ≤ 1
      · rw [if_pos (show z = 0 ∨ z = 1 by omega), possible_c (by omega) c2, Option.bind_some]
        show ∃ r M1 M2, (if wr (pbS (M 3) (M 6) (M 3 5).toNat) = 0 then _ else _) = some (r, M1) ∧ _
        rw [pbS_wr]
        obtain ⟨p, hp, ep⟩ := pb_bits (M 3) (M 6) (M 3 5).toNat (by omega)
        have hb : wr (p : Int) = (p : Int) := by rw [← ep]; exact pbS_wr _ _ _
        have e0 : ∀ N : Mem, (∀ a, 21 < a → N a = M a) → ∀ O : Option (Int × Mem), ∀ P : Int → Option (Int × Mem), ((f_X6_isLand x N).bind fun v1 => if wr v1 = 0 then O else (f_X6_in (wr y) 0 5 N).bind fun v2 => if wr v2 = 0 then O else (f_X6_in (wr z) 0 1 N).bind fun v3 => if wr v3 = 0 then O else (f_X6_canNow n N).bind P) = P (p : Int) := fun N hN O P => by
          rw [isLand_r hx (by rw [hN 46 (by decide), c3]; exact c1), Option.bind_some, hN 46 (by decide), c3, if_pos g0, if_neg w1n0, wr_rg hy, in_r hy (rgl 0) (rgl 5), Option.bind_some, if_pos g, if_neg w1n0, wr_rg hz, in_r hz (rgl 0) (rgl 1), Option.bind_some, if_pos g2, if_neg w1n0, canNow_r (by omega) (by rw [hN 46 (by decide), c4]; exact c2), hN 46 (by decide), hN 47 (by decide), hN 48 (by decide), pb_eq h, Option.bind_some, ep]
        rw [show pbS (M 3) (M (3 + 3)) (M 3 5).toNat = (p : Int) from ep]
        by_cases zz : (p : Int) = 0
        · rw [if_pos zz]
          refine ⟨-2, M, M, rfl, ?_, h⟩
          rw [e0 M (fun _ _ => rfl), hb, if_pos zz]
        · rw [if_neg zz]
          obtain ⟨i, rfl⟩ : ∃ i : Nat, x = (i : Int) := ⟨x.toNat, by omega⟩
          have hi : i < 4 := by omega
          obtain ⟨z1, z2, z3, z4, z5, z6, z7, z8⟩ := zr_at h hi
          obtain ⟨N1, a1, a2⟩ := gv_cw (n := n) (N := zrM M i) (x := y) (A := (p : Int)) hn h (fun a ha => z8 a (by omega)) g
          obtain ⟨N, d1, d2⟩ := zv_c (n := n) (i := i) (N := N1) (x := y) (A := (p : Int)) hn h hi a2 g
          have eN : ∀ a, a < 8 ∨ 21 < a → N a = M a := fun a ha => by rw [d2 a (by omega), z8 a (by omega)]
          have R0 : RefS N (M 3) (B2 M 3) (M 7) (M 6) (M 3 5).toNat := by
            unfold RefS
            rw [eN 46 (by decide), eN 47 (by decide), eN 48 (by decide)]
            exact ⟨by rw [c3]; exact c1, by rw [c4]; omega, by omega, rw0, rb, o2, fun j hj => rows_of h j hj⟩
          obtain ⟨T, b1⟩ := bestIn_r (n := n) (X := N) (a := p) (x := y) hn R0 (OkV_0 h) g hp
          have e47 : sr N 54 T 47 = M 47 := by rw [sr_ne _ _ (by decide), eN 47 (by decide)]
          have e46 : sr N 54 T 46 = M 46 := by rw [sr_ne _ _ (by decide), eN 46 (by decide)]
          generalize hX : st (st (sr N 54 T) 47 (2 * i) 0) 47 (2 * i + 1) 0 = X
          have X47 : ∀ j, X 47 j = if j = 2 * i + 1 then 0 else if j = 2 * i then 0 else M 47 j := fun j => by rw [← hX, st_at, st_at, e47]; simp
          have Xh : ∀ j, 8 ≤ j → X 47 j = M 47 j := fun j hj => by rw [X47, if_neg (by omega), if_neg (by omega)]
          have Xo : ∀ a, a ≠ 47 → X a = sr N 54 T a := fun a ha => by rw [← hX, st_ne _ _ _ ha, st_ne _ _ _ ha]
          have X46 : X 46 = M 46 := by rw [Xo 46 (by decide), e46]
          have R1 : RefS X (M 3) (zrB M i) (M 7) (M 6) (M 3 5).toNat := by
            refine ⟨by rw [X46, c3]; exact c1, by rw [X46, c4]; omega, by omega, ?_, ?_, fun j hj => ?_, fun j hj => ?_⟩
            · intro k h1 h2
              rw [← rw0 k h1 h2]
              unfold vw
              rw [Xh (0 + 14) (by omega), Xh (0 + 18) (by omega), Xh (0 + 17) (by omega), Xh (0 + k + 6) (by omega)]
            · intro f hf
              unfold Bp zrB
              rw [X46, c3]
              rcases hf with rfl | rfl
              · rw [if_neg (by decide)]
                refine hv_cong (fun j hj => ?_)
                have := (cpg j hj).1
                rw [Nat.zero_add] at this
                rw [X47, show 0 + 2 * j + (0 : Int).toNat = 2 * j by rw [Nat.zero_add]; rfl, if_neg (by omega), this]
                by_cases q : j = i
                · rw [if_pos (by omega), if_pos q]
                · rw [if_neg (by omega), if_neg q]
              · rw [if_pos rfl]
                refine hv_cong (fun j hj => ?_)
                have := (cpg j hj).2
                rw [Nat.zero_add] at this
                rw [X47, show 0 + 2 * j + (1 : Int).toNat = 2 * j + 1 by rw [Nat.zero_add]; rfl, this]
                by_cases q : j = i
                · rw [if_pos (by omega), if_pos q]
                · rw [if_neg (by omega), if_neg (by omega), if_neg q]
            · rw [X47, if_neg (by omega), if_neg (by omega)]; exact o2 j hj
            · rw [Xo 48 (by decide), sr_ne _ _ (by decide), eN 48 (by decide)]; exact rows_of h j hj
          obtain ⟨T2, b2⟩ := bestIn_r (n := n) (X := X) (a := p) (x := y) hn R1 ⟨ok, zr_ok h i, by omega, o1⟩ g hp
          generalize hZ : st (st (sr X 54 T2) 47 (2 * i) (M 47 (2 * i))) 47 (2 * i + 1) (M 47 (2 * i + 1)) = Z
          have Z47 : ∀ j, Z 47 j = M 47 j := fun j => by
            rw [← hZ, st_at, st_at, sr_ne _ _ (by decide), X47]
            by_cases q : j = 2 * i + 1
            · rw [if_pos ⟨rfl, q⟩, q]
            · rw [if_neg (fun w => q w.2)]
              by_cases q2 : j = 2 * i
              · rw [if_pos ⟨rfl, q2⟩, q2]
              · rw [if_neg (fun w => q2 w.2), if_neg q, if_neg q2]
          have Zo : ∀ a, a ≠ 47 → a ≠ 54 → Z a = N a := fun a ha hb => by rw [← hZ, st_ne _ _ _ ha, st_ne _ _ _ ha, sr_ne _ _ hb, Xo a ha, sr_ne _ _ hb]
          have Z46 : Z 46 = M 46 := by rw [Zo 46 (by decide) (by decide), eN 46 (by decide)]
          have hv := gvS_rng h (x := y) (A := (p : Int)) g
          have hzv := zvS_rng h (i := i) (x := y) (A := (p : Int)) g
          have ho := od_bits (O := M 7) (by omega) o1 hp (by omega)
          have fc := frac_c (n := n) (M := N) (a := gvS M y (p : Int) - zvS M i y (p : Int)) (b := odS (M 7) (p : Int) (M 3 5).toNat) (w := z) hn (by omega) (by omega) hz
          have fr := frac_r (n := n) (M := Z) (a := gvS M y (p : Int) - zvS M i y (p : Int)) (b := odS (M 7) (p : Int) (M 3 5).toNat) (w := z) hn (by omega) (by omega) hz
          refine ⟨frS (gvS M y (p : Int) - zvS M i y (p : Int)) (odS (M 7) (p : Int) (M 3 5).toNat) z, N, Z, ?_, ?_, Rel_off ?_ h⟩
          · unfold f_X2_yields
            rw [copy_c (by decide), Option.bind_some, wr_0, if_neg (by decide), Option.bind_some, wt_id (by omega) (by omega) (by omega), Option.bind_some, wr_1, if_pos rfl, Option.bind_some, wt_id (by omega) (by omega) (by omega), Option.bind_some, Int.toNat_natCast]
            show ((f_X1_greatest n 3 y (p : Int) (zrM M i)).bind _) = _
            rw [a1, Option.bind_some]
            dsimp only
            rw [d1, Option.bind_some]
            dsimp only
            rw [oddsOf_c (by omega) (by rw [eN 3 (by decide)]; exact c2), eN 3 (by decide), eN (3 + 4) (by decide), Option.bind_some, fc, Option.bind_some]
          · rw [e0 N (fun a ha => eN a (by omega)), hb, if_neg zz, b1, Option.bind_some]
            dsimp only
            rw [rd_id (by omega) (by omega) (by omega), Option.bind_some, rd_id (by omega) (by omega) (by omega), Option.bind_some, wt_id (by omega) (by omega) (by omega), Option.bind_some, wt_id (by omega) (by omega) (by omega), Option.bind_some, e47, show (2 * (i : Int)).toNat = 2 * i by omega, show (2 * (i : Int) + 1).toNat = 2 * i + 1 by omega, hX, b2, Option.bind_some]
            dsimp only
            rw [wt_id (by omega) (by omega) (by omega), Option.bind_some, wt_id (by omega) (by omega) (by omega), Option.bind_some, show (2 * (i : Int)).toNat = 2 * i by omega, show (2 * (i : Int) + 1).toNat = 2 * i + 1 by omega, hZ, oddsOf_r (by omega) (by rw [Z46, c4]; exact c2) (fun j hj => by rw [Z46, c4] at hj; rw [Z47, o2 j hj]; have := o1 j hj; unfold rg; omega), Z46, c4, odS_cong (P := M 7) (fun j hj => by rw [Z47, o2 j hj]), Option.bind_some]
            show (f_X6_lowest n (gvS M y (p : Int) - zvS M i y (p : Int)) (odS (M 7) (p : Int) (M 3 5).toNat) z Z).bind _ = _
            rw [fr, Option.bind_some]
          · intro a k q
            by_cases a47 : a = 47
            · subst a47; exact Z47 k
            · rw [Zo a a47 (by unfold Scr at q; omega), eN a (by unfold Scr at q; omega)]
      · rw [if_neg (show ¬ (z = 0 ∨ z = 1) by omega)]
        refine ⟨-1, M, M, rfl, ?_, h⟩
        rw [isLand_r hx (by rw [c3]; exact c1), Option.bind_some, c3, if_pos g0, if_neg w1n0, wr_rg hy, in_r hy (rgl 0) (rgl 5), Option.bind_some, if_pos g, if_neg w1n0, wr_rg hz, in_r hz (rgl 0) (rgl 1), Option.bind_some, if_neg g2, if_pos wr_0]
    · rw [if_neg g]
      refine ⟨-1, M, M, rfl, ?_, h⟩
      rw [isLand_r hx (by rw [c3]; exact c1), Option.bind_some, c3, if_pos g0, if_neg w1n0, wr_rg hy, in_r hy (rgl 0) (rgl 5), Option.bind_some, if_neg g, if_pos wr_0]
  · rw [if_neg g0]
    refine ⟨-1, M, M, rfl, ?_, h⟩
    rw [isLand_r hx (by rw [c3]; exact c1), Option.bind_some, c3, if_neg g0, if_pos wr_0]
