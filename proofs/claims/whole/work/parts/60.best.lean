/-! best, choice -/
theorem CtS_3 {M : Mem} (h : Rel M) : CtS M 3 := by
  obtain ⟨c1, c2, c3, c4, ok, okb, rw0, rb⟩ := Rel_c h
  exact ⟨Or.inl rfl, ok, okb, c1, c2, (odds_of h).1⟩
theorem OkV_0 {M : Mem} (h : Rel M) : OkV (M 3) (B2 M 3) (M 7) (M 3 5).toNat := by
  obtain ⟨c1, c2, c3, c4, ok, okb, rw0, rb⟩ := Rel_c h
  exact ⟨ok, okb, by omega, (odds_of h).1⟩
theorem RefS_0 {M N : Mem} (h : Rel M) (e : ∀ a, a < 13 ∨ 21 < a → N a = M a) : RefS N (M 3) (B2 M 3) (M 7) (M 6) (M 3 5).toNat := by
  obtain ⟨c1, c2, c3, c4, ok, okb, rw0, rb⟩ := Rel_c h
  unfold RefS
  rw [e 46 (by decide), e 47 (by decide), e 48 (by decide)]
  exact ⟨by rw [c3]; exact c1, by rw [c4]; omega, by omega, rw0, rb, (odds_of h).2, fun i hi => rows_of h i hi⟩
theorem Off_sum {M N : Mem} (e : ∀ a, a < 13 ∨ 21 < a → N a = M a) (T : Nat → Int) : Off M (sr N 54 T) := by
  intro a k q
  rw [sr_ne _ _ (by unfold Scr at q; omega), e a (by unfold Scr at q; omega)]
/-- the greatest worth of x years, by the possible readings A -/
def gvS (M : Mem) (x A : Int) : Int := vlS (M 3) (B2 M 3) (M 7) (M 6) (M 3 5).toNat (min x (8 - M 3 15)).toNat (M 3 15) A (M 3 10)
theorem gvS_rng {M : Mem} (h : Rel M) {x A : Int} (hx : 0 ≤ x ∧ x ≤ 5) : -4000000 ≤ gvS M x A ∧ gvS M x A ≤ 4000000 := by
  obtain ⟨ok, hB, hm, hO⟩ := OkV_0 h
  have h10 : 0 ≤ M 3 10 ∧ M 3 10 ≤ 40 := by unfold OkS at ok; omega
  have a := vl_rng (R := M 6) ok hB hm hO (min x (8 - M 3 15)).toNat (M 3 15) A (M 3 10) h10.1 h10.2
  have w := Wk_rng (min x (8 - M 3 15)).toNat (by omega)
  unfold gvS
  omega
theorem gv_c {n : Nat} {M N : Mem} {x A : Int} (hn : 1000 ≤ n) (h : Rel M) (e : ∀ a, a < 13 ∨ 21 < a → N a = M a) (hx : 0 ≤ x ∧ x ≤ 5) : ∃ N', f_X1_greatest n 3 x A N = some (gvS M x A, N') ∧ ∀ a, a < 13 ∨ 21 < a → N' a = M a := by
  have hN : Rel N := by
    refine Rel_off (M := M) ?_ h
    intro a k q
    rw [e a (by unfold Scr at q; omega)]
  obtain ⟨N', a1, a2⟩ := greatest_c (n := n) (M := N) (c := 3) (x := x) (A := A) hn hx (CtS_3 hN) hN.1.2.2.2.2.2.1.2.1
  refine ⟨N', ?_, fun a ha => by rw [a2 a ha, e a ha]⟩
  rw [a1]
  unfold gvS
  have eB : B2 N 3 = B2 M 3 := by funext f; unfold B2; rw [e 3 (by decide), e (3 + 1) (by decide), e (3 + 2) (by decide)]
  rw [eB, e 3 (by decide), e (3 + 4) (by decide), e (3 + 3) (by decide)]
theorem gv_r {n a : Nat} {M N : Mem} {x : Int} (hn : 1000 ≤ n) (h : Rel M) (e : ∀ a, a < 13 ∨ 21 < a → N a = M a) (hx : 0 ≤ x ∧ x ≤ 5) (ha : a < 2 ^ (M 3 5).toNat) (T : Nat → Int) : ∃ T', f_X6_bestIn n x (a : Int) (sr N 54 T) = some (gvS M x (a : Int), sr N 54 T') := by
  obtain ⟨T', b1⟩ := bestIn_r (n := n) (X := sr N 54 T) (a := a) (x := x) hn (RefS_54 (RefS_0 h e) T) (OkV_0 h) hx ha
  rw [sr_sr] at b1
  exact ⟨T', b1⟩
theorem od_c3 {n : Nat} {M N : Mem} {A : Int} (hn : 1000 ≤ n) (h : Rel M) (e : ∀ a, a < 13 ∨ 21 < a → N a = M a) : f_X2_oddsOf n 3 A N = some (odS (M 7) A (M 3 5).toNat) := by
  have c2 := (Rel_c h).2.1
  rw [oddsOf_c (by omega) (by rw [e 3 (by decide)]; exact c2), e 3 (by decide), e (3 + 4) (by decide)]
theorem od_r3 {n : Nat} {M N : Mem} {A : Int} (hn : 1000 ≤ n) (h : Rel M) (e : ∀ a, a < 13 ∨ 21 < a → N a = M a) (T : Nat → Int) : f_X6_oddsOf n A (sr N 54 T) = some (odS (M 7) A (M 3 5).toNat) := by
  obtain ⟨c1, c2, c3, c4, ok, okb, rw0, rb⟩ := Rel_c h
  obtain ⟨o1, o2⟩ := odds_of h
  have e46 : sr N 54 T 46 = M 46 := by rw [sr_ne _ _ (by decide), e 46 (by decide)]
  have e47 : sr N 54 T 47 = M 47 := by rw [sr_ne _ _ (by decide), e 47 (by decide)]
  rw [oddsOf_r (by omega) (by rw [e46, c4]; exact c2) (fun i hi => by rw [e46, c4] at hi; rw [e47, o2 i hi]; have := o1 i hi; unfold rg; omega), e46, e47, c4, odS_cong o2]
theorem cn_r3 {n : Nat} {M N : Mem} (hn : 1000 ≤ n) (h : Rel M) (e : ∀ a, a < 13 ∨ 21 < a → N a = M a) : f_X6_canNow n N = some (pbS (M 3) (M 6) (M 3 5).toNat) := by
  obtain ⟨c1, c2, c3, c4, ok, okb, rw0, rb⟩ := Rel_c h
  rw [canNow_r (by omega) (by rw [e 46 (by decide), c4]; exact c2), e 46 (by decide), e 47 (by decide), e 48 (by decide), pb_eq h]
theorem op_best {n : Nat} {M : Mem} {x y : Int} (hn : 1000 ≤ n) (hx : rg x) (hy : rg y) (h : Rel M) : ∃ r M1 M2, f_X5_best n x y M = some (r, M1) ∧ f_X6_best n x y M1 = some (r, M2) ∧ Rel M2 := by
  obtain ⟨c1, c2, c3, c4, ok, okb, rw0, rb⟩ := Rel_c h
  obtain ⟨o1, o2⟩ := odds_of h
  unfold f_X5_best f_X6_best f_X5_best_16 f_X6_best_22
  rw [within_c hx (rgl 0) (rgl 5), Option.bind_some, ifbi, isFlag_c hy, Option.bind_some, ifbi]
  by_cases g : 0 ≤ x ∧ x ≤ 5
  · rw [if_pos g]
    by_cases g2 : 0 ≤ y ∧ y ≤ 1
    · rw [if_pos (show y = 0 ∨ y = 1 by omega), possible_c (by omega) c2, Option.bind_some]
      show ∃ r M1 M2, (if wr (pbS (M 3) (M 6) (M 3 5).toNat) = 0 then _ else _) = some (r, M1) ∧ _
      rw [pbS_wr]
      obtain ⟨p, hp, ep⟩ := pb_bits (M 3) (M 6) (M 3 5).toNat (by omega)
      have e0 : ∀ N : Mem, (∀ a, a < 13 ∨ 21 < a → N a = M a) → ∀ O : Option (Int × Mem), ∀ P : Int → Option (Int × Mem), ((f_X6_in (wr x) 0 5 N).bind fun v1 => if wr v1 = 0 then O else (f_X6_in (wr y) 0 1 N).bind fun v2 => if wr v2 = 0 then O else (f_X6_canNow n N).bind P) = P (p : Int) := fun N hN O P => by
        rw [wr_rg hx, in_r hx (rgl 0) (rgl 5), Option.bind_some, if_pos g, if_neg w1n0, wr_rg hy, in_r hy (rgl 0) (rgl 1), Option.bind_some, if_pos g2, if_neg w1n0, cn_r3 hn h hN, Option.bind_some, ep]
      rw [ep]
      by_cases z : (p : Int) = 0
      · rw [if_pos z]
        refine ⟨-2, M, M, rfl, ?_, h⟩
        rw [e0 M (fun _ _ => rfl), wr_id (by omega) (by omega), if_pos z]
      · rw [if_neg z]
        obtain ⟨N, a1, a2⟩ := gv_c (n := n) (x := x) (A := (p : Int)) hn h (fun _ _ => rfl) g
        obtain ⟨T, b1⟩ := gv_r (n := n) (a := p) (x := x) hn h a2 g hp (N 54)
        rw [sr_self] at b1
        have hv := gvS_rng h (x := x) (A := (p : Int)) g
        have ho := od_bits (O := M 7) (by omega) o1 hp (by omega)
        have fc := frac_c (n := n) (M := N) (a := gvS M x (p : Int)) (b := odS (M 7) (p : Int) (M 3 5).toNat) (w := y) hn (by omega) (by omega) hy
        have fr := frac_r (n := n) (M := sr N 54 T) (a := gvS M x (p : Int)) (b := odS (M 7) (p : Int) (M 3 5).toNat) (w := y) hn (by omega) (by omega) hy
        have hb : wr (p : Int) = (p : Int) := by rw [← ep]; exact pbS_wr _ _ _
        refine ⟨frS (gvS M x (p : Int)) (odS (M 7) (p : Int) (M 3 5).toNat) y, N, sr N 54 T, ?_, ?_, Rel_off (Off_sum a2 T) h⟩
        · rw [a1, Option.bind_some]
          dsimp only
          rw [od_c3 hn h a2, Option.bind_some, fc, Option.bind_some]
        · rw [e0 N a2, hb, if_neg z, b1, Option.bind_some]
          dsimp only
          rw [od_r3 hn h a2, Option.bind_some, fr, Option.bind_some]
    · rw [if_neg (show ¬ (y = 0 ∨ y = 1) by omega)]
      refine ⟨-1, M, M, rfl, ?_, h⟩
      rw [wr_rg hx, in_r hx (rgl 0) (rgl 5), Option.bind_some, if_pos g, if_neg w1n0, wr_rg hy, in_r hy (rgl 0) (rgl 1), Option.bind_some, if_neg g2, if_pos wr_0]
  · rw [if_neg g]
    refine ⟨-1, M, M, rfl, ?_, h⟩
    rw [wr_rg hx, in_r hx (rgl 0) (rgl 5), Option.bind_some, if_neg g, if_pos wr_0]
