theorem op_choice {n : Nat} {M : Mem} {x y : Int} (hn : 1000 ≤ n) (hx : rg x) (hy : rg y) (h : Rel M) : ∃ r M1 M2, f_X5_choice n x y M = some (r, M1) ∧ f_X6_choice n x y M1 = some (r, M2) ∧ Rel M2 := by
  obtain ⟨c1, c2, c3, c4, ok, okb, rw0, rb⟩ := Rel_c h
  obtain ⟨o1, o2⟩ := odds_of h
  have h8 : 0 ≤ M 3 8 ∧ M 3 8 ≤ 40 := by unfold OkS at ok; omega
  have h10 : 0 ≤ M 3 10 ∧ M 3 10 ≤ 40 := by unfold OkS at ok; omega
  have h15 : 0 ≤ M 3 15 ∧ M 3 15 ≤ 8 := by unfold OkS at ok; omega
  unfold f_X5_choice f_X6_choice
  rw [within_c hx (rgl 1) (rgl 5), Option.bind_some, ifbi, isFlag_c hy, Option.bind_some, ifbi]
  by_cases g : 1 ≤ x ∧ x ≤ 5
  · rw [if_pos g]
    by_cases g2 : y = 0 ∨ y = 1
    · rw [if_pos g2, possible_c (by omega) c2, Option.bind_some]
      show ∃ r M1 M2, (if wr (pbS (M 3) (M 6) (M 3 5).toNat) = 0 then _ else _) = some (r, M1) ∧ _
      rw [pbS_wr]
      obtain ⟨p, hp, ep⟩ := pb_bits (M 3) (M 6) (M 3 5).toNat (by omega)
      have hb : wr (p : Int) = (p : Int) := by rw [← ep]; exact pbS_wr _ _ _
      have e0 : ∀ N : Mem, (∀ a, a < 13 ∨ 21 < a → N a = M a) → ∀ O : Option (Int × Mem), ∀ P : Int → Option (Int × Mem), ((f_X6_in (wr x) 1 5 N).bind fun v1 => if wr v1 = 0 then O else (f_X6_isFat y N).bind fun v2 => if wr v2 = 0 then O else (f_X6_canNow n N).bind P) = P (p : Int) := fun N hN O P => by
        rw [wr_rg hx, in_r hx (rgl 1) (rgl 5), Option.bind_some, if_pos g, if_neg w1n0, isFat_r hy, Option.bind_some, if_pos g2, if_neg w1n0, cn_r3 hn h hN, Option.bind_some, ep]
      rw [ep]
      by_cases z : (p : Int) = 0
      · rw [if_pos z]
        refine ⟨-2, M, M, rfl, ?_, h⟩
        rw [e0 M (fun _ _ => rfl), hb, if_pos z]
      · have e21 : ∀ N : Mem, (∀ a, a < 13 ∨ 21 < a → N a = M a) → N 47 21 = M 3 15 := fun N hN => by rw [hN 47 (by decide), ← rw0 15 (by decide) (by decide), vw_15]
        rw [if_neg z, isOver_c h15, Option.bind_some]
        by_cases ho : M 3 15 < 8
        · rw [if_pos ho, if_pos wr_0, telling_c (by omega) c2 g2, Option.bind_some, tlS_wr]
          obtain ⟨a, ha, ea⟩ := tlS_nat (R := M 6) (A := (p : Int)) (y := M 3 15) (f := y) (M 3 5).toNat (by omega)
          have eA : ∀ N : Mem, (∀ a, a < 13 ∨ 21 < a → N a = M a) → f_X6_areSo n (p : Int) (M 3 15) y N = some (a : Int) := fun N hN => by
            rw [areSo_r (by omega) (by rw [hN 46 (by decide), c4]; exact c2) g2, hN 46 (by decide), hN 48 (by decide), c4, tlS_cong (fun i hi => rows_of h i hi), ea]
          rw [show tlS (M (3 + 3)) (p : Int) (M 3 15) y (M 3 5).toNat = (a : Int) from ea]
          have hab : wr (a : Int) = (a : Int) := by rw [← ea]; exact tlS_wr _ _ _ _ _
          by_cases z2 : (a : Int) = 0
          · rw [if_pos z2]
            refine ⟨-4, M, M, rfl, ?_, h⟩
            rw [e0 M (fun _ _ => rfl), hb, if_neg z, e21 M (fun _ _ => rfl), wr_id (x := M 3 15) (by omega) (by omega), if_neg (by omega), eA M (fun _ _ => rfl), Option.bind_some, hab, if_pos z2]
          · rw [if_neg z2]
            obtain ⟨N, a1, a2⟩ := least_choice_c (n := n) (M := M) (c := 3) (x := x) (are := (a : Int)) (f := y) hn g (CtS_3 h) ho g2
            obtain ⟨ok', hB', hm', hO'⟩ := OkV_0 h
            have R0 := RefS_0 h a2
            obtain ⟨T, b1, b2⟩ := lay_r (n := n) (X := N) (Y := (min x (8 - M 3 15)).toNat) hn R0 (OkV_0 h) (by omega)
            obtain ⟨k, hk⟩ : ∃ k : Nat, (min x (8 - M 3 15)).toNat = k + 1 := ⟨(min x (8 - M 3 15)).toNat - 1, by omega⟩
            rw [hk, show k + 1 - 1 = k by omega] at a1
            rw [hk] at b1 b2
            have RT := RefS_54 R0 T
            have hT : TbR (sr N 54 T 54) (M 3 5).toNat k (vlS (M 3) (B2 M 3) (M 7) (M 6) (M 3 5).toNat k (M 3 15 + 1)) := by
              rw [sr_same]
              have := b2 k (by omega)
              rw [show M 3 15 + ((k + 1 : Nat) : Int) - (k : Int) = M 3 15 + 1 by omega] at this
              exact this
            have vr := vl_rng (R := M 6) ok' hB' hm' hO' k
            have Wr := Wk_rng k (by omega)
            have bs := bestSo_r (n := n) (X := sr N 54 T) (k := k) (v := vlS (M 3) (B2 M 3) (M 7) (M 6) (M 3 5).toNat k (M 3 15 + 1)) (W := Wk k) (y := M 3 15) (A := (p : Int)) (s := M 3 10) (f := y) hn RT (OkV_0 h) (by omega) hT h10 g2 Wr (fun a s q1 q2 => ⟨(vr _ a s q1 q2).1, (vr _ a s q1 q2).2.1⟩)
            have ev : vbS (M 3) (B2 M 3) (M 7) (M 6) (M 3 5).toNat (vlS (M 3) (B2 M 3) (M 7) (M 6) (M 3 5).toNat k (M 3 15 + 1)) (M 3 15) (p : Int) (M 3 10) y = mxB (bkS (M 3) (B2 M 3) (M 7) (M 3 5).toNat (vlS (M 3) (B2 M 3) (M 7) (M 6) (M 3 5).toNat k (M 3 15 + 1)) (a : Int) (M 3 10) y) (min (M 3 8) (lfX (M 3) (B2 M 3) (M 3 10) y)).toNat := by
              unfold vbS; rw [ea, if_neg z2]
            rw [ev] at bs
            have hl : 0 ≤ lfX (M 3) (B2 M 3) (M 3 10) y := by unfold lfX; omega
            obtain ⟨t, ht⟩ : ∃ t : Nat, min (M 3 8) (lfX (M 3) (B2 M 3) (M 3 10) y) = (t : Int) := ⟨(min (M 3 8) (lfX (M 3) (B2 M 3) (M 3 10) y)).toNat, by omega⟩
            have bk : ∀ i : Nat, i ≤ t → f_X6_byKept n (M 3 15) ((k + 1 : Nat) : Int) (a : Int) (M 3 10) y (i : Int) (sr N 54 T) = some (bkS (M 3) (B2 M 3) (M 7) (M 3 5).toNat (vlS (M 3) (B2 M 3) (M 7) (M 6) (M 3 5).toNat k (M 3 15 + 1)) (a : Int) (M 3 10) y i) := fun i hi => byKept_r hn RT (OkV_0 h) (by omega) ha hT h10 g2 (by omega)
            have br : ∀ i : Nat, i ≤ t → -(60000 + Wk k) ≤ bkS (M 3) (B2 M 3) (M 7) (M 3 5).toNat (vlS (M 3) (B2 M 3) (M 7) (M 6) (M 3 5).toNat k (M 3 15 + 1)) (a : Int) (M 3 10) y i ∧ bkS (M 3) (B2 M 3) (M 7) (M 3 5).toNat (vlS (M 3) (B2 M 3) (M 7) (M 6) (M 3 5).toNat k (M 3 15 + 1)) (a : Int) (M 3 10) y i ≤ 60000 + Wk k := fun i hi => bk_rng ok' hB' hm' hO' g2 h10 (fun a s q1 q2 => ⟨(vr _ a s q1 q2).1, (vr _ a s q1 q2).2.1⟩) (by omega)
            have a1' : f_X1_leastChoice n 3 x (a : Int) y M = some ((amB (bkS (M 3) (B2 M 3) (M 7) (M 3 5).toNat (vlS (M 3) (B2 M 3) (M 7) (M 6) (M 3 5).toNat k (M 3 15 + 1)) (a : Int) (M 3 10) y) (min (M 3 8) (lfX (M 3) (B2 M 3) (M 3 10) y)).toNat : Int), N) := a1
            rw [ht, Int.toNat_natCast] at bs a1'
            generalize bkS (M 3) (B2 M 3) (M 7) (M 3 5).toNat (vlS (M 3) (B2 M 3) (M 7) (M 6) (M 3 5).toNat k (M 3 15 + 1)) (a : Int) (M 3 10) y = G at bs bk br a1'
            have hal := amB_le G t
            have hmx := mxB_rng (g := G) (t := t) (fun j hj => br j hj)
            have f16 : sr N 54 T 47 16 = M 3 10 := by rw [sr_ne _ _ (by decide), a2 47 (by decide), ← rw0 10 (by decide) (by decide), vw_10]
            have f21 : sr N 54 T 47 21 = M 3 15 := by rw [sr_ne _ _ (by decide)]; exact e21 N a2
            refine ⟨(amB G t : Int), N, sr N 54 T, ?_, ?_, Rel_off (Off_sum a2 T) h⟩
            · rw [a1', Option.bind_some]
            · rw [e0 N a2, hb, if_neg z, e21 N a2, wr_id (x := M 3 15) (by omega) (by omega), if_neg (by omega), eA N a2, Option.bind_some, hab, if_neg z2, years_r (e21 N a2) (by omega) h15, Option.bind_some, hk, b1, Option.bind_some, f21, f16, bs, Option.bind_some]
              refine lp_run0 (f := fun s => f_X6_choice_108 n y (a : Int) ((k + 1 : Nat) : Int) (mxB G t) s (sr N 54 T)) (fun i => (i : Int)) (amB G t) (by omega) (fun i hi => ?_) ?_
              · show f_X6_choice_108 n y (a : Int) ((k + 1 : Nat) : Int) (mxB G t) (i : Int) (sr N 54 T) = some (Sum.inl ((i : Int) + 1))
                have lt := amB_lt G t i hi
                have b := br i (by omega)
                unfold f_X6_choice_108
                rw [f21, f16, bk i (by omega), Option.bind_some, wl_id (x := G i) (by omega) (by omega), wl_id (x := mxB G t) (by omega) (by omega), if_neg (by omega)]
              · show f_X6_choice_108 n y (a : Int) ((k + 1 : Nat) : Int) (mxB G t) (amB G t : Int) (sr N 54 T) = _
                have em := amB_mx G t
                unfold f_X6_choice_108
                rw [f21, f16, bk _ hal, Option.bind_some, em, if_pos rfl]
        · rw [if_neg ho, if_neg w1n0]
          refine ⟨-2, M, M, rfl, ?_, h⟩
          rw [e0 M (fun _ _ => rfl), hb, if_neg z, e21 M (fun _ _ => rfl), wr_id (x := M 3 15) (by omega) (by omega), if_pos (by omega)]
    · rw [if_neg g2]
      refine ⟨-1, M, M, rfl, ?_, h⟩
      rw [wr_rg hx, in_r hx (rgl 1) (rgl 5), Option.bind_some, if_pos g, if_neg w1n0, isFat_r hy, Option.bind_some, if_neg g2, if_pos wr_0]
  · rw [if_neg g]
    refine ⟨-1, M, M, rfl, ?_, h⟩
    rw [wr_rg hx, in_r hx (rgl 1) (rgl 5), Option.bind_some, if_neg g, if_pos wr_0]
