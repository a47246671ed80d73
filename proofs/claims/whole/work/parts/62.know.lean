/-! knowing -/
theorem shl_i : ∀ i : Fin 4, bShl 1 (i.val : Int) = ((2 ^ i.val : Nat) : Int) := by decide +kernel
def knS (M : Mem) (x A : Int) : Nat → Int
  | 0 => 0
  | i + 1 => if bt A (i : Int) = 1 then knS M x A i + gvS M x (bShl 1 (i : Int)) else knS M x A i
theorem knS_rng {M : Mem} (h : Rel M) {x A : Int} (hx : 0 ≤ x ∧ x ≤ 5) : ∀ i : Nat, -(4000000 * (i : Int)) ≤ knS M x A i ∧ knS M x A i ≤ 4000000 * (i : Int)
  | 0 => by unfold knS; omega
  | i + 1 => by
    have a := knS_rng h (A := A) hx i
    have b := gvS_rng h (A := bShl 1 (i : Int)) hx
    rw [knS]; split <;> omega
theorem know_c {n0 : Nat} {M : Mem} {x y A : Int} (hn0 : 1000 ≤ n0) (h : Rel M) (hx : 0 ≤ x ∧ x ≤ 5) : ∀ (t n i : Nat) (N : Mem), t < n → i + t = (M 3 5).toNat → (∀ a, a < 13 ∨ 21 < a → N a = M a) → ∃ N', lp (fun s => f_X5_knowing_42 n0 x y A s.1 s.2.1 s.2.2) n (knS M x A i, (i : Int), N) = f_X5_knowing_90 n0 x y A (knS M x A (M 3 5).toNat) N' ∧ ∀ a, a < 13 ∨ 21 < a → N' a = M a := by
  have c2 := (Rel_c h).2.1
  intro t
  induction t with
  | zero =>
    intro n i N hn hi e
    obtain ⟨m, rfl⟩ : ∃ m, n = m + 1 := ⟨n - 1, by omega⟩
    have : i = (M 3 5).toNat := by omega
    subst this
    refine ⟨N, ?_, e⟩
    refine lp_map (f := fun s => f_X5_knowing_42 n0 x y A s.1 s.2.1 s.2.2) (s := (knS M x A (M 3 5).toNat, ((M 3 5).toNat : Int), N)) ?_
    show f_X5_knowing_42 n0 x y A (knS M x A (M 3 5).toNat) ((M 3 5).toNat : Int) N = _
    unfold f_X5_knowing_42
    rw [e 3 (by decide), wr_id (x := M 3 5) (by omega) (by omega), wr_id (x := ((M 3 5).toNat : Int)) (by omega) (by omega), if_pos (by omega)]
  | succ t ih =>
    intro n i N hn hi e
    obtain ⟨m, rfl⟩ : ∃ m, n = m + 1 := ⟨n - 1, by omega⟩
    have eh : f_X5_has A (i : Int) N = some (if bt A (i : Int) = 1 then 1 else 0) := by
      unfold f_X5_has
      show (if wr (bt A (i : Int)) = 1 then _ else _) = _
      rw [wr_bt]; split <;> rfl
    by_cases q : bt A (i : Int) = 1
    · obtain ⟨N1, a1, a2⟩ := gv_c (n := n0) (x := x) (A := bShl 1 (i : Int)) hn0 h e hx
      have e1 : f_X5_knowing_42 n0 x y A (knS M x A i) (i : Int) N = some (.inl (knS M x A (i + 1), (i : Int) + 1, N1)) := by
        unfold f_X5_knowing_42 f_X5_knowing_84
        rw [e 3 (by decide), wr_id (x := M 3 5) (by omega) (by omega), wr_id (x := (i : Int)) (by omega) (by omega), if_neg (by omega), eh, Option.bind_some, if_pos q, if_neg w1n0, a1, Option.bind_some, knS, if_pos q]
      obtain ⟨N', b1, b2⟩ := ih m (i + 1) N1 (by omega) (by omega) a2
      refine ⟨N', ?_, b2⟩
      rw [lp_succ (f := fun s => f_X5_knowing_42 n0 x y A s.1 s.2.1 s.2.2) (s := (knS M x A i, (i : Int), N)) e1]
      exact b1
    · have e1 : f_X5_knowing_42 n0 x y A (knS M x A i) (i : Int) N = some (.inl (knS M x A (i + 1), (i : Int) + 1, N)) := by
        unfold f_X5_knowing_42 f_X5_knowing_84
        rw [e 3 (by decide), wr_id (x := M 3 5) (by omega) (by omega), wr_id (x := (i : Int)) (by omega) (by omega), if_neg (by omega), eh, Option.bind_some, if_neg q, if_pos wr_0, knS, if_neg q]
      obtain ⟨N', b1, b2⟩ := ih m (i + 1) N (by omega) (by omega) e
      refine ⟨N', ?_, b2⟩
      rw [lp_succ (f := fun s => f_X5_knowing_42 n0 x y A s.1 s.2.1 s.2.2) (s := (knS M x A i, (i : Int), N)) e1]
      exact b1
theorem know_r {n0 : Nat} {M N : Mem} {x y A v : Int} (hn0 : 1000 ≤ n0) (h : Rel M) (hx : 0 ≤ x ∧ x ≤ 5) (e : ∀ a, a < 13 ∨ 21 < a → N a = M a) : ∀ (t n i : Nat) (T : Nat → Int), t < n → i + t = (M 3 5).toNat → ∃ T', lp (fun s => f_X6_knowing_51 n0 x y A s.1 s.2.1 s.2.2) n (-v + knS M x A i, (i : Int), sr N 54 T) = f_X6_knowing_94 n0 y A (-v + knS M x A (M 3 5).toNat) (sr N 54 T') := by
  obtain ⟨c1, c2, c3, c4, ok, okb, rw0, rb⟩ := Rel_c h
  have e46 : ∀ T, sr N 54 T 46 = M 46 := fun T => by rw [sr_ne _ _ (by decide), e 46 (by decide)]
  intro t
  induction t with
  | zero =>
    intro n i T hn hi
    obtain ⟨m, rfl⟩ : ∃ m, n = m + 1 := ⟨n - 1, by omega⟩
    have : i = (M 3 5).toNat := by omega
    subst this
    refine ⟨T, ?_⟩
    refine lp_map (f := fun s => f_X6_knowing_51 n0 x y A s.1 s.2.1 s.2.2) (s := (-v + knS M x A (M 3 5).toNat, ((M 3 5).toNat : Int), sr N 54 T)) ?_
    show f_X6_knowing_51 n0 x y A (-v + knS M x A (M 3 5).toNat) ((M 3 5).toNat : Int) (sr N 54 T) = _
    unfold f_X6_knowing_51
    rw [e46, c4, wr_id (x := M 3 5) (by omega) (by omega), wr_id (x := ((M 3 5).toNat : Int)) (by omega) (by omega), if_pos (by omega)]
  | succ t ih =>
    intro n i T hn hi
    obtain ⟨m, rfl⟩ : ∃ m, n = m + 1 := ⟨n - 1, by omega⟩
    by_cases q : bt A (i : Int) = 1
    · have hs := shl_i ⟨i, by omega⟩
      dsimp only at hs
      have hp : 2 ^ i < 2 ^ (M 3 5).toNat := Nat.pow_lt_pow_right (by decide) (by omega)
      obtain ⟨T1, a1⟩ := gv_r (n := n0) (a := 2 ^ i) (x := x) hn0 h e hx hp T
      rw [← hs] at a1
      have e1 : f_X6_knowing_51 n0 x y A (-v + knS M x A i) (i : Int) (sr N 54 T) = some (.inl (-v + knS M x A (i + 1), (i : Int) + 1, sr N 54 T1)) := by
        unfold f_X6_knowing_51 f_X6_knowing_85
        rw [e46, c4, wr_id (x := M 3 5) (by omega) (by omega), wr_id (x := (i : Int)) (by omega) (by omega), if_neg (by omega)]
        show (if wr (bt A (i : Int)) = 1 then _ else _) = _
        rw [wr_bt, if_pos q, a1, Option.bind_some, knS, if_pos q]
        dsimp only
        rw [Int.add_assoc]
      obtain ⟨T', b1⟩ := ih m (i + 1) T1 (by omega) (by omega)
      refine ⟨T', ?_⟩
      rw [lp_succ (f := fun s => f_X6_knowing_51 n0 x y A s.1 s.2.1 s.2.2) (s := (-v + knS M x A i, (i : Int), sr N 54 T)) e1]
      exact b1
    · have e1 : f_X6_knowing_51 n0 x y A (-v + knS M x A i) (i : Int) (sr N 54 T) = some (.inl (-v + knS M x A (i + 1), (i : Int) + 1, sr N 54 T)) := by
        unfold f_X6_knowing_51 f_X6_knowing_85
        rw [e46, c4, wr_id (x := M 3 5) (by omega) (by omega), wr_id (x := (i : Int)) (by omega) (by omega), if_neg (by omega)]
        show (if wr (bt A (i : Int)) = 1 then _ else _) = _
        rw [wr_bt, if_neg q, knS, if_neg q, Int.add_zero]
      obtain ⟨T', b1⟩ := ih m (i + 1) T (by omega) (by omega)
      refine ⟨T', ?_⟩
      rw [lp_succ (f := fun s => f_X6_knowing_51 n0 x y A s.1 s.2.1 s.2.2) (s := (-v + knS M x A i, (i : Int), sr N 54 T)) e1]
      exact b1
theorem op_knowing {n : Nat} {M : Mem} {x y : Int} (hn : 1000 ≤ n) (hx : rg x) (hy : rg y) (h : Rel M) : ∃ r M1 M2, f_X5_knowing n x y M = some (r, M1) ∧ f_X6_knowing n x y M1 = some (r, M2) ∧ Rel M2 := by
  obtain ⟨c1, c2, c3, c4, ok, okb, rw0, rb⟩ := Rel_c h
  obtain ⟨o1, o2⟩ := odds_of h
  unfold f_X5_knowing f_X6_knowing f_X5_knowing_16 f_X6_knowing_22
  rw [within_c hx (rgl 0) (rgl 5), Option.bind_some, ifbi, isFlag_c hy, Option.bind_some, ifbi]
  by_cases g : 0 ≤ x ∧ x ≤ 5
  · rw [if_pos g]
    by_cases g2 : 0 ≤ y ∧ y ≤ 1
    · rw [if_pos (show y = 0 ∨ y = 1 by omega), possible_c (by omega) c2, Option.bind_some]
      show ∃ r M1 M2, (if wr (pbS (M 3) (M 6) (M 3 5).toNat) = 0 then _ else _) = some (r, M1) ∧ _
      rw [pbS_wr]
      obtain ⟨p, hp, ep⟩ := pb_bits (M 3) (M 6) (M 3 5).toNat (by omega)
      have hb : wr (p : Int) = (p : Int) := by rw [← ep]; exact pbS_wr _ _ _
      have e0 : ∀ N : Mem, (∀ a, a < 13 ∨ 21 < a → N a = M a) → ∀ O : Option (Int × Mem), ∀ P : Int → Option (Int × Mem), ((f_X6_in (wr x) 0 5 N).bind fun v1 => if wr v1 = 0 then O else (f_X6_in (wr y) 0 1 N).bind fun v2 => if wr v2 = 0 then O else (f_X6_canNow n N).bind P) = P (p : Int) := fun N hN O P => by
        rw [wr_rg hx, in_r hx (rgl 0) (rgl 5), Option.bind_some, if_pos g, if_neg w1n0, wr_rg hy, in_r hy (rgl 0) (rgl 1), Option.bind_some, if_pos g2, if_neg w1n0, cn_r3 hn h hN, Option.bind_some, ep]
      rw [show pbS (M 3) (M (3 + 3)) (M 3 5).toNat = (p : Int) from ep]
      by_cases z : (p : Int) = 0
      · rw [if_pos z]
        refine ⟨-2, M, M, rfl, ?_, h⟩
        rw [e0 M (fun _ _ => rfl), hb, if_pos z]
      · rw [if_neg z]
        obtain ⟨N0, a1, a2⟩ := know_c (n0 := n) (x := x) (y := y) (A := (p : Int)) hn h g (M 3 5).toNat n 0 M (by omega) (by omega) (fun _ _ => rfl)
        obtain ⟨N, d1, d2⟩ := gv_c (n := n) (x := x) (A := (p : Int)) hn h a2 g
        obtain ⟨T, b1⟩ := gv_r (n := n) (a := p) (x := x) hn h d2 g hp (N 54)
        rw [sr_self] at b1
        obtain ⟨T', b2⟩ := know_r (n0 := n) (N := N) (x := x) (y := y) (A := (p : Int)) (v := gvS M x (p : Int)) hn h g d2 (M 3 5).toNat n 0 T (by omega) (by omega)
        have hv := gvS_rng h (x := x) (A := (p : Int)) g
        have hkn := knS_rng h (x := x) (A := (p : Int)) g (M 3 5).toNat
        have ho := od_bits (O := M 7) (by omega) o1 hp (by omega)
        have fc := frac_c (n := n) (M := N) (a := knS M x (p : Int) (M 3 5).toNat - gvS M x (p : Int)) (b := odS (M 7) (p : Int) (M 3 5).toNat) (w := y) hn (by omega) (by omega) hy
        have fr := frac_r (n := n) (M := sr N 54 T') (a := knS M x (p : Int) (M 3 5).toNat - gvS M x (p : Int)) (b := odS (M 7) (p : Int) (M 3 5).toNat) (w := y) hn (by omega) (by omega) hy
        refine ⟨frS (knS M x (p : Int) (M 3 5).toNat - gvS M x (p : Int)) (odS (M 7) (p : Int) (M 3 5).toNat) y, N, sr N 54 T', ?_, ?_, Rel_off (Off_sum d2 T') h⟩
        · refine a1.trans ?_
          unfold f_X5_knowing_90
          rw [d1, Option.bind_some]
          dsimp only
          rw [od_c3 hn h d2, Option.bind_some, fc, Option.bind_some]
        · rw [e0 N d2, hb, if_neg z, b1, Option.bind_some]
          dsimp only
          have b2' : lp (fun s => f_X6_knowing_51 n x y (p : Int) s.1 s.2.1 s.2.2) n (-gvS M x (p : Int), 0, sr N 54 T) = f_X6_knowing_94 n y (p : Int) (-gvS M x (p : Int) + knS M x (p : Int) (M 3 5).toNat) (sr N 54 T') := by
            rw [show -gvS M x (p : Int) + knS M x (p : Int) 0 = -gvS M x (p : Int) from Int.add_zero _] at b2
            exact b2
          rw [b2']
          unfold f_X6_knowing_94
          rw [od_r3 hn h d2, Option.bind_some, show -gvS M x (p : Int) + knS M x (p : Int) (M 3 5).toNat = knS M x (p : Int) (M 3 5).toNat - gvS M x (p : Int) by omega, fr, Option.bind_some]
    · rw [if_neg (show ¬ (y = 0 ∨ y = 1) by omega)]
      refine ⟨-1, M, M, rfl, ?_, h⟩
      rw [wr_rg hx, in_r hx (rgl 0) (rgl 5), Option.bind_some, if_pos g, if_neg w1n0, wr_rg hy, in_r hy (rgl 0) (rgl 1), Option.bind_some, if_neg g2, if_pos wr_0]
  · rw [if_neg g]
    refine ⟨-1, M, M, rfl, ?_, h⟩
    rw [wr_rg hx, in_r hx (rgl 0) (rgl 5), Option.bind_some, if_neg g, if_pos wr_0]
