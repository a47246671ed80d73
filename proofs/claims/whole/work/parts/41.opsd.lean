/-! years that are only tried -/
/-- the trial court, just copied -/
theorem cp8 {M : Mem} (h : Rel M) : Rw (cpS M 8 3 8) (M 3) ∧ OkS (cpS M 8 3 8) ∧ B2 (cpS M 8 3) 8 = B2 M 3 ∧ cpS M 8 3 8 4 = M 3 4 ∧ cpS M 8 3 8 5 = M 3 5 ∧ (∀ r, r < 4 → cpS M 8 3 11 r = M 6 r) ∧ (∀ a, a < 8 ∨ 12 < a → cpS M 8 3 a = M a) := by
  obtain ⟨c1, c2, c3, c4, ok, okb, rw0, rb⟩ := Rel_c h
  have e : Rw (cpS M 8 3 8) (M 3) := fun k h1 h2 => cpS_s M 8 3 k (by omega)
  exact ⟨e, OkS_rw e.symm ok, B2_cp c1, cpS_s M 8 3 4 (by decide), cpS_s M 8 3 5 (by decide), fun r hr => cpS_a (j := 8) (q := 3) (i := 3) (by decide) hr, fun a ha => cpS_o (by omega)⟩
theorem Off_cp (M : Mem) : Off M (cpS M 8 3) := by
  intro a k q
  rw [cpS_o (by unfold Scr at q; omega)]
theorem Off_cp8 (M : Mem) (S : Nat → Int) : Off M (sr (cpS M 8 3) 8 S) := Off.trans (Off_cp M) (Off_sr (fun k q => absurd (Or.inl (by omega)) q))
theorem Off_47 {M : Mem} {r : Nat → Int} (h : ∀ k, k < 75 → r k = M 47 k) : Off M (sr M 47 r) := Off_sr (fun k q => h k (by unfold Scr at q; omega))
/-- the page 100, just copied from the page 0 -/
theorem pg100 {M N : Mem} (h : Rel M) (e46 : N 46 1 = M 46 1) (e47 : N 47 = M 47) : PgR (cr (N 47) 0 100 25) (N 46 1).toNat (M 3) (B2 M 3) := by
  obtain ⟨c1, c2, c3, c4, ok, okb, rw0, rb⟩ := Rel_c h
  rw [e46, e47]
  exact ⟨Rw.trans (vw_cr _ 0 100) rw0, fun f hf => (Bp_cr (by rw [c3]; omega) f hf).trans (rb f hf)⟩
theorem PgR_at {r : Nat → Int} {L : Nat} {S : Nat → Int} {B : Int → Int} (h : PgR r L S B) : r 116 = S 10 ∧ r 123 = S 17 ∧ r 124 = S 18 ∧ r 121 = S 15 :=
  ⟨by rw [← vw_10 r 100]; exact h.1 10 (by decide) (by decide), by rw [← vw_17 r 100]; exact h.1 17 (by decide) (by decide), by rw [← vw_18 r 100]; exact h.1 18 (by decide) (by decide), by rw [← vw_15 r 100]; exact h.1 15 (by decide) (by decide)⟩
theorem copies0 {n b : Nat} {M : Mem} (hn : 26 ≤ n) (hb : 25 ≤ b ∧ b ≤ 100) : f_X6_copies n 0 b M = some (sr M 47 (cr (M 47) 0 b 25)) := copies_r (a := 0) hn (by decide) hb.2 (by omega)
theorem op_ahead {n : Nat} {M : Mem} {x y z : Int} (hn : 1000 ≤ n) (hx : rg x) (hy : rg y) (hz : rg z) (h : Rel M) : ∃ r M1 M2, f_X5_ahead n x y z M = some (r, M1) ∧ f_X6_ahead n x y z M1 = some (r, M2) ∧ Rel M2 := by
  obtain ⟨c1, c2, c3, c4, ok, okb, rw0, rb⟩ := Rel_c h
  obtain ⟨p1, p2, p3, p4, p5, p6, p7⟩ := cp8 h
  unfold f_X5_ahead f_X6_ahead
  rw [isReading_c hx c2, Option.bind_some, ifbi, within_c hy (rgl 0) (rgl 8), Option.bind_some, ifbi, within_c hz (rgl 0) (rgl 2), Option.bind_some, ifbi]
  by_cases g : 0 ≤ x ∧ x ≤ M 3 5 - 1
  · rw [if_pos g]
    by_cases g2 : 0 ≤ y ∧ y ≤ 8
    · rw [if_pos g2]
      by_cases g3 : 0 ≤ z ∧ z ≤ 2
      · rw [if_pos g3, copy_c (by decide), Option.bind_some, follow_c (by omega) (by rw [p4]; exact c1) p2 (by rw [p3]; exact okb) g.1 (by omega) g2, Option.bind_some, p3, p6 x.toNat (by omega)]
        have hT := rnS_rw (B := B2 M 3) (C := B2 M 3) (fun _ _ => rfl) (M 6 x.toNat) y.toNat p1
        generalize hTe : rnS (B2 M 3) (M 6 x.toNat) y.toNat (cpS M 8 3 8) = T at hT ⊢
        have X : ∀ a, a < 8 ∨ 12 < a → sr (cpS M 8 3) 8 T a = M a := fun a ha => by rw [sr_ne _ _ (by omega), p7 a ha]
        obtain ⟨r', b1, b2, b3⟩ := tries_lp (n0 := n) (M := sr (cpS M 8 3) 8 T) (B := B2 M 3) (rr := x) (y := y) (w := z) (by omega) (by rw [X 46 (by decide), c3]; exact c1) okb g.1 (by omega) g2 y.toNat n 0 (cr (sr (cpS M 8 3) 8 T 47) 0 100 25) (M 3) (by omega) (by omega) (by omega) (pg100 h (by rw [X 46 (by decide)]) (X 47 (by decide))) ok
        rw [X 48 (by decide), rows_of h x.toNat (by omega)] at b2
        obtain ⟨q1, q2, q3, -⟩ := PgR_at b2
        have k23 : r' 23 = M 3 17 := by rw [b3 23 (by decide), X 47 (by decide), cr_o (by decide), ← rw0 17 (by decide) (by decide), vw_17]
        have k24 : r' 24 = M 3 18 := by rw [b3 24 (by decide), X 47 (by decide), cr_o (by decide), ← rw0 18 (by decide) (by decide), vw_18]
        refine ⟨if z = 0 then T 10 else if z = 1 then T 17 - M 3 17 else T 18 - M 3 18, sr (cpS M 8 3) 8 T, sr (sr (cpS M 8 3) 8 T) 47 r', ?_, ?_, ?_⟩
        · rw [wr_rg hz, sr_same, X 3 (by decide)]
          split
          · rfl
          · split <;> rfl
        · rw [isReading_r hx (by rw [X 46 (by decide), c4]; exact c2), Option.bind_some, X 46 (by decide), c4, if_pos g, if_neg w1n0, wr_rg hy, in_r hy (rgl 0) (rgl 8), Option.bind_some, if_pos g2, if_neg w1n0, wr_rg hz, in_r hz (rgl 0) (rgl 2), Option.bind_some, if_pos g3, if_neg w1n0, show (100 : Int) = ((100 : Nat) : Int) from rfl, copies0 (by omega) (by decide), Option.bind_some]
          refine b1.trans ?_
          unfold f_X6_ahead_62
          rw [wr_rg hz, sr_same, q1, q2, q3, k23, k24, hT 10 (by decide) (by decide), hT 17 (by decide) (by decide), hT 18 (by decide) (by decide)]
          split
          · rfl
          · split <;> rfl
        · refine Rel_off ?_ h
          refine Off.trans (Off_cp8 M T) (Off_47 (fun k hk => ?_))
          rw [b3 k (by omega), cr_o (by omega)]
      · rw [if_neg g3]
        refine ⟨-1, M, M, rfl, ?_, h⟩
        rw [isReading_r hx (by rw [c4]; exact c2), Option.bind_some, c4, if_pos g, if_neg w1n0, wr_rg hy, in_r hy (rgl 0) (rgl 8), Option.bind_some, if_pos g2, if_neg w1n0, wr_rg hz, in_r hz (rgl 0) (rgl 2), Option.bind_some, if_neg g3, if_pos wr_0]
    · rw [if_neg g2]
      refine ⟨-1, M, M, rfl, ?_, h⟩
      rw [isReading_r hx (by rw [c4]; exact c2), Option.bind_some, c4, if_pos g, if_neg w1n0, wr_rg hy, in_r hy (rgl 0) (rgl 8), Option.bind_some, if_neg g2, if_pos wr_0]
  · rw [if_neg g]
    refine ⟨-1, M, M, rfl, ?_, h⟩
    rw [isReading_r hx (by rw [c4]; exact c2), Option.bind_some, c4, if_neg g, if_pos wr_0]
theorem op_when {n : Nat} {M : Mem} {x : Int} (hn : 1000 ≤ n) (hx : rg x) (h : Rel M) : ∃ r M1 M2, f_X5_when n x M = some (r, M1) ∧ f_X6_when n x M1 = some (r, M2) ∧ Rel M2 := by
  obtain ⟨c1, c2, c3, c4, ok, okb, rw0, rb⟩ := Rel_c h
  obtain ⟨p1, p2, p3, p4, p5, p6, p7⟩ := cp8 h
  unfold f_X5_when f_X6_when
  rw [isReading_c hx c2, Option.bind_some, ifbi]
  by_cases g : 0 ≤ x ∧ x ≤ M 3 5 - 1
  · rw [if_pos g, copy_c (by decide), Option.bind_some, firstHunger_c (by omega) (by rw [p4]; exact c1) p2 (by rw [p3]; exact okb) g.1 (by omega), Option.bind_some, p3, p6 x.toNat (by omega), p1 15 (by decide) (by decide)]
    have hT := fhS_rw (B := B2 M 3) (C := B2 M 3) (fun _ _ => rfl) (M 6 x.toNat) (8 - M 3 15).toNat p1
    generalize hTe : fhS (B2 M 3) (M 6 x.toNat) (8 - M 3 15).toNat (cpS M 8 3 8) = T at hT ⊢
    have X : ∀ a, a < 8 ∨ 12 < a → sr (cpS M 8 3) 8 T.2 a = M a := fun a ha => by rw [sr_ne _ _ (by omega), p7 a ha]
    obtain ⟨r', b1, b3⟩ := starves_r (n := n) (M := sr (cpS M 8 3) 8 T.2) (B := B2 M 3) (rr := x) (by omega) (by rw [X 46 (by decide), c3]; exact c1) okb g.1 (by omega) (pg100 h (by rw [X 46 (by decide)]) (X 47 (by decide))) ok
    rw [X 48 (by decide), rows_of h x.toNat (by omega), ← hT] at b1
    refine ⟨T.1, sr (cpS M 8 3) 8 T.2, sr (sr (cpS M 8 3) 8 T.2) 47 r', rfl, ?_, ?_⟩
    · rw [isReading_r hx (by rw [X 46 (by decide), c4]; exact c2), Option.bind_some, X 46 (by decide), c4, if_pos g, if_neg w1n0, show (100 : Int) = ((100 : Nat) : Int) from rfl, copies0 (by omega) (by decide), Option.bind_some, b1]
      rfl
    · refine Rel_off ?_ h
      refine Off.trans (Off_cp8 M T.2) (Off_47 (fun k hk => ?_))
      rw [b3 k (by omega), cr_o (by omega)]
  · rw [if_neg g]
    refine ⟨-1, M, M, rfl, ?_, h⟩
    rw [isReading_r hx (by rw [c4]; exact c2), Option.bind_some, c4, if_neg g, if_pos wr_0]
/-- who is safe, over the readings below i: by court S with a steward's kind, v, a cap and a store in it -/
def sfS (S0 S R : Nat → Int) (B : Int → Int) : Nat → Int
  | 0 => 1
  | i + 1 => if cbS S0 (R i) = 0 then sfS S0 S R B i else if (fhS B (R i) (8 - S 15).toNat S).1 = -4 then sfS S0 S R B i else 0
theorem fhS_v {B : Int → Int} {row : Int} : ∀ (t : Nat) (S : Nat → Int), OkS S → S 15 + t = 8 → OkB B → (fhS B row t S).1 = -4 ∨ (0 ≤ (fhS B row t S).1 ∧ (fhS B row t S).1 ≤ 7) := by
  intro t
  induction t with
  | zero => intro S _ _ _; exact Or.inl rfl
  | succ t ih =>
    intro S hS hy hB
    have h15 : 0 ≤ S 15 := by unfold OkS at hS; omega
    rw [fhS]
    split
    · exact ih _ (OkS_hm hS hB (bt_F _ _) (by omega)) (by rw [hmS_15]; omega) hB
    · right
      show 0 ≤ S 15 ∧ S 15 ≤ 7
      omega
/-- the court with a steward, a cap and a store -/
def sdS (S : Nat → Int) (k v c s : Int) : Nat → Int := fun i => if i = 13 then k else if i = 14 then v else if i = 8 then c else if i = 10 then s else S i
theorem sdS_ok {S : Nat → Int} (h : OkS S) {k v c s : Int} (hk : 0 ≤ k ∧ k ≤ 4) (hv : 0 ≤ v ∧ v ≤ 9) (hc : 0 ≤ c ∧ c ≤ 40) (hs : 0 ≤ s ∧ s ≤ 40) : OkS (sdS S k v c s) := by
  unfold OkS at h ⊢
  simp [sdS]
  omega
theorem sdS_rw {S T : Nat → Int} (h : Rw S T) (k v c s : Int) : Rw (sdS S k v c s) (sdS T k v c s) := by
  intro i h1 h2
  unfold sdS
  rw [h i h1 h2]
