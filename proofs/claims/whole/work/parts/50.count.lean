/-! count -/
def bcS (x : Int) : Nat → Int
  | 0 => 0
  | i + 1 => bcS x i + bAnd (bShr x (i : Int)) 1
theorem bitsOf_r {n : Nat} {M : Mem} {x : Int} (hn : 9 ≤ n) : f_X6_bitsOf n x M = some (bcS x 8) := by
  unfold f_X6_bitsOf
  refine lp_run0 (fun i => (bcS x i, (i : Int))) 8 (by omega) (fun i hi => ?_) ?_
  · show f_X6_bitsOf_4 n x (bcS x i) (i : Int) M = some (Sum.inl (bcS x (i + 1), (i : Int) + 1))
    unfold f_X6_bitsOf_4
    rw [wr_id (by omega) (by omega), if_neg (by omega), bcS]
  · show f_X6_bitsOf_4 n x (bcS x 8) ((8 : Nat) : Int) M = _
    unfold f_X6_bitsOf_4
    rw [wr_id (by omega) (by omega), if_pos (by omega)]
def bcI (x : Int) : Int :=
  let v1 := x - (bAnd (bUshr x 1) 1431655765)
  let v2 := (bAnd v1 858993459) + (bAnd (bUshr v1 2) 858993459)
  let v3 := bAnd (v2 + (bUshr v2 4)) 252645135
  bAnd ((v3 + (bUshr v3 8)) + (bUshr (v3 + (bUshr v3 8)) 16)) 63
theorem bc_all : ∀ p : Fin 256, bcI (p.val : Int) = bcS (p.val : Int) 8 := by decide +kernel
theorem bitCount_c {M : Mem} {x : Int} (h : 0 ≤ x ∧ x ≤ 255) : f_J6_bitCount_0f7a4 x M = some (bcS x 8) := by
  obtain ⟨a, rfl⟩ : ∃ a : Nat, x = (a : Int) := ⟨x.toNat, by omega⟩
  rw [← bc_all ⟨a, by omega⟩]
  rfl
theorem pbS_rng (S R : Nat → Int) : ∀ i, i ≤ 8 → 0 ≤ pbS S R i ∧ pbS S R i ≤ 255
  | 0, _ => ⟨Int.le_refl _, show (0 : Int) ≤ 255 by decide⟩
  | i + 1, h => by
    have a := pbS_rng S R i (by omega)
    rw [pbS]; split
    · exact a
    · exact past_rng a (by omega) (Or.inr rfl)
theorem op_count {n : Nat} {M : Mem} {x : Int} (hn : 1000 ≤ n) (hx : rg x) (h : Rel M) : ∃ r, f_X5_count n x M = some r ∧ f_X6_count n x M = some r := by
  obtain ⟨c1, c2, c3, c4, ok, okb, rw0, rb⟩ := Rel_c h
  have hp := h.1.2.2.2.2.2.1.2.2.1
  have i0 := h.2.2.2.1 0 (by decide)
  have i1 := h.2.2.2.1 1 (by decide)
  have s0 := (h.2.2.2.2.1.1 0 (by decide)).1
  unfold f_X5_count f_X6_count
  by_cases q0 : wr x = 0
  · exact ⟨_, by rw [if_pos q0], by rw [if_pos q0, h.2.2.1.2.1]⟩
  · rw [if_neg q0, if_neg q0]
    by_cases q1 : wr x = 1
    · rw [if_pos q1, if_pos q1, i0.2.1, wr_F i0.1]
      unfold f_X5_count_62 f_X6_count_59
      rw [i1.2.1, wr_F i1.1]
      exact ⟨(if M 26 0 = 0 then 0 else 1) + (if M 26 1 = 0 then 0 else 1), by unfold f_X5_count_76; split <;> split <;> rfl, by unfold f_X6_count_73; split <;> split <;> rfl⟩
    · rw [if_neg q1, if_neg q1]
      by_cases q2 : wr x = 2
      · exact ⟨_, by rw [if_pos q2], by rw [if_pos q2, h.2.1.2.1]⟩
      · rw [if_neg q2, if_neg q2]
        by_cases q3 : wr x = 3
        · rw [if_pos q3, if_pos q3]
          unfold f_X4_isNothing
          rcases s0 with ⟨a1, a2⟩ | ⟨a1, a2, a3, a4⟩
          · have b1 : M 38 1 = -1 := a1
            have b2 : M 57 0 = -4 := a2
            refine ⟨-4, ?_, ?_⟩
            · rw [b1, wr_id (x := -1) (by decide) (by decide), if_neg (by decide), Option.bind_some, if_neg w1n0]
            · rw [b2, wr_id (x := -4) (by decide) (by decide), if_pos rfl]
          · have b1 : 0 ≤ M 38 1 ∧ M 38 1 ≤ 40 := a1
            have b2 : M 58 0 = M 38 1 := a2
            have b3 : 0 ≤ M 38 2 ∧ M 38 2 ≤ 2 := a3
            have b4 : M 57 0 = M 38 2 := a4
            refine ⟨M 38 1, ?_, ?_⟩
            · rw [wr_id (x := M 38 1) (by omega) (by omega), if_pos b1.1, Option.bind_some, if_pos wr_0]
            · rw [b4, wr_id (x := M 38 2) (by omega) (by omega), if_neg (by omega), b2]
        · rw [if_neg q3, if_neg q3]
          by_cases q4 : wr x = 4
          · rw [if_pos q4, if_pos q4, possible_c (by omega) c2, Option.bind_some, bitCount_c (pbS_rng _ _ _ (by omega)), canNow_r (by omega) (by rw [c4]; exact c2), pb_eq h, Option.bind_some, Option.bind_some, bitsOf_r (by omega)]
            exact ⟨_, rfl, rfl⟩
          · rw [if_neg q4, if_neg q4]
            by_cases q5 : wr x = 5
            · have e22 : M 47 22 = M 3 16 := by rw [← rw0 16 (by decide) (by decide), vw_16]
              rw [if_pos q5, if_pos q5, bitCount_c hp, e22, bitsOf_r (by omega)]
              exact ⟨_, rfl, rfl⟩
            · rw [if_neg q5, if_neg q5]
              exact ⟨-1, rfl, rfl⟩
