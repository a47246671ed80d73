def Nw (q : Nat → Int) (v : Int) : Prop := q 12 = 0 ∧ q 16 = 2 ∧ v = q 17
theorem fail_f {N : Mem} {r : Nat → Int} {x : Int} (h : 1 ≤ r 2 ∧ r 2 ≤ 5) : f_X3_fail x (sr N 1 r) = some (sr N 1 r) := by
  unfold f_X3_fail
  rw [sr_same, wr_id (by omega) (by omega), if_neg (by omega)]
theorem fails_f {N : Mem} {q : Nat → Int} {x : Int} (h : 1 ≤ q 12 ∧ q 12 ≤ 5) : f_X6_fails x (sr N 46 q) = some (sr N 46 q) := by
  unfold f_X6_fails
  rw [sr_same, wr_id (by omega) (by omega), if_neg (by omega)]
def Br (len : Nat) (r q : Nat → Int) : Prop := (1 ≤ r 2 ∧ r 2 ≤ 5) ∧ q 12 = r 2 ∧ q 13 = r 3 ∧ ShR len r
theorem A_fail {len : Nat} {N K : Mem} {r q : Nat → Int} {x : Int} (hx : 1 ≤ x ∧ x ≤ 5) (h : Aq len r q) : ∃ r' q', f_X3_fail x (sr N 1 r) = some (sr N 1 r') ∧ f_X6_fails x (sr K 46 q) = some (sr K 46 q') ∧ Br len r' q' ∧ (∀ j, j ≠ 2 → j ≠ 3 → r' j = r j) ∧ ∀ j, j ≠ 12 → j ≠ 13 → q' j = q j := by
  rcases h with ⟨a1, a2, a3, a4, ⟨s, e, b1, b2, b3, b4, b5, b6⟩, a6⟩ | ⟨a1, a2, a3⟩
  · refine ⟨_, _, fail_c a1, fails_r a2, ⟨?_, ?_, ?_, s, e, ?_, ?_, b5, b6⟩, fun j p1 p2 => by rw [rs_n p2, rs_n p1], fun j p1 p2 => by rw [rs_n p2, rs_n p1]⟩
    · rw [rs_n (by decide), rs_s]; exact hx
    · rw [rs_n (by decide), rs_s, rs_n (by decide), rs_s]
    · rw [rs_s, rs_s, b3, b1]
    · rw [rs_n (by decide), rs_n (by decide)]; exact b1
    · rw [rs_n (by decide), rs_n (by decide)]; exact b2
  · exact ⟨r, q, fail_f a1, fails_f (by omega), ⟨a1, a2, a3⟩, fun _ _ _ => rfl, fun _ _ _ => rfl⟩
theorem numB_r {n len : Nat} {K : Mem} {r q : Nat → Int} {lo hi : Int} (h : Br len r q) (t : Nat → Int) : f_X6_number_20 n lo hi (sr K 46 q) = some (lo, sr K 46 q) ∧ Bq t len r q := by
  obtain ⟨a1, a2, a3⟩ := h
  refine ⟨?_, Or.inr ⟨a1, a2, a3⟩⟩
  unfold f_X6_number_20 f_X6_number_47 f_X6_number_62
  rw [sr_same, wr_id (x := q 12) (by omega) (by omega), if_neg (by omega), if_neg (by omega), step_f (by omega), Option.bind_some]
/-- a number within bounds, on both sides -/
theorem within_both {n len : Nat} {N K : Mem} {r q : Nat → Int} {lo hi : Int} (hn : 1000 ≤ n) (ht : TpOk (N 2) len) (hu : TpOk (K 51) len) (et : ∀ i, i < len → N 2 i = K 51 i) (h1 : r 1 = (len : Int)) (h10 : q 10 = (len : Int)) (hlo : rg lo) (hhi : rg hi) (h : Bq (K 51) len r q) : ∃ v w r' q', f_X3_takeWithin n lo hi (sr N 1 r) = some (v, sr N 1 r') ∧ f_X6_number n lo hi (sr K 46 q) = some (w, sr K 46 q') ∧ Bq (K 51) len r' q' ∧ (r' 2 = 0 → v = w ∧ lo ≤ v ∧ v ≤ hi ∧ Nw q v) ∧ (∀ j, j < 2 ∨ j = 4 ∨ j = 5 ∨ 9 < j → r' j = r j) ∧ (∀ j, j < 12 ∨ 17 < j → q' j = q j) ∧ (r' 2 = 0 → r 2 = 0 ∧ r 8 ≤ r' 8) := by
  obtain ⟨r1, a1, a2, a3, amo⟩ := B_take hn ht et h1 h
  unfold f_X3_takeWithin f_X6_number
  rw [a1, Option.bind_some, sr_same, sr_same]
  have bad : ∀ r2 q2, Br len r2 q2 → (∀ j, j < 2 ∨ j = 4 ∨ j = 5 ∨ 9 < j → r2 j = r j) → (∀ j, j < 12 ∨ 17 < j → q2 j = q j) → ∃ v w r' q', (some ((0 : Int), sr N 1 r2) : Option (Int × Mem)) = some (v, sr N 1 r') ∧ (some (lo, sr K 46 q2) : Option (Int × Mem)) = some (w, sr K 46 q') ∧ Bq (K 51) len r' q' ∧ (r' 2 = 0 → v = w ∧ lo ≤ v ∧ v ≤ hi ∧ Nw q v) ∧ (∀ j, j < 2 ∨ j = 4 ∨ j = 5 ∨ 9 < j → r' j = r j) ∧ (∀ j, j < 12 ∨ 17 < j → q' j = q j) ∧ (r' 2 = 0 → r 2 = 0 ∧ r 8 ≤ r' 8) := fun r2 q2 hb hr hq =>
    ⟨0, lo, r2, q2, rfl, rfl, Or.inr hb, fun z => by have := hb.1; omega, hr, hq, fun z => by have := hb.1; omega⟩
  rcases a2 with A | B
  · have A0 := A
    obtain ⟨b1, b2, b3, b4, b5, b6⟩ := A
    have hA : Aq len r1 q := Or.inl A0
    rw [b1, if_pos wr_0, b2, if_pos wr_0, wr_id (x := r1 6) (by omega) (by omega), b3]
    by_cases k : r1 6 = 1
    · obtain ⟨c1, c2, c3⟩ := b6 k
      rw [if_pos k, k, show rkS 1 = 2 from rfl, if_pos wr_2, within_c (by unfold rg; omega) hlo hhi, Option.bind_some, ifbi]
      by_cases w : lo ≤ r1 9 ∧ r1 9 ≤ hi
      · obtain ⟨q', d1, d2, d3⟩ := A_step hn hu h10 hA
        rw [if_pos w]
        refine ⟨r1 9, r1 9, r1, q', rfl, ?_, d2, fun _ => ⟨rfl, w.1, w.2, A0.2.1, by rw [A0.2.2.1, k]; rfl, c1.symm⟩, a3, d3, fun z => ⟨(amo z).1, (amo z).2.1⟩⟩
        unfold f_X6_number_20 f_X6_number_47 f_X6_number_62
        rw [sr_same, b2, if_pos wr_0, c1, wr_id (x := r1 9) (by omega) (by omega), wr_rg hlo, wr_rg hhi, in_r (by unfold rg; omega) hlo hhi, Option.bind_some, ifbi, if_pos w, if_pos wr_0, d1, Option.bind_some]
      · obtain ⟨r2, q2, d1, d2, d3, d4, d5⟩ := A_fail (N := N) (K := K) (x := 3) (by decide) hA
        have e20 : f_X6_number_20 n lo hi (sr K 46 q) = some (lo, sr K 46 q2) := by
          unfold f_X6_number_20 f_X6_number_47 f_X6_number_62
          rw [sr_same, b2, if_pos wr_0, c1, wr_id (x := r1 9) (by omega) (by omega), wr_rg hlo, wr_rg hhi, in_r (by unfold rg; omega) hlo hhi, Option.bind_some, ifbi, if_neg w, d2, Option.bind_some, sr_same, wr_id (x := q2 12) (by have := d3.1; have := d3.2.1; omega) (by have := d3.1; have := d3.2.1; omega), if_neg (by have := d3.1; have := d3.2.1; omega), step_f (by have := d3.1; have := d3.2.1; omega), Option.bind_some]
        rw [if_neg w, d1, Option.bind_some, e20]
        exact bad r2 q2 d3 (fun j hj => by rw [d4 j (by omega) (by omega), a3 j hj]) (fun j hj => d5 j (by omega) (by omega))
    · obtain ⟨r2, q2, d1, d2, d3, d4, d5⟩ := A_fail (N := N) (K := K) (x := 2) (by decide) hA
      have kk : rkS (r1 6) = 0 ∨ rkS (r1 6) = 1 ∨ rkS (r1 6) = 3 := by
        have : r1 6 = 0 ∨ r1 6 = 2 ∨ r1 6 = 3 := by omega
        rcases this with z | z | z <;> rw [z] <;> decide
      have e20 := (numB_r (n := n) (len := len) (K := K) (lo := lo) (hi := hi) d3 (K 51)).1
      rw [if_neg k, wr_id (x := rkS (r1 6)) (by omega) (by omega), if_neg (by omega), d1, Option.bind_some, d2, Option.bind_some, e20]
      exact bad r2 q2 d3 (fun j hj => by rw [d4 j (by omega) (by omega), a3 j hj]) (fun j hj => d5 j (by omega) (by omega))
  · obtain ⟨b1, b2, b3⟩ := B
    have e20 := (numB_r (n := n) (len := len) (K := K) (lo := lo) (hi := hi) (show Br len r1 q from ⟨b1, b2, b3⟩) (K 51)).1
    rw [wr_id (x := r1 2) (by omega) (by omega), if_neg (by omega), wr_id (x := q 12) (by omega) (by omega), if_neg (by omega), e20]
    exact bad r1 q ⟨b1, b2, b3⟩ a3 (fun _ _ => rfl)
