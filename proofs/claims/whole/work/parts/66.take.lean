/-- what a take makes of the scribe's row -/
def TkR (t : Nat → Int) (len s : Nat) (r r' : Nat → Int) : Prop := (∀ j, j ≠ 2 → j ≠ 3 → j ≠ 6 → j ≠ 7 → j ≠ 8 → j ≠ 9 → r' j = r j) ∧ (tBd t len s = true → r' 2 = 1 ∧ r' 3 = (s : Int) ∧ r' 7 = (s : Int) ∧ ∃ e : Nat, r' 8 = (e : Int) ∧ s ≤ e ∧ e ≤ len) ∧ (¬ tBd t len s = true → r' 2 = 0 ∧ r' 6 = tKd t len s ∧ r' 7 = (s : Int) ∧ r' 8 = (tNx t len s : Int) ∧ (tKd t len s = 1 → r' 9 = nuV t len s))
theorem take46_c {n len s : Nat} {N : Mem} {r : Nat → Int} (hn : 1000 ≤ n) (ht : TpOk (N 2) len) (h1 : r 1 = (len : Int)) (h2 : r 2 = 0) (h8 : r 8 = (s : Int)) (hs : s ≤ len) : ∃ r', f_X3_take_46 n (sr N 1 r) = some (sr N 1 r') ∧ TkR (N 2) len s r r' := by
  have hl := ht.1
  unfold f_X3_take_46
  rw [Option.bind_some, sr_same, h8, st_rs]
  generalize hq : rs r 7 (s : Int) = q
  have e : ∀ j, j ≠ 7 → q j = r j := fun j a => by rw [← hq, rs_n a]
  have e7 : q 7 = (s : Int) := by rw [← hq, rs_s]
  have q1 : q 1 = (len : Int) := by rw [e 1 (by decide)]; exact h1
  have q2 : q 2 = 0 := by rw [e 2 (by decide)]; exact h2
  have q8 : q 8 = (s : Int) := by rw [e 8 (by decide)]; exact h8
  rw [sr_same, q1, q8, wr_id (x := (len : Int)) (by omega) (by omega), wr_id (x := (s : Int)) (by omega) (by omega)]
  by_cases hlt : s < len
  · have b := ht.2 s hlt
    rw [if_pos (by omega), rd_id (by omega) (by omega) (by omega), Option.bind_some, sr_ne _ _ (show (2 : Nat) ≠ 1 by decide), Int.toNat_natCast, wr_id (x := N 2 s) (by omega) (by omega)]
    by_cases k59 : N 2 s = 59
    · have ek : tKd (N 2) len s = 2 := by unfold tKd; rw [if_pos hlt, if_pos k59]
      have eb : ¬ tBd (N 2) len s = true := by unfold tBd; rw [ek]; simp
      rw [if_pos k59, Option.bind_some, st_rs, Option.bind_some, sr_same, st_rs]
      refine ⟨rs (rs q 6 2) 8 (rs q 6 2 8 + 1), rfl, fun j a b c d f g => by rw [rs_n f, rs_n c, e j d], fun z => absurd z eb, fun _ => ⟨?_, ?_, ?_, ?_, fun z => ?_⟩⟩
      · rw [rs_n (by decide), rs_n (by decide)]; exact q2
      · rw [rs_n (by decide), rs_s, ek]
      · rw [rs_n (by decide), rs_n (by decide)]; exact e7
      · rw [rs_s, rs_n (by decide), q8]; unfold tNx; rw [ek, if_neg (by decide), if_pos rfl]; rfl
      · rw [ek] at z; exact absurd z (by decide)
    · rw [if_neg k59, Option.bind_some, isLetter_c b, Option.bind_some, ifbi]
      by_cases kl : pLt (N 2 s) = true
      · have ek : tKd (N 2) len s = 0 := by unfold tKd; rw [if_pos hlt, if_neg k59, if_pos kl]
        have eb : ¬ tBd (N 2) len s = true := by unfold tBd; rw [ek]; simp
        have W := word_c (n0 := n) (N := N) ht (len - s) n s (rs q 6 0) (by omega) (by omega) (by rw [rs_n (by decide)]; exact q1) (by rw [rs_n (by decide)]; exact q8)
        rw [if_pos kl]
        unfold f_X3_takeWord
        rw [Option.bind_some, st_rs, W, Option.bind_some]
        refine ⟨rs (rs q 6 0) 8 (skF pLt (N 2) len (len - s) s : Int), rfl, fun j a b c d f g => by rw [rs_n f, rs_n c, e j d], fun z => absurd z eb, fun _ => ⟨?_, ?_, ?_, ?_, fun z => ?_⟩⟩
        · rw [rs_n (by decide), rs_n (by decide)]; exact q2
        · rw [rs_n (by decide), rs_s, ek]
        · rw [rs_n (by decide), rs_n (by decide)]; exact e7
        · rw [rs_s]; unfold tNx; rw [ek, if_neg (by decide), if_neg (by decide), if_pos rfl]
        · rw [ek] at z; exact absurd z (by decide)
      · rw [if_neg kl, Option.bind_some, isFigure_c b, Option.bind_some, ifbi]
        by_cases kf : pFg (N 2 s) = true
        · have ek : tKd (N 2) len s = 1 := by unfold tKd; rw [if_pos hlt, if_neg k59, if_neg kl, if_pos kf]
          have eb : tBd (N 2) len s = nuB (N 2) len s := by unfold tBd; rw [ek]; simp
          obtain ⟨r', a1, a2, a3, a4⟩ := num_c (n0 := n) (N := N) (s := s) (r := q) hn ht q1 q2 e7 q8 hlt kf
          rw [if_pos kf, a1, Option.bind_some]
          refine ⟨r', rfl, fun j a b c d f g => by rw [a2 j a b c f g, e j d], fun z => (by
            obtain ⟨b1, b2, b3, b4⟩ := a3 (by rw [← eb]; exact z)
            exact ⟨b1, b2, by rw [a2 7 (by decide) (by decide) (by decide) (by decide) (by decide)]; exact e7, s + 3, b3, by omega, b4⟩), fun z => ?_⟩
          obtain ⟨b1, b2, b3, b4⟩ := a4 (by rw [← eb]; exact z)
          refine ⟨b1, by rw [b2, ek], by rw [a2 7 (by decide) (by decide) (by decide) (by decide) (by decide)]; exact e7, ?_, fun _ => b4⟩
          rw [b3]; unfold tNx; rw [ek, if_neg (by decide), if_neg (by decide), if_neg (by decide)]
        · have ek : tKd (N 2) len s = 4 := by unfold tKd; rw [if_pos hlt, if_neg k59, if_neg kl, if_neg kf]
          have eb : tBd (N 2) len s = true := by unfold tBd; rw [ek]; simp
          rw [if_neg kf, fail_c q2, Option.bind_some]
          refine ⟨rs (rs q 2 1) 3 (q 7), rfl, fun j a b c d f g => by rw [rs_n b, rs_n a, e j d], fun _ => ⟨?_, ?_, ?_, s, ?_, Nat.le_refl _, hs⟩, fun z => absurd eb z⟩
          · rw [rs_n (by decide), rs_s]
          · rw [rs_s]; exact e7
          · rw [rs_n (by decide), rs_n (by decide)]; exact e7
          · rw [rs_n (by decide), rs_n (by decide)]; exact q8
  · have ek : tKd (N 2) len s = 3 := by unfold tKd; rw [if_neg hlt]
    have eb : ¬ tBd (N 2) len s = true := by unfold tBd; rw [ek]; simp
    rw [if_neg (by omega), Option.bind_some, st_rs]
    refine ⟨rs q 6 3, rfl, fun j a b c d f g => by rw [rs_n c, e j d], fun z => absurd z eb, fun _ => ⟨?_, ?_, ?_, ?_, fun z => ?_⟩⟩
    · rw [rs_n (by decide)]; exact q2
    · rw [rs_s, ek]
    · rw [rs_n (by decide)]; exact e7
    · rw [rs_n (by decide), q8]; unfold tNx; rw [ek, if_pos rfl]
    · rw [ek] at z; exact absurd z (by decide)
theorem take_c {n len i : Nat} {N : Mem} {r : Nat → Int} (hn : 1000 ≤ n) (ht : TpOk (N 2) len) (h1 : r 1 = (len : Int)) (h2 : r 2 = 0) (h8 : r 8 = (i : Int)) (hi : i ≤ len) : ∃ r', f_X3_take n (sr N 1 r) = some (sr N 1 r') ∧ TkR (N 2) len (tSt (N 2) len i) r r' := by
  have hl := ht.1
  have hk := skF_rng pSp (N 2) len (len - i) i hi
  unfold f_X3_take
  rw [sr_same, h2, if_pos wr_0, skip_c ht (len - i) n i r (by omega) (by omega) h1 h8]
  obtain ⟨r', a1, a2, a3, a4⟩ := take46_c (n := n) (N := N) (s := tSt (N 2) len i) (r := rs r 8 (skF pSp (N 2) len (len - i) i : Int)) hn ht (by rw [rs_n (by decide)]; exact h1) (by rw [rs_n (by decide)]; exact h2) (rs_s _ _ _) hk.2
  exact ⟨r', a1, fun j a b c d f g => by rw [a2 j a b c d f g, rs_n f], a3, a4⟩
theorem take_f {n : Nat} {N : Mem} {r : Nat → Int} (h2 : r 2 = 1 ∨ r 2 = 2 ∨ r 2 = 3 ∨ r 2 = 4 ∨ r 2 = 5) : f_X3_take n (sr N 1 r) = some (sr N 1 r) := by
  unfold f_X3_take
  rw [sr_same, wr_id (by omega) (by omega), if_neg (by omega)]
