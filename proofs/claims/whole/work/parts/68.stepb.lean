/-- the reference's number of a kind of token -/
def rkS (k : Int) : Int := if k = 0 then 1 else if k = 1 then 2 else if k = 2 then 3 else 0
/-- what a step makes of the reference's row -/
def StR (t : Nat → Int) (len s : Nat) (r r' : Nat → Int) : Prop := (∀ j, j ≠ 12 → j ≠ 13 → j ≠ 14 → j ≠ 15 → j ≠ 16 → j ≠ 17 → r' j = r j) ∧ (tBd t len s = true → r' 12 = 1 ∧ r' 13 = (s : Int)) ∧ (¬ tBd t len s = true → r' 12 = 0 ∧ r' 16 = rkS (tKd t len s) ∧ r' 15 = (s : Int) ∧ r' 14 = (tNx t len s : Int) ∧ (tKd t len s = 1 → r' 17 = nuV t len s))
theorem step34_r {n len s : Nat} {N : Mem} {r : Nat → Int} (hn : 1000 ≤ n) (ht : TpOk (N 51) len) (h10 : r 10 = (len : Int)) (h12 : r 12 = 0) (h14 : r 14 = (s : Int)) (hs : s ≤ len) : ∃ r', f_X6_step_34 n (sr N 46 r) = some (sr N 46 r') ∧ StR (N 51) len s r r' := by
  have hl := ht.1
  have br := tb_rng ht s
  unfold f_X6_step_34
  rw [Option.bind_some, sr_same, h14, st_rs]
  rw [sr_same, rs_n (by decide), h14, byteAt_r ht (by rw [rs_n (by decide)]; exact h10) (by omega), Option.bind_some, Option.bind_some, st_rs]
  generalize hq : rs (rs r 15 (s : Int)) 17 0 = q
  have e : ∀ j, j ≠ 15 → j ≠ 17 → q j = r j := fun j a b => by rw [← hq, rs_n b, rs_n a]
  have q15 : q 15 = (s : Int) := by rw [← hq, rs_n (by decide), rs_s]
  have q17 : q 17 = 0 := by rw [← hq, rs_s]
  have q10 : q 10 = (len : Int) := by rw [e 10 (by decide) (by decide)]; exact h10
  have q12 : q 12 = 0 := by rw [e 12 (by decide) (by decide)]; exact h12
  have q14 : q 14 = (s : Int) := by rw [e 14 (by decide) (by decide)]; exact h14
  rw [inLt_r br, inFg_r br, wr_id (x := tb (N 51) len s) (by omega) (by omega)]
  by_cases hlt : s < len
  · have b := ht.2 s hlt
    have et : tb (N 51) len s = N 51 s := by unfold tb; rw [if_pos hlt]
    rw [et, if_neg (by omega), Option.bind_some, ifbi]
    by_cases kl : pLt (N 51 s) = true
    · have k59 : N 51 s ≠ 59 := by
        have : 97 ≤ N 51 s ∧ N 51 s ≤ 122 := by simpa [pLt] using kl
        omega
      have ek : tKd (N 51) len s = 0 := by unfold tKd; rw [if_pos hlt, if_neg k59, if_pos kl]
      have eb : ¬ tBd (N 51) len s = true := by unfold tBd; rw [ek]; simp
      have W := wordr_r (n0 := n) (N := N) ht (len - s) n s q (by omega) (by omega) q10 q14
      rw [if_pos kl, W]
      refine ⟨rs (rs q 14 (skF pLt (N 51) len (len - s) s : Int)) 16 1, rfl, fun j a b c d f g => by rw [rs_n f, rs_n c, e j d g], fun z => absurd z eb, fun _ => ⟨?_, ?_, ?_, ?_, fun z => ?_⟩⟩
      · rw [rs_n (by decide), rs_n (by decide)]; exact q12
      · rw [rs_s, ek]; rfl
      · rw [rs_n (by decide), rs_n (by decide)]; exact q15
      · rw [rs_n (by decide), rs_s]; unfold tNx; rw [ek, if_neg (by decide), if_neg (by decide), if_pos rfl]
      · rw [ek] at z; exact absurd z (by decide)
    · rw [if_neg kl, Option.bind_some, ifbi]
      by_cases kf : pFg (N 51 s) = true
      · have k59 : N 51 s ≠ 59 := by
          have : 48 ≤ N 51 s ∧ N 51 s ≤ 57 := by simpa [pFg] using kf
          omega
        have ek : tKd (N 51) len s = 1 := by unfold tKd; rw [if_pos hlt, if_neg k59, if_neg kl, if_pos kf]
        have eb : tBd (N 51) len s = nuB (N 51) len s := by unfold tBd; rw [ek]; simp
        obtain ⟨r', a1, a2, a3, a4⟩ := numr_r (n0 := n) (N := N) (s := s) (r := q) hn ht q10 q12 q15 q14 q17 hlt kf
        rw [if_pos kf, a1]
        refine ⟨r', rfl, fun j a b c d f g => by rw [a2 j a b c f g, e j d g], fun z => a3 (by rw [← eb]; exact z), fun z => ?_⟩
        obtain ⟨b1, b2, b3, b4⟩ := a4 (by rw [← eb]; exact z)
        refine ⟨b1, by rw [b2, ek]; rfl, by rw [a2 15 (by decide) (by decide) (by decide) (by decide) (by decide)]; exact q15, ?_, fun _ => b4⟩
        rw [b3]; unfold tNx; rw [ek, if_neg (by decide), if_neg (by decide), if_neg (by decide)]
      · rw [if_neg kf, Option.bind_some, st_rs, Option.bind_some, sr_same, st_rs, rs_n (by decide), q14]
        by_cases k59 : N 51 s = 59
        · have ek : tKd (N 51) len s = 2 := by unfold tKd; rw [if_pos hlt, if_pos k59]
          have eb : ¬ tBd (N 51) len s = true := by unfold tBd; rw [ek]; simp
          rw [if_pos k59]
          refine ⟨rs (rs q 16 3) 14 ((s : Int) + 1), rfl, fun j a b c d f g => by rw [rs_n c, rs_n f, e j d g], fun z => absurd z eb, fun _ => ⟨?_, ?_, ?_, ?_, fun z => ?_⟩⟩
          · rw [rs_n (by decide), rs_n (by decide)]; exact q12
          · rw [rs_n (by decide), rs_s, ek]; rfl
          · rw [rs_n (by decide), rs_n (by decide)]; exact q15
          · rw [rs_s]; unfold tNx; rw [ek, if_neg (by decide), if_pos rfl]; rfl
          · rw [ek] at z; exact absurd z (by decide)
        · have ek : tKd (N 51) len s = 4 := by unfold tKd; rw [if_pos hlt, if_neg k59, if_neg kl, if_neg kf]
          have eb : tBd (N 51) len s = true := by unfold tBd; rw [ek]; simp
          rw [if_neg k59, fails_r (by rw [rs_n (by decide), rs_n (by decide)]; exact q12), Option.bind_some, rs_n (by decide), rs_n (by decide), q15]
          refine ⟨rs (rs (rs (rs q 16 3) 14 ((s : Int) + 1)) 12 1) 13 (s : Int), rfl, fun j a b c d f g => by rw [rs_n b, rs_n a, rs_n c, rs_n f, e j d g], fun _ => ⟨by rw [rs_n (by decide), rs_s], rs_s _ _ _⟩, fun z => absurd eb z⟩
  · have ek : tKd (N 51) len s = 3 := by unfold tKd; rw [if_neg hlt]
    have eb : ¬ tBd (N 51) len s = true := by unfold tBd; rw [ek]; simp
    have et : tb (N 51) len s = -4 := by unfold tb; rw [if_neg hlt]
    rw [et, if_pos rfl, Option.bind_some, st_rs]
    refine ⟨rs q 16 0, rfl, fun j a b c d f g => by rw [rs_n f, e j d g], fun z => absurd z eb, fun _ => ⟨?_, ?_, ?_, ?_, fun z => ?_⟩⟩
    · rw [rs_n (by decide)]; exact q12
    · rw [rs_s, ek]; rfl
    · rw [rs_n (by decide)]; exact q15
    · rw [rs_n (by decide), q14]; unfold tNx; rw [ek, if_pos rfl]
    · rw [ek] at z; exact absurd z (by decide)
theorem step_r {n len i : Nat} {N : Mem} {r : Nat → Int} (hn : 1000 ≤ n) (ht : TpOk (N 51) len) (h10 : r 10 = (len : Int)) (h12 : r 12 = 0) (h14 : r 14 = (i : Int)) (hi : i ≤ len) : ∃ r', f_X6_step n (sr N 46 r) = some (sr N 46 r') ∧ StR (N 51) len (tSt (N 51) len i) r r' := by
  have hl := ht.1
  have hk := skF_rng pSp (N 51) len (len - i) i hi
  unfold f_X6_step
  rw [sr_same, h12, wr_0, if_pos (by decide), skipr_r ht (len - i) n i r (by omega) (by omega) h10 h14]
  obtain ⟨r', a1, a2, a3, a4⟩ := step34_r (n := n) (N := N) (s := tSt (N 51) len i) (r := rs r 14 (skF pSp (N 51) len (len - i) i : Int)) hn ht (by rw [rs_n (by decide)]; exact h10) (by rw [rs_n (by decide)]; exact h12) (rs_s _ _ _) hk.2
  exact ⟨r', a1, fun j a b c d f g => by rw [a2 j a b c d f g, rs_n c], a3, a4⟩
theorem step_f {n : Nat} {N : Mem} {r : Nat → Int} (h12 : r 12 = 1 ∨ r 12 = 2 ∨ r 12 = 3 ∨ r 12 = 4 ∨ r 12 = 5) : f_X6_step n (sr N 46 r) = some (sr N 46 r) := by
  unfold f_X6_step
  rw [sr_same, wr_id (by omega) (by omega), if_neg (by omega)]
