/-! one token of the tape -/
def d1S (t : Nat → Int) (len s : Nat) : Bool := decide (s + 1 < len) && pFg (t (s + 1))
def d2S (t : Nat → Int) (len s : Nat) : Bool := decide (s + 2 < len) && pFg (t (s + 2))
def nuE (t : Nat → Int) (len s : Nat) : Nat := if d1S t len s = true then s + 2 else s + 1
def nuV (t : Nat → Int) (len s : Nat) : Int := if d1S t len s = true then (t s - 48) * 10 + t (s + 1) - 48 else t s - 48
def nuB (t : Nat → Int) (len s : Nat) : Bool := d1S t len s && d2S t len s
def tSt (t : Nat → Int) (len i : Nat) : Nat := skF pSp t len (len - i) i
def tKd (t : Nat → Int) (len s : Nat) : Int := if s < len then (if t s = 59 then 2 else if pLt (t s) = true then 0 else if pFg (t s) = true then 1 else 4) else 3
def tBd (t : Nat → Int) (len s : Nat) : Bool := decide (tKd t len s = 4) || (decide (tKd t len s = 1) && nuB t len s)
def tNx (t : Nat → Int) (len s : Nat) : Nat := if tKd t len s = 3 then s else if tKd t len s = 2 then s + 1 else if tKd t len s = 0 then skF pLt t len (len - s) s else nuE t len s
theorem fail_c {N : Mem} {r : Nat → Int} {x : Int} (h : r 2 = 0) : f_X3_fail x (sr N 1 r) = some (sr N 1 (rs (rs r 2 x) 3 (r 7))) := by
  unfold f_X3_fail
  rw [sr_same, h, if_pos wr_0, Option.bind_some, st_rs, Option.bind_some, st_rs, sr_same, rs_n (by decide)]
theorem num1_c {n0 len s i : Nat} {N : Mem} {r : Nat → Int} (ht : TpOk (N 2) len) (h1 : r 1 = (len : Int)) (h7 : r 7 = (s : Int)) (h8 : r 8 = (i : Int)) (hi : s ≤ i) (hi2 : i ≤ len) : f_X3_takeNumber_10 n0 (sr N 1 r) = if i < len ∧ i < s + 3 ∧ pFg (N 2 i) = true then some (.inl (sr N 1 (rs (rs r 9 (r 9 * 10 + N 2 i - 48)) 8 ((i + 1 : Nat) : Int)))) else (f_X3_takeNumber_86 n0 (sr N 1 r)).map Sum.inr := by
  obtain ⟨hl, hb⟩ := ht
  unfold f_X3_takeNumber_10
  rw [sr_same, h1, h7, h8, wr_id (x := (len : Int)) (by omega) (by omega), wr_id (x := (i : Int)) (by omega) (by omega), wr_id (x := (i : Int) - (s : Int)) (by omega) (by omega)]
  by_cases q1 : i < len
  · have b := hb i q1
    rw [if_neg (show ¬ ((len : Int) ≤ (i : Int)) by omega)]
    by_cases q2 : i < s + 3
    · rw [if_neg (show ¬ (2 < (i : Int) - (s : Int)) by omega), rd_id (by omega) (by omega) (by omega), Option.bind_some, sr_ne _ _ (show (2 : Nat) ≠ 1 by decide), Int.toNat_natCast, isFigure_c b, Option.bind_some, ifbi, Option.bind_some, Option.bind_some, st_rs, Option.bind_some, sr_same, st_rs, rs_n (by decide), h8]
      by_cases q3 : pFg (N 2 i) = true
      · rw [if_pos q3, if_pos ⟨q1, q2, q3⟩]; rfl
      · rw [if_neg q3, if_neg (fun z => q3 z.2.2)]
    · rw [if_pos (show 2 < (i : Int) - (s : Int) by omega), if_neg (fun z => q2 z.2.1)]
  · rw [if_pos (show (len : Int) ≤ (i : Int) by omega), if_neg (fun z => q1 z.1)]
theorem num_c {n0 len s : Nat} {N : Mem} {r : Nat → Int} (hn : 1000 ≤ n0) (ht : TpOk (N 2) len) (h1 : r 1 = (len : Int)) (h2 : r 2 = 0) (h7 : r 7 = (s : Int)) (h8 : r 8 = (s : Int)) (hs : s < len) (hf : pFg (N 2 s) = true) : ∃ r', f_X3_takeNumber n0 (sr N 1 r) = some (sr N 1 r') ∧ (∀ j, j ≠ 2 → j ≠ 3 → j ≠ 6 → j ≠ 8 → j ≠ 9 → r' j = r j) ∧ (nuB (N 2) len s = true → r' 2 = 1 ∧ r' 3 = (s : Int) ∧ r' 8 = ((s + 3 : Nat) : Int) ∧ s + 3 ≤ len) ∧ (¬ nuB (N 2) len s = true → r' 2 = 0 ∧ r' 6 = 1 ∧ r' 8 = (nuE (N 2) len s : Int) ∧ r' 9 = nuV (N 2) len s) := by
  have hl := ht.1
  obtain ⟨m, rfl⟩ : ∃ m, n0 = m + 4 := ⟨n0 - 4, by omega⟩
  -- the row after i figures
  have key : ∀ (q : Nat → Int) (i : Nat), q 1 = (len : Int) → q 7 = (s : Int) → q 8 = (i : Int) → s ≤ i → i ≤ len → i < len ∧ i < s + 3 ∧ pFg (N 2 i) = true → f_X3_takeNumber_10 (m + 4) (sr N 1 q) = some (.inl (sr N 1 (rs (rs q 9 (q 9 * 10 + N 2 i - 48)) 8 ((i + 1 : Nat) : Int)))) := fun q i a1 a7 a8 a b c => by rw [num1_c ht a1 a7 a8 a b, if_pos c]
  have stop : ∀ (q : Nat → Int) (i k : Nat), q 1 = (len : Int) → q 7 = (s : Int) → q 8 = (i : Int) → q 2 = 0 → s ≤ i → i ≤ len → ¬ (i < len ∧ i < s + 3 ∧ pFg (N 2 i) = true) → lp (fun z => f_X3_takeNumber_10 (m + 4) z) (k + 1) (sr N 1 q) = some (if (i : Int) - s ≤ 2 then sr N 1 q else sr N 1 (rs (rs q 2 1) 3 (s : Int))) := fun q i k a1 a7 a8 a2 a b c => by
    refine lp_map (f := fun z => f_X3_takeNumber_10 (m + 4) z) (s := sr N 1 q) (o := some (if (i : Int) - s ≤ 2 then sr N 1 q else sr N 1 (rs (rs q 2 1) 3 (s : Int)))) ?_
    show f_X3_takeNumber_10 (m + 4) (sr N 1 q) = _
    rw [num1_c ht a1 a7 a8 a b, if_neg c]
    unfold f_X3_takeNumber_86
    rw [sr_same, a7, a8, wr_id (x := (i : Int) - (s : Int)) (by omega) (by omega), fail_c a2, a7]
    split <;> rfl
  unfold f_X3_takeNumber
  rw [Option.bind_some, st_rs, Option.bind_some, st_rs]
  generalize hq0 : rs (rs r 6 1) 9 0 = q0
  have e0 : ∀ j, j ≠ 6 → j ≠ 9 → q0 j = r j := fun j a b => by rw [← hq0, rs_n b, rs_n a]
  have e06 : q0 6 = 1 := by rw [← hq0, rs_n (by decide), rs_s]
  have e09 : q0 9 = 0 := by rw [← hq0, rs_s]
  have s1 := key q0 s (by rw [e0 1 (by decide) (by decide)]; exact h1) (by rw [e0 7 (by decide) (by decide)]; exact h7) (by rw [e0 8 (by decide) (by decide)]; exact h8) (Nat.le_refl _) (by omega) ⟨hs, by omega, hf⟩
  rw [show m + 4 = (m + 3) + 1 from rfl] at s1 ⊢
  rw [lp_succ (f := fun z => f_X3_takeNumber_10 (m + 3 + 1) z) (s := sr N 1 q0) s1]
  generalize hq1 : rs (rs q0 9 (q0 9 * 10 + N 2 s - 48)) 8 ((s + 1 : Nat) : Int) = q1
  have e1 : ∀ j, j ≠ 8 → j ≠ 9 → q1 j = q0 j := fun j a b => by rw [← hq1, rs_n a, rs_n b]
  have e18 : q1 8 = ((s + 1 : Nat) : Int) := by rw [← hq1, rs_s]
  have e19 : q1 9 = N 2 s - 48 := by rw [← hq1, rs_n (by decide), rs_s, e09]; omega
  have f1 : ∀ j, j ≠ 6 → j ≠ 8 → j ≠ 9 → q1 j = r j := fun j a b c => by rw [e1 j b c, e0 j a c]
  have k1 : q1 1 = (len : Int) := by rw [f1 1 (by decide) (by decide) (by decide)]; exact h1
  have k7 : q1 7 = (s : Int) := by rw [f1 7 (by decide) (by decide) (by decide)]; exact h7
  have k2 : q1 2 = 0 := by rw [f1 2 (by decide) (by decide) (by decide)]; exact h2
  have k6 : q1 6 = 1 := by rw [e1 6 (by decide) (by decide)]; exact e06
  by_cases d1 : d1S (N 2) len s = true
  · have d1' : s + 1 < len ∧ pFg (N 2 (s + 1)) = true := by simpa [d1S] using d1
    have s2 := key q1 (s + 1) k1 k7 e18 (by omega) (by omega) ⟨d1'.1, by omega, d1'.2⟩
    rw [show m + 4 = (m + 2) + 2 from rfl] at s2
    rw [show m + 3 = (m + 2) + 1 from rfl, lp_succ (f := fun z => f_X3_takeNumber_10 (m + 2 + 1 + 1) z) (s := sr N 1 q1) s2]
    generalize hq2 : rs (rs q1 9 (q1 9 * 10 + N 2 (s + 1) - 48)) 8 ((s + 1 + 1 : Nat) : Int) = q2
    have e2 : ∀ j, j ≠ 8 → j ≠ 9 → q2 j = q1 j := fun j a b => by rw [← hq2, rs_n a, rs_n b]
    have e28 : q2 8 = ((s + 2 : Nat) : Int) := by rw [← hq2, rs_s]
    have e29 : q2 9 = (N 2 s - 48) * 10 + N 2 (s + 1) - 48 := by rw [← hq2, rs_n (by decide), rs_s, e19]
    have l1 : q2 1 = (len : Int) := by rw [e2 1 (by decide) (by decide)]; exact k1
    have l7 : q2 7 = (s : Int) := by rw [e2 7 (by decide) (by decide)]; exact k7
    have l2 : q2 2 = 0 := by rw [e2 2 (by decide) (by decide)]; exact k2
    have l6 : q2 6 = 1 := by rw [e2 6 (by decide) (by decide)]; exact k6
    have f2 : ∀ j, j ≠ 6 → j ≠ 8 → j ≠ 9 → q2 j = r j := fun j a b c => by rw [e2 j b c, f1 j a b c]
    by_cases d2 : d2S (N 2) len s = true
    · have d2' : s + 2 < len ∧ pFg (N 2 (s + 2)) = true := by simpa [d2S] using d2
      have s3 := key q2 (s + 2) l1 l7 e28 (by omega) (by omega) ⟨d2'.1, by omega, d2'.2⟩
      have s4 := stop (rs (rs q2 9 (q2 9 * 10 + N 2 (s + 2) - 48)) 8 ((s + 2 + 1 : Nat) : Int)) (s + 3) m (by rw [rs_n (by decide), rs_n (by decide)]; exact l1) (by rw [rs_n (by decide), rs_n (by decide)]; exact l7) (rs_s _ _ _) (by rw [rs_n (by decide), rs_n (by decide)]; exact l2) (by omega) (by omega) (by omega)
      rw [if_neg (by omega)] at s4
      refine ⟨rs (rs (rs (rs q2 9 (q2 9 * 10 + N 2 (s + 2) - 48)) 8 ((s + 2 + 1 : Nat) : Int)) 2 1) 3 (s : Int), ?_, fun j a b c d e => ?_, fun _ => ⟨?_, ?_, ?_, by omega⟩, fun z => absurd (by simp [nuB, d1, d2]) z⟩
      · rw [show m + 2 = (m + 1) + 1 from rfl]
        exact (lp_succ (f := fun z => f_X3_takeNumber_10 (m + 4) z) (n := m + 1) (s := sr N 1 q2) s3).trans s4
      · rw [rs_n b, rs_n a, rs_n d, rs_n e]; exact f2 j c d e
      · rw [rs_n (by decide), rs_s]
      · rw [rs_s]
      · rw [rs_n (by decide), rs_n (by decide), rs_s]
    · have d2' : ¬ (s + 2 < len ∧ pFg (N 2 (s + 2)) = true) := by simpa [d2S] using d2
      have s3 := stop q2 (s + 2) (m + 1) l1 l7 e28 l2 (by omega) (by omega) (fun z => d2' ⟨z.1, z.2.2⟩)
      rw [if_pos (by omega)] at s3
      refine ⟨q2, s3, fun j a b c d e => f2 j c d e, fun z => absurd z (by simp [nuB, d2]), fun _ => ⟨l2, l6, ?_, ?_⟩⟩
      · unfold nuE; rw [if_pos d1]; exact e28
      · unfold nuV; rw [if_pos d1]; exact e29
  · have d1' : ¬ (s + 1 < len ∧ pFg (N 2 (s + 1)) = true) := by simpa [d1S] using d1
    have s2 := stop q1 (s + 1) (m + 2) k1 k7 e18 k2 (by omega) (by omega) (fun z => d1' ⟨z.1, z.2.2⟩)
    rw [if_pos (by omega)] at s2
    refine ⟨q1, s2, fun j a b c d e => f1 j c d e, fun z => absurd z (by simp [nuB, d1]), fun _ => ⟨k2, k6, ?_, ?_⟩⟩
    · unfold nuE; rw [if_neg d1]; exact e18
    · unfold nuV; rw [if_neg d1]; exact e19
