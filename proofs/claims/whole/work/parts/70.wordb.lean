/-! the known words: the reference -/
theorem wh_lp {n0 len s e k : Nat} {N : Mem} {r : Nat → Int} (ht : TpOk (N 51) len) (hc : RelC N) (hk : k < 11) (h10 : r 10 = (len : Int)) (h14 : r 14 = (e : Int)) (h15 : r 15 = (s : Int)) (he : e = s + wlS k) (hs : e ≤ len) : ∀ (f n i : Nat) (b : Bool), f + 1 < n → i + f = wlS k → lp (fun z => f_X6_wordHere_51 n0 (k : Int) z.1 z.2 (sr N 46 r)) n ((if b then 1 else 0 : Int), (i : Int)) = some (if b && allB (fun i => decide (N 51 (s + i) = wcS k i)) i f then .inr (k : Int) else .inl ((k : Int) + 1)) := by
  have hl := ht.1
  have wk := word_all ⟨k, hk⟩
  dsimp only at wk
  have out : ∀ (m i : Nat), lp (fun z => f_X6_wordHere_51 n0 (k : Int) z.1 z.2 (sr N 46 r)) (m + 1) ((0 : Int), (i : Int)) = some (.inl ((k : Int) + 1)) := by
    intro m i
    refine lp_map (f := fun z => f_X6_wordHere_51 n0 (k : Int) z.1 z.2 (sr N 46 r)) (s := ((0 : Int), (i : Int))) (o := some (.inl ((k : Int) + 1))) ?_
    show f_X6_wordHere_51 n0 (k : Int) 0 (i : Int) (sr N 46 r) = _
    unfold f_X6_wordHere_51 f_X6_wordHere_106
    rw [if_pos wr_0, if_pos wr_0]
  intro f
  induction f with
  | zero =>
    intro n i b hn hi
    obtain ⟨m, rfl⟩ : ∃ m, n = m + 1 := ⟨n - 1, by omega⟩
    cases b with
    | false => exact out m i
    | true =>
      refine lp_map (f := fun z => f_X6_wordHere_51 n0 (k : Int) z.1 z.2 (sr N 46 r)) (s := ((1 : Int), (i : Int))) (o := some (.inr (k : Int))) ?_
      show f_X6_wordHere_51 n0 (k : Int) 1 (i : Int) (sr N 46 r) = _
      unfold f_X6_wordHere_51 f_X6_wordHere_106
      rw [if_neg w1n0, if_neg w1n0, sr_same, h14, h15, wr_id (x := (e : Int) - (s : Int)) (by omega) (by omega), wr_id (x := (i : Int)) (by omega) (by omega), if_pos (by omega)]
  | succ f ih =>
    intro n i b hn hi
    obtain ⟨m, rfl⟩ : ∃ m, n = m + 1 := ⟨n - 1, by omega⟩
    cases b with
    | false => exact out m i
    | true =>
      have bb := ht.2 (s + i) (by omega)
      have et : tb (N 51) len (s + i) = N 51 (s + i) := by unfold tb; rw [if_pos (by omega)]
      have lk := lett_all ⟨k, hk⟩ ⟨i, by omega⟩ (by dsimp only; omega)
      dsimp only at lk
      have e1 : f_X6_wordHere_51 n0 (k : Int) 1 (i : Int) (sr N 46 r) = some (.inl ((if decide (N 51 (s + i) = wcS k i) then 1 else 0 : Int), ((i + 1 : Nat) : Int))) := by
        unfold f_X6_wordHere_51 f_X6_wordHere_99
        rw [if_neg w1n0, sr_same, h14, h15, wr_id (x := (e : Int) - (s : Int)) (by omega) (by omega), wr_id (x := (i : Int)) (by omega) (by omega), if_neg (by omega), show (s : Int) + (i : Int) = ((s + i : Nat) : Int) by omega, byteAt_r ht h10 (by omega), Option.bind_some, rd_id (by omega) (by omega) (by omega), Option.bind_some, sr_ne _ _ (show (52 : Nat) ≠ 46 by decide), Int.toNat_natCast, hc.1 k (by omega), rd_id (by omega) (by omega) (by omega), Option.bind_some, sr_ne _ _ (show (53 : Nat) ≠ 46 by decide), hc.2 _ (by omega), show (cutL.getD k 0 + (i : Int)).toNat = (cutL.getD k 0).toNat + i by omega, lk.1, et, wr_id (x := N 51 (s + i)) (by omega) (by omega), wr_id (x := wcS k i) (by omega) (by omega)]
        by_cases q : N 51 (s + i) = wcS k i
        · rw [if_pos q]; simp [q]
        · rw [if_neg q]; simp [q]
      show lp (fun z => f_X6_wordHere_51 n0 (k : Int) z.1 z.2 (sr N 46 r)) (m + 1) ((1 : Int), (i : Int)) = _
      rw [lp_succ (f := fun z => f_X6_wordHere_51 n0 (k : Int) z.1 z.2 (sr N 46 r)) (s := ((1 : Int), (i : Int))) e1, ih m (i + 1) (decide (N 51 (s + i) = wcS k i)) (by omega) (by omega), allB, Bool.true_and]
theorem wh_k {n0 len s e k : Nat} {N : Mem} {r : Nat → Int} (hn : 1000 ≤ n0) (ht : TpOk (N 51) len) (hc : RelC N) (hk : k < 11) (h10 : r 10 = (len : Int)) (h14 : r 14 = (e : Int)) (h15 : r 15 = (s : Int)) (h16 : r 16 = 1) (he : s ≤ e ∧ e ≤ len) : f_X6_wordHere_2 n0 (k : Int) (sr N 46 r) = some (if isW (N 51) s e k = true then .inr (k : Int) else .inl ((k : Int) + 1)) := by
  have hl := ht.1
  have wk := word_all ⟨k, hk⟩
  dsimp only at wk
  unfold f_X6_wordHere_2 f_X6_wordHere_48 isW
  rw [wr_id (x := (k : Int)) (by omega) (by omega), if_neg (by omega), sr_same, h16, if_pos wr_1, h14, h15, rd_id (by omega) (by omega) (by omega), Option.bind_some, rd_id (by omega) (by omega) (by omega), Option.bind_some, sr_ne _ _ (show (52 : Nat) ≠ 46 by decide), Int.toNat_natCast, show ((k : Int) + 1).toNat = k + 1 by omega, hc.1 k (by omega), hc.1 (k + 1) (by omega), wk.2.2.1, wr_id (x := (e : Int) - (s : Int)) (by omega) (by omega), wr_id (x := (wlS k : Int)) (by omega) (by omega)]
  by_cases q : e - s = wlS k
  · rw [if_pos (by omega)]
    have := wh_lp (n0 := n0) (N := N) (r := r) (s := s) (e := e) ht hc hk h10 h14 h15 (by omega) he.2 (wlS k) n0 0 true (by omega) (by omega)
    simp only [q, decide_true]
    exact this
  · rw [if_neg (by omega)]
    obtain ⟨m, rfl⟩ : ∃ m, n0 = m + 1 := ⟨n0 - 1, by omega⟩
    simp only [q, decide_false, Bool.false_and]
    refine lp_map (f := fun z => f_X6_wordHere_51 (m + 1) (k : Int) z.1 z.2 (sr N 46 r)) (s := ((0 : Int), (0 : Int))) (o := some (.inl ((k : Int) + 1))) ?_
    show f_X6_wordHere_51 (m + 1) (k : Int) 0 0 (sr N 46 r) = _
    unfold f_X6_wordHere_51 f_X6_wordHere_106
    rw [if_pos wr_0, if_pos wr_0]
theorem wordHere_r {n len s e : Nat} {N : Mem} {r : Nat → Int} (hn : 1000 ≤ n) (ht : TpOk (N 51) len) (hc : RelC N) (h10 : r 10 = (len : Int)) (h14 : r 14 = (e : Int)) (h15 : r 15 = (s : Int)) (h16 : r 16 = 1) (he : s ≤ e ∧ e ≤ len) : f_X6_wordHere n (sr N 46 r) = some (fsS (fun k => isW (N 51) s e k) 0 11) := by
  have key : ∀ (f q k : Nat), f < q → k + f = 11 → lp (fun z => f_X6_wordHere_2 n z (sr N 46 r)) q (k : Int) = some (fsS (fun k => isW (N 51) s e k) k f) := by
    intro f
    induction f with
    | zero =>
      intro q k hq hk
      obtain ⟨m, rfl⟩ : ∃ m, q = m + 1 := ⟨q - 1, by omega⟩
      refine lp_end (f := fun z => f_X6_wordHere_2 n z (sr N 46 r)) (s := (k : Int)) ?_
      show f_X6_wordHere_2 n (k : Int) (sr N 46 r) = _
      unfold f_X6_wordHere_2
      rw [wr_id (x := (k : Int)) (by omega) (by omega), if_pos (by omega)]
      rfl
    | succ f ih =>
      intro q k hq hk
      obtain ⟨m, rfl⟩ : ∃ m, q = m + 1 := ⟨q - 1, by omega⟩
      have a := wh_k (n0 := n) (k := k) hn ht hc (by omega) h10 h14 h15 h16 he
      rw [fsS]
      by_cases z : isW (N 51) s e k = true
      · rw [if_pos z] at a ⊢
        exact lp_end (f := fun z => f_X6_wordHere_2 n z (sr N 46 r)) (s := (k : Int)) a
      · rw [if_neg z] at a ⊢
        rw [lp_succ (f := fun z => f_X6_wordHere_2 n z (sr N 46 r)) (s := (k : Int)) a]
        exact ih m (k + 1) (by omega) (by omega)
  exact key 11 n 0 (by omega) (by omega)
theorem wordHere_n {n : Nat} {N : Mem} {r : Nat → Int} (hn : 1000 ≤ n) (h16 : r 16 = 0 ∨ r 16 = 2 ∨ r 16 = 3) : f_X6_wordHere n (sr N 46 r) = some (-4) := by
  obtain ⟨m, rfl⟩ : ∃ m, n = m + 1 := ⟨n - 1, by omega⟩
  refine lp_end (f := fun z => f_X6_wordHere_2 (m + 1) z (sr N 46 r)) (s := (0 : Int)) ?_
  show f_X6_wordHere_2 (m + 1) 0 (sr N 46 r) = _
  unfold f_X6_wordHere_2
  rw [wr_0, if_neg (by decide), sr_same, wr_id (x := r 16) (by omega) (by omega), if_neg (by omega)]
