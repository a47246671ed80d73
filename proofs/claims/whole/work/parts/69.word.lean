/-! the known words -/
def wlS (k : Nat) : Nat := lenS.getD k 0
def wcS (k i : Nat) : Int := ((bytS.getD k []).getD i 0).toInt
/-- the bytes from s to e are the word k -/
def isW (t : Nat → Int) (s e k : Nat) : Bool := decide (e - s = wlS k) && allB (fun i => decide (t (s + i) = wcS k i)) 0 (wlS k)
theorem word_all : ∀ k : Fin 11, 3 ≤ wlS k.val ∧ wlS k.val ≤ 7 ∧ cutL.getD (k.val + 1) 0 - cutL.getD k.val 0 = (wlS k.val : Int) ∧ 0 ≤ cutL.getD k.val 0 ∧ cutL.getD k.val 0 + wlS k.val ≤ 54 := by decide +kernel
theorem lett_all : ∀ k : Fin 11, ∀ i : Fin 7, i.val < wlS k.val → letL.getD ((cutL.getD k.val 0).toNat + i.val) 0 = wcS k.val i.val ∧ 97 ≤ wcS k.val i.val ∧ wcS k.val i.val ≤ 122 := by decide +kernel
theorem isWord_lp {n0 len s k : Nat} {N : Mem} {r : Nat → Int} (ht : TpOk (N 2) len) (hk : k < 11) (h7 : r 7 = (s : Int)) (hs : s + wlS k ≤ len) : ∀ (f n i : Nat), f < n → i + f = wlS k → lp (fun z => f_X3_isWord_27 n0 k z (sr N 1 r)) n (i : Int) = some (if allB (fun i => decide (N 2 (s + i) = wcS k i)) i f then 1 else 0) := by
  have hl := ht.1
  have wk := word_all ⟨k, hk⟩
  dsimp only at wk
  intro f
  induction f with
  | zero =>
    intro n i hn hi
    obtain ⟨m, rfl⟩ : ∃ m, n = m + 1 := ⟨n - 1, by omega⟩
    refine lp_end (f := fun z => f_X3_isWord_27 n0 k z (sr N 1 r)) (s := (i : Int)) ?_
    show f_X3_isWord_27 n0 k (i : Int) (sr N 1 r) = _
    unfold f_X3_isWord_27
    rw [show slen k = (wlS k : Int) from rfl, wr_id (x := (wlS k : Int)) (by omega) (by omega), wr_id (x := (i : Int)) (by omega) (by omega), if_pos (by omega)]
    rfl
  | succ f ih =>
    intro n i hn hi
    obtain ⟨m, rfl⟩ : ∃ m, n = m + 1 := ⟨n - 1, by omega⟩
    have b := ht.2 (s + i) (by omega)
    have lk := lett_all ⟨k, hk⟩ ⟨i, by omega⟩ (by dsimp only; omega)
    dsimp only at lk
    have e : f_X3_isWord_27 n0 k (i : Int) (sr N 1 r) = if N 2 (s + i) = wcS k i then some (.inl ((i : Int) + 1)) else some (.inr 0) := by
      unfold f_X3_isWord_27 schr
      rw [show slen k = (wlS k : Int) from rfl, wr_id (x := (wlS k : Int)) (by omega) (by omega), wr_id (x := (i : Int)) (by omega) (by omega), if_neg (by omega), sr_same, h7, rd_id (by omega) (by omega) (by omega), Option.bind_some, if_pos (by omega), Option.bind_some, sr_ne _ _ (show (2 : Nat) ≠ 1 by decide), Int.toNat_natCast, show ((s : Int) + (i : Int)).toNat = s + i by omega, wr_id (x := N 2 (s + i)) (by omega) (by omega)]
      show (if N 2 (s + i) = wr (wcS k i) then _ else _) = _
      rw [wr_id (x := wcS k i) (by omega) (by omega)]
    rw [allB]
    by_cases q : N 2 (s + i) = wcS k i
    · rw [if_pos q] at e
      rw [lp_succ (f := fun z => f_X3_isWord_27 n0 k z (sr N 1 r)) (s := (i : Int)) e]
      have := ih m (i + 1) (by omega) (by omega)
      simp only [q, decide_true, Bool.true_and]
      exact this
    · rw [if_neg q] at e
      rw [lp_end (f := fun z => f_X3_isWord_27 n0 k z (sr N 1 r)) (s := (i : Int)) e]
      simp [q]
theorem isWord_c {n len s e k : Nat} {N : Mem} {r : Nat → Int} (hn : 1000 ≤ n) (ht : TpOk (N 2) len) (hk : k < 11) (h6 : r 6 = 0) (h7 : r 7 = (s : Int)) (h8 : r 8 = (e : Int)) (he : s ≤ e ∧ e ≤ len) : f_X3_isWord n k (sr N 1 r) = some (if isW (N 2) s e k = true then 1 else 0) := by
  have hl := ht.1
  have wk := word_all ⟨k, hk⟩
  dsimp only at wk
  unfold f_X3_isWord isW
  rw [sr_same, h6, if_pos wr_0, h7, h8, wr_id (x := (e : Int) - (s : Int)) (by omega) (by omega), show slen k = (wlS k : Int) from rfl, wr_id (x := (wlS k : Int)) (by omega) (by omega)]
  by_cases q : e - s = wlS k
  · rw [if_pos (by omega)]
    have := isWord_lp (n0 := n) (N := N) (r := r) ht hk h7 (by omega) (wlS k) n 0 (by omega) (by omega)
    simp only [q, decide_true, Bool.true_and]
    exact this
  · rw [if_neg (by omega)]
    simp [q]
/-- another kind of token is no word -/
theorem isWord_n {n k : Nat} {N : Mem} {r : Nat → Int} (h6 : r 6 = 1 ∨ r 6 = 2 ∨ r 6 = 3) : f_X3_isWord n k (sr N 1 r) = some 0 := by
  unfold f_X3_isWord
  rw [sr_same, wr_id (x := r 6) (by omega) (by omega), if_neg (by omega)]
