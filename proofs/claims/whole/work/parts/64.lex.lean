/-! the tape's words: the object -/
def rs (r : Nat → Int) (k : Nat) (v : Int) : Nat → Int := fun j => if j = k then v else r j
theorem st_rs (N : Mem) (r : Nat → Int) (a k : Nat) (v : Int) : st (sr N a r) a k v = sr N a (rs r k v) := by
  unfold st rs; rw [sr_same, sr_sr]
theorem rs_s (r : Nat → Int) (k : Nat) (v : Int) : rs r k v k = v := by unfold rs; rw [if_pos rfl]
theorem rs_n {r : Nat → Int} {k j : Nat} {v : Int} (h : j ≠ k) : rs r k v j = r j := by unfold rs; rw [if_neg h]
theorem rs_rs (r : Nat → Int) (k : Nat) (v w : Int) : rs (rs r k v) k w = rs r k w := by
  funext j; unfold rs; split <;> rfl
/-- the first byte from i on that isn't of a kind -/
def skF (p : Int → Bool) (t : Nat → Int) (len : Nat) : Nat → Nat → Nat
  | 0, i => i
  | f + 1, i => if i < len ∧ p (t i) = true then skF p t len f (i + 1) else i
theorem skF_rng (p : Int → Bool) (t : Nat → Int) (len : Nat) : ∀ f i, i ≤ len → i ≤ skF p t len f i ∧ skF p t len f i ≤ len
  | 0, i, h => ⟨Nat.le_refl _, h⟩
  | f + 1, i, h => by
    rw [skF]
    by_cases q : i < len ∧ p (t i) = true
    · rw [if_pos q]; have := skF_rng p t len f (i + 1) (by omega); omega
    · rw [if_neg q]; omega
def pSp (b : Int) : Bool := decide (b = 32)
def pLt (b : Int) : Bool := decide (97 ≤ b ∧ b ≤ 122)
def pFg (b : Int) : Bool := decide (48 ≤ b ∧ b ≤ 57)
/-- a tape of len bytes -/
def TpOk (t : Nat → Int) (len : Nat) : Prop := len ≤ 160 ∧ ∀ i, i < len → 0 ≤ t i ∧ t i ≤ 127
theorem isLetter_c {b : Int} {M : Mem} (h : 0 ≤ b ∧ b ≤ 127) : f_X3_isLetter b M = some (if pLt b = true then 1 else 0) := by
  unfold f_X3_isLetter pLt
  rw [wr_id (by omega) (by omega)]
  by_cases h1 : b < 97
  · rw [if_pos h1, if_neg (by simp; omega)]
  · rw [if_neg h1]
    by_cases h2 : 122 < b
    · rw [if_pos h2, if_neg (by simp; omega)]
    · rw [if_neg h2, if_pos (by simp; omega)]
theorem isFigure_c {b : Int} {M : Mem} (h : 0 ≤ b ∧ b ≤ 127) : f_X3_isFigure b M = some (if pFg b = true then 1 else 0) := by
  unfold f_X3_isFigure pFg
  rw [wr_id (by omega) (by omega)]
  by_cases h1 : b < 48
  · rw [if_pos h1, if_neg (by simp; omega)]
  · rw [if_neg h1]
    by_cases h2 : 57 < b
    · rw [if_pos h2, if_neg (by simp; omega)]
    · rw [if_neg h2, if_pos (by simp; omega)]
theorem skip_c {n0 len : Nat} {N : Mem} (ht : TpOk (N 2) len) : ∀ (f n i : Nat) (r : Nat → Int), f < n → i + f = len → r 1 = (len : Int) → r 8 = (i : Int) → lp (fun s => f_X3_take_8 n0 s) n (sr N 1 r) = f_X3_take_46 n0 (sr N 1 (rs r 8 (skF pSp (N 2) len f i : Int))) := by
  obtain ⟨hl, hb⟩ := ht
  intro f
  induction f with
  | zero =>
    intro n i r hn hi h1 h8
    obtain ⟨m, rfl⟩ : ∃ m, n = m + 1 := ⟨n - 1, by omega⟩
    have er : rs r 8 (skF pSp (N 2) len 0 i : Int) = r := by funext j; unfold rs; split; rename_i q; rw [q, h8]; rfl; rfl
    rw [er]
    refine lp_map (f := fun s => f_X3_take_8 n0 s) (s := sr N 1 r) ?_
    show f_X3_take_8 n0 (sr N 1 r) = _
    unfold f_X3_take_8
    rw [sr_same, h1, h8, wr_id (by omega) (by omega), wr_id (by omega) (by omega), if_pos (by omega)]
  | succ f ih =>
    intro n i r hn hi h1 h8
    obtain ⟨m, rfl⟩ : ∃ m, n = m + 1 := ⟨n - 1, by omega⟩
    have b := hb i (by omega)
    rw [skF]
    by_cases q : N 2 i = 32
    · have e : f_X3_take_8 n0 (sr N 1 r) = some (.inl (sr N 1 (rs r 8 ((i + 1 : Nat) : Int)))) := by
        unfold f_X3_take_8
        rw [sr_same, h1, h8, wr_id (x := (len : Int)) (by omega) (by omega), wr_id (x := (i : Int)) (by omega) (by omega), if_neg (by omega), rd_id (by omega) (by omega) (by omega), Option.bind_some, sr_ne _ _ (show (2 : Nat) ≠ 1 by decide), Int.toNat_natCast, wr_id (x := N 2 i) (by omega) (by omega), if_pos q, Option.bind_some, st_rs]
        rfl
      rw [lp_succ (f := fun s => f_X3_take_8 n0 s) (s := sr N 1 r) e, ih m (i + 1) _ (by omega) (by omega) (by rw [rs_n (by decide)]; exact h1) (rs_s _ _ _), rs_rs, if_pos ⟨by omega, by simp [pSp, q]⟩]
    · have er : rs r 8 (i : Int) = r := by funext j; unfold rs; split; rename_i q; rw [q, h8]; rfl
      rw [if_neg (fun z => q (by simpa [pSp] using z.2)), er]
      refine lp_map (f := fun s => f_X3_take_8 n0 s) (s := sr N 1 r) ?_
      show f_X3_take_8 n0 (sr N 1 r) = _
      unfold f_X3_take_8
      rw [sr_same, h1, h8, wr_id (x := (len : Int)) (by omega) (by omega), wr_id (x := (i : Int)) (by omega) (by omega), if_neg (by omega), rd_id (by omega) (by omega) (by omega), Option.bind_some, sr_ne _ _ (show (2 : Nat) ≠ 1 by decide), Int.toNat_natCast, wr_id (x := N 2 i) (by omega) (by omega), if_neg q]
theorem word_c {n0 len : Nat} {N : Mem} (ht : TpOk (N 2) len) : ∀ (f n i : Nat) (r : Nat → Int), f < n → i + f = len → r 1 = (len : Int) → r 8 = (i : Int) → lp (fun s => f_X3_takeWord_5 n0 s) n (sr N 1 r) = some (sr N 1 (rs r 8 (skF pLt (N 2) len f i : Int))) := by
  obtain ⟨hl, hb⟩ := ht
  intro f
  induction f with
  | zero =>
    intro n i r hn hi h1 h8
    obtain ⟨m, rfl⟩ : ∃ m, n = m + 1 := ⟨n - 1, by omega⟩
    have er : rs r 8 (skF pLt (N 2) len 0 i : Int) = r := by funext j; unfold rs; split; rename_i q; rw [q, h8]; rfl; rfl
    rw [er]
    refine lp_end (f := fun s => f_X3_takeWord_5 n0 s) (s := sr N 1 r) ?_
    show f_X3_takeWord_5 n0 (sr N 1 r) = _
    unfold f_X3_takeWord_5
    rw [sr_same, h1, h8, wr_id (by omega) (by omega), wr_id (by omega) (by omega), if_pos (by omega)]
  | succ f ih =>
    intro n i r hn hi h1 h8
    obtain ⟨m, rfl⟩ : ∃ m, n = m + 1 := ⟨n - 1, by omega⟩
    have b := hb i (by omega)
    have e0 : f_X3_takeWord_5 n0 (sr N 1 r) = if pLt (N 2 i) = true then some (.inl (sr N 1 (rs r 8 ((i + 1 : Nat) : Int)))) else some (.inr (sr N 1 r)) := by
      unfold f_X3_takeWord_5
      rw [sr_same, h1, h8, wr_id (x := (len : Int)) (by omega) (by omega), wr_id (x := (i : Int)) (by omega) (by omega), if_neg (by omega), rd_id (by omega) (by omega) (by omega), Option.bind_some, sr_ne _ _ (show (2 : Nat) ≠ 1 by decide), Int.toNat_natCast, isLetter_c b, Option.bind_some, ifbi, Option.bind_some, st_rs]
      split <;> rfl
    rw [skF]
    by_cases q : pLt (N 2 i) = true
    · rw [if_pos q] at e0
      rw [lp_succ (f := fun s => f_X3_takeWord_5 n0 s) (s := sr N 1 r) e0, ih m (i + 1) _ (by omega) (by omega) (by rw [rs_n (by decide)]; exact h1) (rs_s _ _ _), rs_rs, if_pos ⟨by omega, q⟩]
    · rw [if_neg q] at e0
      have er : rs r 8 (i : Int) = r := by funext j; unfold rs; split; rename_i q; rw [q, h8]; rfl
      rw [if_neg (fun z => q z.2), er]
      exact lp_end (f := fun s => f_X3_takeWord_5 n0 s) (s := sr N 1 r) e0
