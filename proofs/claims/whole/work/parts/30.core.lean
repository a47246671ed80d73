/-! numbers, rows, loops: what the pure part stands on -/
theorem wr_id {x : Int} (h1 : -2147483648 ≤ x) (h2 : x ≤ 2147483647) : wr x = x := by
  unfold wr; rw [Int32.toInt_ofInt, Int.bmod_def]
  show (if x % (4294967296 : Nat) < ((4294967296 : Nat) + 1) / 2 then x % (4294967296 : Nat) else x % (4294967296 : Nat) - (4294967296 : Nat)) = x
  split <;> omega
theorem wl_id {x : Int} (h1 : -9223372036854775808 ≤ x) (h2 : x ≤ 9223372036854775807) : wl x = x := by
  unfold wl; rw [Int64.toInt_ofInt, Int.bmod_def]
  show (if x % (18446744073709551616 : Nat) < ((18446744073709551616 : Nat) + 1) / 2 then x % (18446744073709551616 : Nat) else x % (18446744073709551616 : Nat) - (18446744073709551616 : Nat)) = x
  split <;> omega
theorem wr_lo (x : Int) : -2147483648 ≤ wr x := by unfold wr; exact Int32.le_toInt _
theorem wr_hi (x : Int) : wr x ≤ 2147483647 := by unfold wr; have := Int32.toInt_lt (Int32.ofInt x); omega
theorem rd_id {M : Mem} {a n : Nat} {x : Int} (h1 : 0 ≤ x) (h2 : x < n) (h3 : n ≤ 2147483647) : rd M a n x = some (M a x.toNat) := by
  unfold rd; rw [wr_id (by omega) (by omega), if_pos ⟨h1, h2⟩]
theorem wt_id {M : Mem} {a n : Nat} {x v : Int} (h1 : 0 ≤ x) (h2 : x < n) (h3 : n ≤ 2147483647) : wt M a n x v = some (st M a x.toNat v) := by
  unfold wt; rw [wr_id (by omega) (by omega), if_pos ⟨h1, h2⟩]
theorem mxx_id {x y : Int} (h1 : -2147483648 ≤ x) (h2 : x ≤ 2147483647) (h3 : -2147483648 ≤ y) (h4 : y ≤ 2147483647) : mxx x y = max x y := by
  unfold mxx; rw [wr_id h1 h2, wr_id h3 h4]; split <;> omega
theorem mnn_id {x y : Int} (h1 : -2147483648 ≤ x) (h2 : x ≤ 2147483647) (h3 : -2147483648 ≤ y) (h4 : y ≤ 2147483647) : mnn x y = min x y := by
  unfold mnn; rw [wr_id h1 h2, wr_id h3 h4]; split <;> omega
theorem ivtdiv_id {x y : Int} (h1 : 0 ≤ x) (h2 : x ≤ 2147483647) (h3 : 0 < y) (h4 : y ≤ 2147483647) : ivtdiv x y = some (x / y) := by
  unfold ivtdiv; rw [wr_id (by omega) h2, wr_id (by omega) h4, if_neg (by omega), Int.tdiv_eq_ediv_of_nonneg h1]
theorem lp_succ {σ ρ : Type} {f : σ → Option (σ ⊕ ρ)} {n : Nat} {s s' : σ} (h : f s = some (.inl s')) : lp f (n + 1) s = lp f n s' := by
  show (match f s with | none => none | some (.inl s') => lp f n s' | some (.inr r) => some r) = _
  rw [h]
theorem lp_end {σ ρ : Type} {f : σ → Option (σ ⊕ ρ)} {n : Nat} {s : σ} {r : ρ} (h : f s = some (.inr r)) : lp f (n + 1) s = some r := by
  show (match f s with | none => none | some (.inl s') => lp f n s' | some (.inr r) => some r) = _
  rw [h]
/-- k steps, then the end -/
theorem lp_run {σ ρ : Type} {f : σ → Option (σ ⊕ ρ)} {r : ρ} (S : Nat → σ) : ∀ (k i n : Nat), k < n → (∀ q, q < k → f (S (i + q)) = some (.inl (S (i + q + 1)))) → f (S (i + k)) = some (.inr r) → lp f n (S i) = some r := by
  intro k
  induction k with
  | zero =>
    intro i n hn _ he
    obtain ⟨m, rfl⟩ : ∃ m, n = m + 1 := ⟨n - 1, by omega⟩
    exact lp_end he
  | succ k ih =>
    intro i n hn hs he
    obtain ⟨m, rfl⟩ : ∃ m, n = m + 1 := ⟨n - 1, by omega⟩
    have h0 : f (S i) = some (.inl (S (i + 1))) := hs 0 (by omega)
    rw [lp_succ h0]
    refine ih (i + 1) m (by omega) (fun q hq => ?_) ?_
    · have := hs (q + 1) (by omega)
      rw [show i + (q + 1) = i + 1 + q by omega] at this
      exact this
    · rw [show i + 1 + k = i + (k + 1) by omega]; exact he
theorem lp_run0 {σ ρ : Type} {f : σ → Option (σ ⊕ ρ)} {r : ρ} (S : Nat → σ) (k : Nat) {n : Nat} (hn : k < n) (hs : ∀ q, q < k → f (S q) = some (.inl (S (q + 1)))) (he : f (S k) = some (.inr r)) : lp f n (S 0) = some r :=
  lp_run S k 0 n hn (fun q hq => by rw [Nat.zero_add]; exact hs q hq) (by rw [Nat.zero_add]; exact he)
theorem sr_same (M : Mem) (a : Nat) (r : Nat → Int) : sr M a r a = r := by unfold sr; rw [if_pos rfl]
theorem sr_ne (M : Mem) {a b : Nat} (r : Nat → Int) (h : b ≠ a) : sr M a r b = M b := by unfold sr; rw [if_neg h]
theorem sr_sr (M : Mem) (a : Nat) (r r' : Nat → Int) : sr (sr M a r) a r' = sr M a r' := by
  funext b; unfold sr; split <;> rfl
theorem sr_self (M : Mem) (a : Nat) : sr M a (M a) = M := by
  funext b; unfold sr; split
  · rename_i h; rw [h]
  · rfl
theorem st_same (M : Mem) (a k : Nat) (v : Int) : st M a k v a k = v := by unfold st; rw [sr_same, if_pos rfl]
theorem st_ne (M : Mem) {a b : Nat} (k : Nat) (v : Int) (h : b ≠ a) : st M a k v b = M b := by unfold st; rw [sr_ne _ _ h]
theorem st_nk (M : Mem) (a : Nat) {k i : Nat} (v : Int) (h : i ≠ k) : st M a k v a i = M a i := by unfold st; rw [sr_same, if_neg h]
theorem st_at (M : Mem) (a k b i : Nat) (v : Int) : st M a k v b i = if b = a ∧ i = k then v else M b i := by
  unfold st sr
  by_cases h : b = a
  · subst h; simp
  · simp [h]
theorem ite_some {α : Type} {c : Prop} [Decidable c] (a b : α) : (if c then some a else some b) = some (if c then a else b) := by split <;> rfl
/-- what the lands bear -/
def hv (y : Nat → Int) : Nat → Int
  | 0 => 0
  | n + 1 => hv y n + y n
theorem hv_cong {y z : Nat → Int} : ∀ {n : Nat}, (∀ i, i < n → y i = z i) → hv y n = hv z n
  | 0, _ => rfl
  | n + 1, h => by rw [hv, hv, hv_cong (fun i hi => h i (by omega)), h n (by omega)]
theorem hv_rng {y : Nat → Int} {c : Int} : ∀ {n : Nat}, (∀ i, i < n → 0 ≤ y i ∧ y i ≤ c) → 0 ≤ hv y n ∧ hv y n ≤ n * c
  | 0, _ => by simp [hv]
  | n + 1, h => by
    have h1 := hv_rng (n := n) (fun i hi => h i (by omega))
    have h2 := h n (by omega)
    rw [hv]
    have e : ((n + 1 : Nat) : Int) * c = n * c + c := by rw [Int.natCast_add, Int.add_mul]; simp
    omega
