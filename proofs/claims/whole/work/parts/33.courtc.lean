/-! copies, told years, drafts -/
def rg (x : Int) : Prop := -2147483648 ≤ x ∧ x ≤ 2147483647
theorem wr_rg {x : Int} (h : rg x) : wr x = x := wr_id h.1 h.2
theorem ifbi {α : Type} {c : Prop} [Decidable c] (A B : α) : (if wr (if c then (1 : Int) else 0) = 0 then A else B) = if c then B else A := by
  by_cases h : c
  · rw [if_pos h, if_pos h, if_neg w1n0]
  · rw [if_neg h, if_neg h, if_pos wr_0]
theorem ifbi1 {α : Type} {c : Prop} [Decidable c] (A B : α) : (if wr (if c then (1 : Int) else 0) = 1 then A else B) = if c then A else B := by
  by_cases h : c
  · rw [if_pos h, if_pos h, if_pos wr_1]
  · rw [if_neg h, if_neg h, if_neg (by rw [wr_0]; decide)]
theorem within_c {x a b : Int} {M : Mem} (hx : rg x) (ha : rg a) (hb : rg b) : f_X5_within x a b M = some (if a ≤ x ∧ x ≤ b then 1 else 0) := by
  unfold f_X5_within
  rw [wr_rg hx, wr_rg ha, wr_rg hb]
  by_cases h1 : x < a
  · rw [if_pos h1, if_neg (by omega)]
  · rw [if_neg h1]
    by_cases h2 : b < x
    · rw [if_pos h2, if_neg (by omega)]
    · rw [if_neg h2, if_pos (by omega)]
theorem isFlag_c {x : Int} {M : Mem} (hx : rg x) : f_X5_isFlag x M = some (if x = 0 ∨ x = 1 then 1 else 0) := by
  unfold f_X5_isFlag
  rw [wr_rg hx]
  by_cases h1 : x = 0
  · rw [if_pos h1, if_pos (Or.inl h1)]
  · rw [if_neg h1]
    by_cases h2 : x = 1
    · rw [if_pos h2, if_pos (Or.inr h2)]
    · rw [if_neg h2, if_neg (by omega)]
theorem bz_bi {c : Prop} [Decidable c] : bz (if c then 1 else 0) = some (if c then 1 else 0) := by
  unfold bz; split <;> simp
theorem isRot_c {x : Int} {M : Mem} (hx : rg x) : f_X5_isRot x M = some (if x ≠ 1 ∧ 0 ≤ x ∧ x ≤ 9 then 1 else 0) := by
  unfold f_X5_isRot
  rw [within_c hx (by unfold rg; omega) (by unfold rg; omega), Option.bind_some, ifbi, wr_rg hx]
  by_cases h1 : x = 1
  · rw [if_pos h1, if_neg (fun q => q.1 h1)]
  · rw [if_neg h1]
    by_cases h2 : 0 ≤ x ∧ x ≤ 9
    · rw [if_pos h2, if_pos ⟨h1, h2⟩]
    · rw [if_neg h2, if_neg (fun q => h2 q.2)]
theorem isSheet_c {x : Int} {M : Mem} (hx : rg x) : f_X5_isSheet x M = some (if 0 ≤ x ∧ x ≤ 3 then 1 else 0) := by
  unfold f_X5_isSheet
  rw [within_c hx (by unfold rg; omega) (by unfold rg; omega), Option.bind_some, bz_bi, Option.bind_some]
theorem isLane_c {x : Int} {M : Mem} (hx : rg x) : f_X5_isLane x M = some (if 0 ≤ x ∧ x ≤ 2 then 1 else 0) := by
  unfold f_X5_isLane
  rw [within_c hx (by unfold rg; omega) (by unfold rg; omega), Option.bind_some, bz_bi, Option.bind_some]
theorem isLand_c {x : Int} {M : Mem} (hx : rg x) (h : 0 ≤ M 3 4 ∧ M 3 4 ≤ 4) : f_X5_isLand x M = some (if 0 ≤ x ∧ x ≤ M 3 4 - 1 then 1 else 0) := by
  unfold f_X5_isLand
  rw [within_c hx (by unfold rg; omega) (by unfold rg; omega), Option.bind_some, bz_bi, Option.bind_some]
theorem isReading_c {x : Int} {M : Mem} (hx : rg x) (h : 0 ≤ M 3 5 ∧ M 3 5 ≤ 4) : f_X5_isReading x M = some (if 0 ≤ x ∧ x ≤ M 3 5 - 1 then 1 else 0) := by
  unfold f_X5_isReading
  rw [within_c hx (by unfold rg; omega) (by unfold rg; omega), Option.bind_some, bz_bi, Option.bind_some]
/-- a told year: its answer, and the court behind it -/
def ptS (S : Nat → Int) (B : Int → Int) (f k : Int) : Int × (Nat → Int) := if (f = 0 ∨ f = 1) ∧ 0 ≤ k ∧ k ≤ S 8 ∧ k ≤ lfS S B f then (if S 15 < 8 then (hgS S B f, psS S B f k) else (-3, S)) else (-1, S)
theorem passTold_c {n j : Nat} {M : Mem} {f k : Int} (hn : 5 ≤ n) (hL : 0 ≤ M j 4 ∧ M j 4 ≤ 4) (h : OkS (M j)) (hB : OkB (B2 M j)) (hf : rg f) (hk : rg k) : f_X2_passTold n j f k M = some ((ptS (M j) (B2 M j) f k).1, sr M j (ptS (M j) (B2 M j) f k).2) := by
  unfold f_X2_passTold ptS
  rw [isFlag_c hf, Option.bind_some, ifbi]
  by_cases h1 : f = 0 ∨ f = 1
  · rw [if_pos h1]
    have hb := hB f h1
    have hl := lfS_rng h hB h1
    have h' := h
    obtain ⟨h6, h7, h8, h9, h10, h11, h12, h13, h14, h15⟩ := h'
    rw [foodIn_c hn hL.1 hL.2 h1, Option.bind_some, leftOf_c h6 (by omega) (by omega), Option.bind_some]
    show (f_X5_within k 0 (mnn (M j 8) (lfS (M j) (B2 M j) f)) M).bind _ = _
    rw [mnn_id (by omega) (by omega) (by omega) (by omega), within_c hk (by unfold rg; omega) (by unfold rg; omega), Option.bind_some, ifbi]
    by_cases h2 : 0 ≤ k ∧ k ≤ min (M j 8) (lfS (M j) (B2 M j) f)
    · rw [if_pos h2, if_pos (show (f = 0 ∨ f = 1) ∧ 0 ≤ k ∧ k ≤ M j 8 ∧ k ≤ lfS (M j) (B2 M j) f from ⟨h1, by omega, by omega, by omega⟩), isOver_c h15, Option.bind_some]
      by_cases h3 : M j 15 < 8
      · rw [if_pos h3, if_pos wr_0, pass_c hn hL h hB h1 (by omega) (by omega), if_pos h3]
        rfl
      · rw [if_neg h3, if_neg w1n0, if_neg h3]
        rw [sr_self]
    · rw [if_neg h2, if_neg (fun q => h2 ⟨q.2.1, by omega⟩), sr_self]
  · rw [if_neg h1, if_neg (fun q => h1 q.1), sr_self]
theorem cpy_at (M : Mem) (a b n c k : Nat) : cpy M a b n c k = if c = b ∧ k < n then M a k else M c k := by
  unfold cpy sr
  by_cases h : c = b
  · subst h; simp
  · simp [h]
/-- the court at q copied to j -/
def cpS (M : Mem) (j q : Nat) : Mem := fun a => if a = j then (fun k => if 4 ≤ k ∧ k ≤ 18 then M q k else M j k) else if j + 1 ≤ a ∧ a ≤ j + 4 then (fun k => if k < 4 then M (q + (a - j)) k else M a k) else M a
theorem appoint_c (j : Nat) (x y : Int) (M : Mem) : f_X2_appoint j x y M = some (st (st M j 13 x) j 14 y) := rfl
theorem copy_c {j q : Nat} {M : Mem} (h : j + 5 ≤ q ∨ q + 5 ≤ j) : f_X2_copy j q M = some (cpS M j q) := by
  unfold f_X2_copy
  simp only [Option.bind_some, appoint_c]
  congr 1
  have n0 : ¬ q = j := by omega
  funext a k
  unfold cpS
  simp only [st_at, cpy_at]
  by_cases ha : a = j
  · subst ha
    have m1 : ∀ i, 1 ≤ i → i ≤ 4 → ¬ a = a + i := fun i _ _ => by omega
    have m2 : ∀ i, 1 ≤ i → i ≤ 4 → ¬ q = a + i := fun i _ _ => by omega
    simp only [n0, false_and, if_false, true_and, m1 1 (by decide) (by decide), m1 2 (by decide) (by decide), m1 3 (by decide) (by decide), m1 4 (by decide) (by decide), m2 1 (by decide) (by decide), m2 2 (by decide) (by decide), m2 3 (by decide) (by decide), m2 4 (by decide) (by decide), if_true]
    by_cases hk : 4 ≤ k ∧ k ≤ 18
    · rw [if_pos hk]
      have : k = 4 ∨ k = 5 ∨ k = 6 ∨ k = 7 ∨ k = 8 ∨ k = 9 ∨ k = 10 ∨ k = 11 ∨ k = 12 ∨ k = 13 ∨ k = 14 ∨ k = 15 ∨ k = 16 ∨ k = 17 ∨ k = 18 := by omega
      rcases this with rfl | rfl | rfl | rfl | rfl | rfl | rfl | rfl | rfl | rfl | rfl | rfl | rfl | rfl | rfl <;> simp
    · rw [if_neg hk, if_neg (by omega), if_neg (by omega), if_neg (by omega), if_neg (by omega), if_neg (by omega), if_neg (by omega), if_neg (by omega), if_neg (by omega), if_neg (by omega), if_neg (by omega), if_neg (by omega), if_neg (by omega), if_neg (by omega), if_neg (by omega), if_neg (by omega)]
  · simp only [ha, false_and, if_false]
    by_cases hr : j + 1 ≤ a ∧ a ≤ j + 4
    · rw [if_pos hr]
      have : a = j + 1 ∨ a = j + 2 ∨ a = j + 3 ∨ a = j + 4 := by omega
      have c1 : ∀ i i', 1 ≤ i → i ≤ 4 → 1 ≤ i' → i' ≤ 4 → ¬ q + i = j + i' := fun i i' _ _ _ _ => by omega
      rcases this with rfl | rfl | rfl | rfl <;> simp [c1 _ _ (show 1 ≤ 2 by decide) (show 2 ≤ 4 by decide) (show 1 ≤ 1 by decide) (show 1 ≤ 4 by decide), c1 3 1 (by decide) (by decide) (by decide) (by decide), c1 4 1 (by decide) (by decide) (by decide) (by decide), c1 3 2 (by decide) (by decide) (by decide) (by decide), c1 4 2 (by decide) (by decide) (by decide) (by decide), c1 4 3 (by decide) (by decide) (by decide) (by decide)] <;> (try (split <;> simp_all))
    · rw [if_neg hr]
      have : ¬ a = j + 1 ∧ ¬ a = j + 2 ∧ ¬ a = j + 3 ∧ ¬ a = j + 4 := by omega
      simp [this]
theorem cpS_s (M : Mem) (j q k : Nat) (h : 4 ≤ k ∧ k ≤ 18) : cpS M j q j k = M q k := by unfold cpS; simp [h]
theorem cpS_a {M : Mem} {j q i k : Nat} (hi : 1 ≤ i ∧ i ≤ 4) (hk : k < 4) : cpS M j q (j + i) k = M (q + i) k := by
  unfold cpS
  rw [if_neg (by omega), if_pos (by omega), if_pos hk, show j + i - j = i by omega]
theorem cpS_o {M : Mem} {j q a : Nat} (h : a < j ∨ j + 4 < a) : cpS M j q a = M a := by
  unfold cpS
  rw [if_neg (by omega), if_neg (by omega)]
theorem B2_cp {M : Mem} {j q : Nat} (h : 0 ≤ M q 4 ∧ M q 4 ≤ 4) : B2 (cpS M j q) j = B2 M q := by
  funext f
  unfold B2
  rw [cpS_s _ _ _ 4 (by decide)]
  rw [hv_cong (fun i hi => cpS_a (M := M) (j := j) (q := q) (i := 1) (by decide) (show i < 4 by omega)), hv_cong (fun i hi => cpS_a (M := M) (j := j) (q := q) (i := 2) (by decide) (show i < 4 by omega))]
