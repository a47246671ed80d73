/-! a fraction in lowest terms; fat -/
def gE : Nat → Int → Int → Int
  | 0, a, _ => a
  | t + 1, a, b => if b = 0 then a else gE t b (a.tmod b)
theorem tmod_rng {a b : Int} (ha : 0 ≤ a) (hb : 0 < b) : 0 ≤ a.tmod b ∧ a.tmod b < b := by
  rw [Int.tmod_eq_emod_of_nonneg ha]
  exact ⟨Int.emod_nonneg _ (by omega), Int.emod_lt_of_pos _ hb⟩
theorem gE_rng : ∀ (t : Nat) (a b : Int), 0 ≤ a → 0 ≤ b → b ≤ t → (0 < a ∨ 0 < b) → 1 ≤ gE t a b ∧ (gE t a b ≤ a ∨ gE t a b ≤ b)
  | 0, a, b, ha, hb, ht, h => by rw [gE]; omega
  | t + 1, a, b, ha, hb, ht, h => by
    rw [gE]
    by_cases q : b = 0
    · rw [if_pos q]; omega
    · rw [if_neg q]
      have m := tmod_rng ha (show 0 < b by omega)
      have := gE_rng t b (a.tmod b) hb m.1 (by omega) (Or.inl (by omega))
      omega
theorem gcd_c {n0 : Nat} {M : Mem} : ∀ (t n : Nat) (a b i : Int), t < n → 0 ≤ a → a ≤ 2000000000 → 0 ≤ b → b ≤ t → b ≤ 1000 → 0 ≤ i → i + t < 64 → lp (fun s => f_X5_greatestDivisor_7 n0 s.1 s.2.1 s.2.2 M) n (a, b, i) = some (gE t a b) := by
  intro t
  induction t with
  | zero =>
    intro n a b i hn ha ha2 hb hbt hb2 hi hi2
    obtain ⟨m, rfl⟩ : ∃ m, n = m + 1 := ⟨n - 1, by omega⟩
    have : b = 0 := by omega
    subst this
    refine lp_end (s := (a, (0 : Int), i)) ?_
    show f_X5_greatestDivisor_7 n0 a 0 i M = _
    unfold f_X5_greatestDivisor_7
    rw [wr_id (x := i) (by omega) (by omega), if_neg (by omega), if_pos wr_0]
    rfl
  | succ t ih =>
    intro n a b i hn ha ha2 hb hbt hb2 hi hi2
    obtain ⟨m, rfl⟩ : ∃ m, n = m + 1 := ⟨n - 1, by omega⟩
    rw [gE]
    by_cases q : b = 0
    · rw [if_pos q]
      subst q
      refine lp_end (s := (a, (0 : Int), i)) ?_
      show f_X5_greatestDivisor_7 n0 a 0 i M = _
      unfold f_X5_greatestDivisor_7
      rw [wr_id (x := i) (by omega) (by omega), if_neg (by omega), if_pos wr_0]
    · rw [if_neg q]
      have mm := tmod_rng ha (show 0 < b by omega)
      have e : f_X5_greatestDivisor_7 n0 a b i M = some (.inl (b, a.tmod b, i + 1)) := by
        unfold f_X5_greatestDivisor_7 ivtmod
        rw [wr_id (x := i) (by omega) (by omega), if_neg (by omega), wr_id (x := b) (by omega) (by omega), if_neg q, if_neg q, Option.bind_some, wr_id (x := a) (by omega) (by omega)]
      rw [lp_succ (f := fun s => f_X5_greatestDivisor_7 n0 s.1 s.2.1 s.2.2 M) (s := (a, b, i)) e]
      exact ih m b (a.tmod b) (i + 1) (by omega) hb (by omega) mm.1 (by omega) (by omega) (by omega) (by omega)
theorem gcd_r {n0 : Nat} {M : Mem} {x y w : Int} : ∀ (t n : Nat) (a b : Int), t < n → 0 ≤ a → a ≤ 2000000000 → 0 ≤ b → b ≤ t → b ≤ 1000 → lp (fun s => f_X6_lowest_17 n0 x y w s.1 s.2 M) n (a, b) = f_X6_lowest_42 n0 x y w (gE t a b) M := by
  intro t
  have fin : ∀ (m : Nat) (a : Int), lp (fun s => f_X6_lowest_17 n0 x y w s.1 s.2 M) (m + 1) (a, 0) = f_X6_lowest_42 n0 x y w a M := by
    intro m a
    refine lp_map (f := fun s => f_X6_lowest_17 n0 x y w s.1 s.2 M) (s := (a, (0 : Int))) ?_
    show f_X6_lowest_17 n0 x y w a 0 M = _
    unfold f_X6_lowest_17
    rw [wl_id (x := 0) (by decide) (by decide), if_pos rfl]
  induction t with
  | zero =>
    intro n a b hn ha ha2 hb hbt hb2
    obtain ⟨m, rfl⟩ : ∃ m, n = m + 1 := ⟨n - 1, by omega⟩
    have : b = 0 := by omega
    subst this
    exact fin m a
  | succ t ih =>
    intro n a b hn ha ha2 hb hbt hb2
    obtain ⟨m, rfl⟩ : ∃ m, n = m + 1 := ⟨n - 1, by omega⟩
    rw [gE]
    by_cases q : b = 0
    · rw [if_pos q]; subst q; exact fin m a
    · rw [if_neg q]
      have mm := tmod_rng ha (show 0 < b by omega)
      have e : f_X6_lowest_17 n0 x y w a b M = some (.inl (b, a.tmod b)) := by
        unfold f_X6_lowest_17 lvtmod
        rw [wl_id (x := b) (by omega) (by omega), if_neg q, if_neg q, Option.bind_some, wl_id (x := a) (by omega) (by omega)]
      rw [lp_succ (f := fun s => f_X6_lowest_17 n0 x y w s.1 s.2 M) (s := (a, b)) e]
      exact ih m b (a.tmod b) (by omega) hb (by omega) mm.1 (by omega) (by omega)
def aaS (a : Int) : Int := if 0 ≤ a then a else -a
theorem tdiv_rng {a g : Int} (ha : -2000000000 ≤ a ∧ a ≤ 2000000000) (hg : 1 ≤ g) : -2000000000 ≤ a.tdiv g ∧ a.tdiv g ≤ 2000000000 := by
  by_cases h : 0 ≤ a
  · rw [Int.tdiv_eq_ediv_of_nonneg h]
    have h1 := Int.ediv_nonneg h (show 0 ≤ g by omega)
    have h2 := Int.ediv_le_self g h
    omega
  · have e : a.tdiv g = -((-a).tdiv g) := by rw [Int.neg_tdiv]; omega
    rw [e, Int.tdiv_eq_ediv_of_nonneg (show 0 ≤ -a by omega)]
    have h1 := Int.ediv_nonneg (show 0 ≤ -a by omega) (show 0 ≤ g by omega)
    have h2 := Int.ediv_le_self g (show 0 ≤ -a by omega)
    omega
/-- the fraction's numbers -/
def frS (a b w : Int) : Int := if w = 0 then a.tdiv (gE 40 (aaS a) b) else b.tdiv (gE 40 (aaS a) b)
theorem frac_c {n : Nat} {M : Mem} {a b w : Int} (hn : 1000 ≤ n) (ha : -2000000000 ≤ a ∧ a ≤ 2000000000) (hb : 1 ≤ b ∧ b ≤ 40) (hw : rg w) : f_X5_fraction n a b w M = some (frS a b w) := by
  have hA : 0 ≤ aaS a ∧ aaS a ≤ 2000000000 := by unfold aaS; split <;> omega
  have hg := gE_rng 40 (aaS a) b hA.1 (by omega) (by omega) (Or.inr (by omega))
  have hd := tdiv_rng ha hg.1
  have hd2 := tdiv_rng (a := b) (by omega) hg.1
  have em : mab a = aaS a := by unfold mab aaS; rw [wr_id (by omega) (by omega)]
  unfold f_X5_fraction f_X5_greatestDivisor frS
  rw [em, gcd_c 40 n (aaS a) b 0 (by omega) hA.1 hA.2 (by omega) (by omega) (by omega) (by decide) (by decide), Option.bind_some, wr_id (x := gE 40 (aaS a) b) (by omega) (by omega), if_neg (by omega), wr_rg hw]
  unfold ivtdiv
  rw [wr_id (x := gE 40 (aaS a) b) (by omega) (by omega), if_neg (show ¬ (gE 40 (aaS a) b = 0) by omega), if_neg (show ¬ (gE 40 (aaS a) b = 0) by omega), Option.bind_some, Option.bind_some, wr_id (x := a) (by omega) (by omega), wr_id (x := b) (by omega) (by omega), wr_id (x := a.tdiv _) (by omega) (by omega), wr_id (x := b.tdiv _) (by omega) (by omega)]
  split <;> rfl
theorem frac_r {n : Nat} {M : Mem} {a b w : Int} (hn : 1000 ≤ n) (ha : -2000000000 ≤ a ∧ a ≤ 2000000000) (hb : 1 ≤ b ∧ b ≤ 40) (hw : rg w) : f_X6_lowest n a b w M = some (frS a b w) := by
  have hA : 0 ≤ aaS a ∧ aaS a ≤ 2000000000 := by unfold aaS; split <;> omega
  have hg := gE_rng 40 (aaS a) b hA.1 (by omega) (by omega) (Or.inr (by omega))
  have e : f_X6_lowest n a b w M = f_X6_lowest_12 n a b w (aaS a) M := by
    unfold f_X6_lowest aaS
    rw [wl_id (x := a) (by omega) (by omega)]
    split <;> rfl
  rw [e]
  unfold f_X6_lowest_12 frS
  rw [gcd_r 40 n (aaS a) b (by omega) hA.1 hA.2 (by omega) (by omega) (by omega)]
  unfold f_X6_lowest_42 f_X6_lowest_52 lvtdiv
  rw [wr_rg hw, wl_id (x := gE 40 (aaS a) b) (by omega) (by omega), if_neg (show ¬ (gE 40 (aaS a) b = 0) by omega), if_neg (show ¬ (gE 40 (aaS a) b = 0) by omega), wl_id (x := a) (by omega) (by omega), wl_id (x := b) (by omega) (by omega)]
  split <;> rfl
theorem odS_rng {O : Nat → Int} {A : Int} : ∀ {m : Nat}, (∀ i, i < m → 1 ≤ O i ∧ O i ≤ 9) → 0 ≤ odS O A m ∧ odS O A m ≤ 9 * m
  | 0, _ => ⟨Int.le_refl _, Int.le_refl _⟩
  | m + 1, h => by
    have a := odS_rng (O := O) (A := A) (m := m) (fun i hi => h i (by omega))
    have b := h m (by omega)
    rw [odS]; split <;> omega
theorem odS_cong {O P : Nat → Int} {A : Int} : ∀ {m : Nat}, (∀ i, i < m → O i = P i) → odS O A m = odS P A m
  | 0, _ => rfl
  | m + 1, h => by rw [odS, odS, odS_cong (fun i hi => h i (by omega)), h m (by omega)]
theorem tlS_cong {R P : Nat → Int} {A y f : Int} : ∀ {m : Nat}, (∀ i, i < m → R i = P i) → tlS R A y f m = tlS P A y f m
  | 0, _ => rfl
  | m + 1, h => by rw [tlS, tlS, tlS_cong (fun i hi => h i (by omega)), h m (by omega)]
theorem bt_all : ∀ p : Fin 16, ∀ r : Fin 4, bt (bOr (p.val : Int) (bShl 1 (r.val : Int))) (r.val : Int) = 1 ∧ ∀ q : Fin 4, bt (p.val : Int) (q.val : Int) = 1 → bt (bOr (p.val : Int) (bShl 1 (r.val : Int))) (q.val : Int) = 1 := by decide +kernel
theorem b15_all : ∀ p : Fin 16, ∀ r : Fin 4, 0 < bOr (p.val : Int) (bShl 1 (r.val : Int)) ∧ bOr (p.val : Int) (bShl 1 (r.val : Int)) < 16 ∧ (p.val < 2 ^ r.val → bOr (p.val : Int) (bShl 1 (r.val : Int)) < (2 ^ (r.val + 1) : Nat)) := by decide +kernel
/-- the possible readings as bits -/
theorem pb_bits (S R : Nat → Int) : ∀ m, m ≤ 4 → ∃ p : Nat, p < 2 ^ m ∧ pbS S R m = (p : Int) := by
  intro m
  induction m with
  | zero => intro _; exact ⟨0, by decide, rfl⟩
  | succ m ih =>
    intro hm
    obtain ⟨p, hp, e⟩ := ih (by omega)
    have h16 : (2 : Nat) ^ m ≤ 8 := by
      have : m = 0 ∨ m = 1 ∨ m = 2 ∨ m = 3 := by omega
      rcases this with rfl | rfl | rfl | rfl <;> decide
    rw [pbS]
    split
    · exact ⟨p, by rw [Nat.pow_succ]; omega, e⟩
    · have a := b15_all ⟨p, by omega⟩ ⟨m, by omega⟩
      rw [e]
      refine ⟨(bOr (p : Int) (bShl 1 (m : Int))).toNat, ?_, ?_⟩
      · have := a.2.2 hp; dsimp only at this; omega
      · have := a.1; dsimp only at this; omega
theorem bit_all : ∀ p : Fin 16, ∀ m : Fin 5, p.val ≠ 0 → p.val < 2 ^ m.val → ∃ r : Fin 4, r.val < m.val ∧ bt (p.val : Int) (r.val : Int) = 1 := by decide +kernel
theorem od_pos {O : Nat → Int} {A : Int} : ∀ {m : Nat}, (∀ i, i < m → 1 ≤ O i ∧ O i ≤ 9) → (∃ r, r < m ∧ bt A (r : Int) = 1) → 1 ≤ odS O A m
  | 0, _, h => by obtain ⟨r, hr, _⟩ := h; omega
  | m + 1, hO, h => by
    obtain ⟨r, hr, hb⟩ := h
    have a := odS_rng (O := O) (A := A) (m := m) (fun i hi => hO i (by omega))
    have b := hO m (by omega)
    rw [odS]
    by_cases q : bt A (m : Int) = 1
    · rw [if_pos q]; omega
    · rw [if_neg q]
      exact od_pos (fun i hi => hO i (by omega)) ⟨r, by
        have : r ≠ m := fun e => q (by rw [← e]; exact hb)
        omega, hb⟩
/-- odds of a set of bits that isn't empty -/
theorem od_bits {O : Nat → Int} {m p : Nat} (hm : m ≤ 4) (hO : ∀ i, i < m → 1 ≤ O i ∧ O i ≤ 9) (hp : p < 2 ^ m) (h0 : p ≠ 0) : 1 ≤ odS O (p : Int) m ∧ odS O (p : Int) m ≤ 36 := by
  have h16 : (2 : Nat) ^ m ≤ 16 := by
    have : m = 0 ∨ m = 1 ∨ m = 2 ∨ m = 3 ∨ m = 4 := by omega
    rcases this with rfl | rfl | rfl | rfl | rfl <;> decide
  obtain ⟨r, hr, hb⟩ := bit_all ⟨p, by omega⟩ ⟨m, by omega⟩ h0 hp
  have a := od_pos (A := (p : Int)) hO ⟨r.val, hr, hb⟩
  have b := odS_rng (A := (p : Int)) hO
  omega
/-- the readings' odds and rows on both sides -/
theorem odds_of {M : Mem} (h : Rel M) : (∀ i, i < (M 3 5).toNat → 1 ≤ M 7 i ∧ M 7 i ≤ 9) ∧ (∀ i, i < (M 3 5).toNat → M 47 (8 + i) = M 7 i) := by
  have a := h.1.2.2.2.2.2.1.2.2.2.2.2.2
  have b := h.1.2.2.2.2.2.2.2.2
  exact ⟨fun i hi => (a i hi).1, fun i hi => by have := b i hi; rw [Nat.zero_add] at this; exact this⟩
theorem odr {n : Nat} {M : Mem} {A : Int} (hn : 1000 ≤ n) (h : Rel M) : f_X6_oddsOf n A M = some (odS (M 7) A (M 3 5).toNat) := by
  obtain ⟨c1, c2, c3, c4, ok, okb, rw0, rb⟩ := Rel_c h
  obtain ⟨o1, o2⟩ := odds_of h
  rw [oddsOf_r (by omega) (by rw [c4]; exact c2) (fun i hi => by rw [c4] at hi; rw [o2 i hi]; have := o1 i hi; unfold rg; omega), c4, odS_cong o2]
theorem tlr {n : Nat} {M : Mem} {A y f : Int} (hn : 1000 ≤ n) (h : Rel M) (hf : isF f) : f_X6_areSo n A y f M = some (tlS (M 6) A y f (M 3 5).toNat) := by
  obtain ⟨c1, c2, c3, c4, ok, okb, rw0, rb⟩ := Rel_c h
  rw [areSo_r (by omega) (by rw [c4]; exact c2) hf, c4, tlS_cong (fun i hi => rows_of h i hi)]
theorem op_fat {n : Nat} {M : Mem} {x y : Int} (hn : 1000 ≤ n) (hx : rg x) (hy : rg y) (h : Rel M) : ∃ r, f_X5_fat n x y M = some r ∧ f_X6_fat n x y M = some r := by
  obtain ⟨c1, c2, c3, c4, ok, okb, rw0, rb⟩ := Rel_c h
  obtain ⟨o1, o2⟩ := odds_of h
  unfold f_X5_fat f_X6_fat f_X5_fat_17 f_X6_fat_22
  rw [within_c hx (rgl 0) (rgl 7), Option.bind_some, ifbi, isFlag_c hy, Option.bind_some, ifbi, wr_rg hx, in_r hx (rgl 0) (rgl 7), Option.bind_some, ifbi, wr_rg hy, in_r hy (rgl 0) (rgl 1), Option.bind_some, ifbi]
  by_cases g : 0 ≤ x ∧ x ≤ 7
  · rw [if_pos g, if_pos g]
    by_cases g2 : 0 ≤ y ∧ y ≤ 1
    · rw [if_pos (show y = 0 ∨ y = 1 by omega), if_pos g2, possible_c (by omega) c2, Option.bind_some, canNow_r (by omega) (by rw [c4]; exact c2), pb_eq h, Option.bind_some]
      show ∃ r, (if wr (pbS (M 3) (M 6) (M 3 5).toNat) = 0 then _ else _) = some r ∧ _
      rw [pbS_wr]
      obtain ⟨p, hp, ep⟩ := pb_bits (M 3) (M 6) (M 3 5).toNat (by omega)
      rw [ep]
      by_cases z : (p : Int) = 0
      · rw [if_pos z, if_pos z]; exact ⟨-2, rfl, rfl⟩
      · rw [if_neg z, if_neg z, telling_c (by omega) c2 (Or.inr rfl), Option.bind_some, oddsOf_c (by omega) c2, Option.bind_some, oddsOf_c (by omega) c2, Option.bind_some, tlr hn h (Or.inr rfl), Option.bind_some, odr hn h, Option.bind_some, odr hn h, Option.bind_some]
        have a := od_bits (O := M 7) (by omega) o1 hp (by omega)
        have b := odS_rng (O := M 7) (A := tlS (M 6) (p : Int) x 1 (M 3 5).toNat) o1
        have fc := frac_c (n := n) (M := M) (a := odS (M 7) (tlS (M 6) (p : Int) x 1 (M 3 5).toNat) (M 3 5).toNat) (b := odS (M 7) (p : Int) (M 3 5).toNat) (w := y) hn (by omega) (by omega) hy
        have fr := frac_r (n := n) (M := M) (a := odS (M 7) (tlS (M 6) (p : Int) x 1 (M 3 5).toNat) (M 3 5).toNat) (b := odS (M 7) (p : Int) (M 3 5).toNat) (w := y) hn (by omega) (by omega) hy
        refine ⟨frS (odS (M 7) (tlS (M 6) (p : Int) x 1 (M 3 5).toNat) (M 3 5).toNat) (odS (M 7) (p : Int) (M 3 5).toNat) y, ?_, ?_⟩
        · show (f_X5_fraction n (odS (M 7) (tlS (M 6) (p : Int) x 1 (M 3 5).toNat) (M 3 5).toNat) (odS (M 7) (p : Int) (M 3 5).toNat) y M).bind _ = _
          rw [fc]; rfl
        · rw [fr]; rfl
    · rw [if_neg (show ¬ (y = 0 ∨ y = 1) by omega), if_neg g2]; exact ⟨-1, rfl, rfl⟩
  · rw [if_neg g, if_neg g]; exact ⟨-1, rfl, rfl⟩
