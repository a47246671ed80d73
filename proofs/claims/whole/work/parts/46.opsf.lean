/-! stewards, hoards, fits -/
/-- how many of the first c numbers hold, and the first of them -/
def swS (g : Nat → Bool) : Nat → Int × Int
  | 0 => (0, -4)
  | c + 1 => if g c then ((swS g c).1 + 1, if (swS g c).1 = 0 then (c : Int) else (swS g c).2) else swS g c
theorem swS_rng (g : Nat → Bool) : ∀ c, 0 ≤ (swS g c).1 ∧ (swS g c).1 ≤ c
  | 0 => ⟨Int.le_refl _, Int.le_refl _⟩
  | c + 1 => by
    have a := swS_rng g c
    rw [swS]; split
    · dsimp only; omega
    · omega
def gN (M : Mem) (rr : Int) (c : Nat) : Bool := okN M rr ((c / 10 : Nat) : Int) ((c % 10 : Nat) : Int) 0
theorem stew_in {n0 : Nat} {M : Mem} {rr w : Int} {k : Nat} (hn0 : 1000 ≤ n0) (h : Rel M) (h0 : 0 ≤ rr) (h1 : rr < 4) (hk : k < 5) : ∀ (t n v : Nat) (N : Mem), t < n → v + t = 10 → TrOff M N → ∃ N', lp (fun s => f_X5_stewards_35 n0 rr w s.1 s.2.1 (k : Int) s.2.2.1 s.2.2.2) n ((swS (gN M rr) (10 * k + v)).1, (swS (gN M rr) (10 * k + v)).2, (v : Int), N) = some (.inl ((swS (gN M rr) (10 * (k + 1))).1, (swS (gN M rr) (10 * (k + 1))).2, (k : Int) + 1, N')) ∧ TrOff M N' := by
  intro t
  induction t with
  | zero =>
    intro n v N hn hv hN
    obtain ⟨m, rfl⟩ : ∃ m, n = m + 1 := ⟨n - 1, by omega⟩
    have : v = 10 := by omega
    subst this
    refine ⟨N, lp_end (s := ((swS (gN M rr) (10 * k + 10)).1, (swS (gN M rr) (10 * k + 10)).2, ((10 : Nat) : Int), N)) ?_, hN⟩
    show f_X5_stewards_35 n0 rr w _ _ (k : Int) ((10 : Nat) : Int) N = _
    unfold f_X5_stewards_35 f_X5_stewards_83
    rw [wr_id (by omega) (by omega), if_pos (by omega), show 10 * (k + 1) = 10 * k + 10 by omega]
    rfl
  | succ t ih =>
    intro n v N hn hv hN
    obtain ⟨m, rfl⟩ : ∃ m, n = m + 1 := ⟨n - 1, by omega⟩
    have hr := swS_rng (gN M rr) (10 * k + v)
    obtain ⟨N1, a1, a2⟩ := seen_c (n := n0) (k := (k : Int)) (v := (v : Int)) (hd := 0) hn0 h hN h0 h1 (by omega) (by omega) (by decide)
    have eg : okN M rr (k : Int) (v : Int) 0 = gN M rr (10 * k + v) := by
      unfold gN; rw [show (10 * k + v) / 10 = k by omega, show (10 * k + v) % 10 = v by omega]
    rw [eg] at a1
    have e : f_X5_stewards_35 n0 rr w (swS (gN M rr) (10 * k + v)).1 (swS (gN M rr) (10 * k + v)).2 (k : Int) (v : Int) N = some (.inl ((swS (gN M rr) (10 * k + (v + 1))).1, (swS (gN M rr) (10 * k + (v + 1))).2, (v : Int) + 1, N1)) := by
      unfold f_X5_stewards_35 f_X5_stewards_72 f_X5_stewards_77
      rw [wr_id (x := (v : Int)) (by omega) (by omega), if_neg (by omega), a1, Option.bind_some]
      dsimp only
      rw [ifbi, wr_id (x := (swS (gN M rr) (10 * k + v)).1) (by omega) (by omega), show 10 * k + (v + 1) = (10 * k + v) + 1 by omega, swS]
      by_cases q : gN M rr (10 * k + v) = true
      · rw [if_pos q, if_pos q]
        dsimp only
        split
        · rw [show ((10 * k + v : Nat) : Int) = 10 * (k : Int) + (v : Int) by omega]
        · rfl
      · rw [if_neg q, if_neg q]
    obtain ⟨N', b1, b2⟩ := ih m (v + 1) N1 (by omega) (by omega) a2
    refine ⟨N', ?_, b2⟩
    rw [lp_succ (f := fun s => f_X5_stewards_35 n0 rr w s.1 s.2.1 (k : Int) s.2.2.1 s.2.2.2) (s := ((swS (gN M rr) (10 * k + v)).1, (swS (gN M rr) (10 * k + v)).2, (v : Int), N)) e]
    exact b1
theorem stew_c {n0 : Nat} {M : Mem} {rr w : Int} (hn0 : 1000 ≤ n0) (h : Rel M) (h0 : 0 ≤ rr) (h1 : rr < 4) (hw : rg w) : ∀ (t n k : Nat) (N : Mem), t < n → k + t = 5 → TrOff M N → ∃ N', lp (fun s => f_X5_stewards_26 n0 rr w s.1 s.2.1 s.2.2.1 s.2.2.2) n ((swS (gN M rr) (10 * k)).1, (swS (gN M rr) (10 * k)).2, (k : Int), N) = some (if w = 0 then (swS (gN M rr) 50).1 else (swS (gN M rr) 50).2, N') ∧ TrOff M N' := by
  intro t
  induction t with
  | zero =>
    intro n k N hn hv hN
    obtain ⟨m, rfl⟩ : ∃ m, n = m + 1 := ⟨n - 1, by omega⟩
    have : k = 5 := by omega
    subst this
    refine ⟨N, lp_end (s := ((swS (gN M rr) 50).1, (swS (gN M rr) 50).2, ((5 : Nat) : Int), N)) ?_, hN⟩
    show f_X5_stewards_26 n0 rr w (swS (gN M rr) 50).1 (swS (gN M rr) 50).2 ((5 : Nat) : Int) N = _
    unfold f_X5_stewards_26 f_X5_stewards_89
    rw [wr_id (x := ((5 : Nat) : Int)) (by omega) (by omega), if_pos (by omega), wr_rg hw]
    split <;> rfl
  | succ t ih =>
    intro n k N hn hv hN
    obtain ⟨m, rfl⟩ : ∃ m, n = m + 1 := ⟨n - 1, by omega⟩
    obtain ⟨N1, a1, a2⟩ := stew_in (n0 := n0) (w := w) (k := k) hn0 h h0 h1 (by omega) 10 n0 0 N (by omega) (by omega) hN
    have e : f_X5_stewards_26 n0 rr w (swS (gN M rr) (10 * k)).1 (swS (gN M rr) (10 * k)).2 (k : Int) N = some (.inl ((swS (gN M rr) (10 * (k + 1))).1, (swS (gN M rr) (10 * (k + 1))).2, (k : Int) + 1, N1)) := by
      unfold f_X5_stewards_26
      rw [wr_id (x := (k : Int)) (by omega) (by omega), if_neg (by omega)]
      exact a1
    obtain ⟨N', b1, b2⟩ := ih m (k + 1) N1 (by omega) (by omega) a2
    refine ⟨N', ?_, b2⟩
    rw [lp_succ (f := fun s => f_X5_stewards_26 n0 rr w s.1 s.2.1 s.2.2.1 s.2.2.2) (s := ((swS (gN M rr) (10 * k)).1, (swS (gN M rr) (10 * k)).2, (k : Int), N)) e]
    exact b1
theorem stew_r {n0 : Nat} {M N : Mem} {rr w : Int} (hn0 : 1000 ≤ n0) (h : Rel M) (hN : TrOff M N) (h0 : 0 ≤ rr) (h1 : rr < M 3 5) (hw : rg w) : ∀ (t n c : Nat) (r : Nat → Int), t < n → c + t = 50 → (∀ i, i < 75 → r i = M 47 i) → ∃ r', lp (fun s => f_X6_stewards_29 n0 rr w s.1 s.2.1 s.2.2.1 s.2.2.2) n ((swS (gN M rr) c).1, (swS (gN M rr) c).2, (c : Int), sr N 47 r) = some (if w = 0 then (swS (gN M rr) 50).1 else (swS (gN M rr) 50).2, sr N 47 r') ∧ ∀ i, i < 75 → r' i = M 47 i := by
  intro t
  induction t with
  | zero =>
    intro n c r hn hc hr
    obtain ⟨m, rfl⟩ : ∃ m, n = m + 1 := ⟨n - 1, by omega⟩
    have : c = 50 := by omega
    subst this
    refine ⟨r, lp_end (s := ((swS (gN M rr) 50).1, (swS (gN M rr) 50).2, ((50 : Nat) : Int), sr N 47 r)) ?_, hr⟩
    show f_X6_stewards_29 n0 rr w (swS (gN M rr) 50).1 (swS (gN M rr) 50).2 ((50 : Nat) : Int) (sr N 47 r) = _
    unfold f_X6_stewards_29 f_X6_stewards_77
    rw [wr_id (x := ((50 : Nat) : Int)) (by omega) (by omega), if_pos (by omega), wr_rg hw]
    split <;> rfl
  | succ t ih =>
    intro n c r hn hc hr
    obtain ⟨m, rfl⟩ : ∃ m, n = m + 1 := ⟨n - 1, by omega⟩
    have hg := swS_rng (gN M rr) c
    obtain ⟨r1, a1, a2⟩ := seen_r (n := n0) (N := N) (k := ((c / 10 : Nat) : Int)) (v := ((c % 10 : Nat) : Int)) (hd := 0) hn0 h hN hr h0 h1 (by omega) (by omega) (by decide)
    have e : f_X6_stewards_29 n0 rr w (swS (gN M rr) c).1 (swS (gN M rr) c).2 (c : Int) (sr N 47 r) = some (.inl ((swS (gN M rr) (c + 1)).1, (swS (gN M rr) (c + 1)).2, (c : Int) + 1, sr N 47 r1)) := by
      unfold f_X6_stewards_29 f_X6_stewards_66 f_X6_stewards_71
      rw [wr_id (x := (c : Int)) (by omega) (by omega), wr_id (x := 10) (by omega) (by omega), if_neg (by omega), show (c : Int).tdiv 10 = ((c / 10 : Nat) : Int) from rfl, show (c : Int).tmod 10 = ((c % 10 : Nat) : Int) from rfl, a1, Option.bind_some]
      dsimp only
      rw [ifbi, wr_id (x := (swS (gN M rr) c).1) (by omega) (by omega), swS]
      show (if gN M rr c = true then _ else _) = _
      by_cases q : gN M rr c = true
      · rw [if_pos q, if_pos q]
        dsimp only
        split <;> rfl
      · rw [if_neg q, if_neg q]
    obtain ⟨r', b1, b2⟩ := ih m (c + 1) r1 (by omega) (by omega) a2
    refine ⟨r', ?_, b2⟩
    rw [lp_succ (f := fun s => f_X6_stewards_29 n0 rr w s.1 s.2.1 s.2.2.1 s.2.2.2) (s := ((swS (gN M rr) c).1, (swS (gN M rr) c).2, (c : Int), sr N 47 r)) e]
    exact b1
theorem op_stewards {n : Nat} {M : Mem} {x y : Int} (hn : 1000 ≤ n) (hx : rg x) (hy : rg y) (h : Rel M) : ∃ r M1 M2, f_X5_stewards n x y M = some (r, M1) ∧ f_X6_stewards n x y M1 = some (r, M2) ∧ Rel M2 := by
  obtain ⟨c1, c2, c3, c4, ok, okb, rw0, rb⟩ := Rel_c h
  unfold f_X5_stewards f_X6_stewards
  rw [isReading_c hx c2, Option.bind_some, ifbi, isFlag_c hy, Option.bind_some, ifbi]
  by_cases g : 0 ≤ x ∧ x ≤ M 3 5 - 1
  · rw [if_pos g]
    by_cases g2 : 0 ≤ y ∧ y ≤ 1
    · rw [if_pos (show y = 0 ∨ y = 1 by omega)]
      obtain ⟨N, a1, a2⟩ := stew_c (n0 := n) (w := y) hn h g.1 (by omega) hy 5 n 0 M (by omega) (by omega) (fun _ _ => rfl)
      have e47 : N 47 = M 47 := a2 47 (by decide)
      have e46 : N 46 = M 46 := a2 46 (by decide)
      obtain ⟨r', b1, b2⟩ := stew_r (n0 := n) (N := N) (w := y) hn h a2 g.1 (by omega) hy 50 n 0 (N 47) (by omega) (by omega) (fun i hi => by rw [e47])
      rw [sr_self] at b1
      refine ⟨_, N, sr N 47 r', a1, ?_, ?_⟩
      · rw [isReading_r hx (by rw [e46, c4]; exact c2), Option.bind_some, e46, c4, if_pos g, if_neg w1n0, wr_rg hy, in_r hy (rgl 0) (rgl 1), Option.bind_some, if_pos g2, if_neg w1n0]
        exact b1
      · exact Rel_off (Off.trans a2.off (Off_47 (fun k hk => by rw [b2 k hk, e47]))) h
    · rw [if_neg (show ¬ (y = 0 ∨ y = 1) by omega)]
      refine ⟨-1, M, M, rfl, ?_, h⟩
      rw [isReading_r hx (by rw [c4]; exact c2), Option.bind_some, c4, if_pos g, if_neg w1n0, wr_rg hy, in_r hy (rgl 0) (rgl 1), Option.bind_some, if_neg g2, if_pos wr_0]
  · rw [if_neg g]
    refine ⟨-1, M, M, rfl, ?_, h⟩
    rw [isReading_r hx (by rw [c4]; exact c2), Option.bind_some, c4, if_neg g, if_pos wr_0]
/-- bits by class loops -/
theorem hoard_c {n0 : Nat} {M : Mem} {rr : Int} (hn0 : 1000 ≤ n0) (h : Rel M) (h0 : 0 ≤ rr) (h1 : rr < 4) : ∀ (t n v : Nat) (N : Mem), t < n → v + t = 10 → TrOff M N → ∃ N', lp (fun s => f_X5_hoards_14 n0 rr s.1 s.2.1 s.2.2) n (sbS (fun v => okN M rr (M 3 13) (M 3 14) v) v, (v : Int), N) = some (sbS (fun v => okN M rr (M 3 13) (M 3 14) v) 10, N') ∧ TrOff M N' := by
  obtain ⟨c1, c2, c3, c4, ok, okb, rw0, rb⟩ := Rel_c h
  have h13 : 0 ≤ M 3 13 ∧ M 3 13 ≤ 4 := by unfold OkS at ok; omega
  have h14 : 0 ≤ M 3 14 ∧ M 3 14 ≤ 9 := by unfold OkS at ok; omega
  intro t
  induction t with
  | zero =>
    intro n v N hn hv hN
    obtain ⟨m, rfl⟩ : ∃ m, n = m + 1 := ⟨n - 1, by omega⟩
    have : v = 10 := by omega
    subst this
    refine ⟨N, lp_end (s := (sbS (fun v => okN M rr (M 3 13) (M 3 14) v) 10, ((10 : Nat) : Int), N)) ?_, hN⟩
    show f_X5_hoards_14 n0 rr _ ((10 : Nat) : Int) N = _
    unfold f_X5_hoards_14
    rw [wr_id (by omega) (by omega), if_pos (by omega)]
  | succ t ih =>
    intro n v N hn hv hN
    obtain ⟨m, rfl⟩ : ∃ m, n = m + 1 := ⟨n - 1, by omega⟩
    obtain ⟨N1, a1, a2⟩ := seen_c (n := n0) (hd := (v : Int)) hn0 h hN h0 h1 h13 h14 (by omega)
    have e : f_X5_hoards_14 n0 rr (sbS (fun v => okN M rr (M 3 13) (M 3 14) v) v) (v : Int) N = some (.inl (sbS (fun v => okN M rr (M 3 13) (M 3 14) v) (v + 1), (v : Int) + 1, N1)) := by
      unfold f_X5_hoards_14 f_X5_hoards_49
      rw [wr_id (by omega) (by omega), if_neg (by omega), hN 3 (by decide), a1, Option.bind_some]
      dsimp only
      rw [ifbi, sbS]
      split <;> rfl
    obtain ⟨N', b1, b2⟩ := ih m (v + 1) N1 (by omega) (by omega) a2
    refine ⟨N', ?_, b2⟩
    rw [lp_succ (f := fun s => f_X5_hoards_14 n0 rr s.1 s.2.1 s.2.2) (s := (sbS (fun v => okN M rr (M 3 13) (M 3 14) v) v, (v : Int), N)) e]
    exact b1
theorem own19 {M : Mem} (h : Rel M) {r : Nat → Int} (hr : ∀ i, i < 75 → r i = M 47 i) : r 19 = M 3 13 ∧ r 20 = M 3 14 := by
  obtain ⟨c1, c2, c3, c4, ok, okb, rw0, rb⟩ := Rel_c h
  exact ⟨by rw [hr 19 (by decide), ← rw0 13 (by decide) (by decide), vw_13], by rw [hr 20 (by decide), ← rw0 14 (by decide) (by decide), vw_14]⟩
theorem hoard_r {n0 : Nat} {M N : Mem} {rr : Int} (hn0 : 1000 ≤ n0) (h : Rel M) (hN : TrOff M N) (h0 : 0 ≤ rr) (h1 : rr < M 3 5) : ∀ (t n v : Nat) (r : Nat → Int), t < n → v + t = 10 → (∀ i, i < 75 → r i = M 47 i) → ∃ r', lp (fun s => f_X6_hoards_14 n0 rr s.1 s.2.1 s.2.2) n (sbS (fun v => okN M rr (M 3 13) (M 3 14) v) v, (v : Int), sr N 47 r) = some (sbS (fun v => okN M rr (M 3 13) (M 3 14) v) 10, sr N 47 r') ∧ ∀ i, i < 75 → r' i = M 47 i := by
  obtain ⟨c1, c2, c3, c4, ok, okb, rw0, rb⟩ := Rel_c h
  have h13 : 0 ≤ M 3 13 ∧ M 3 13 ≤ 4 := by unfold OkS at ok; omega
  have h14 : 0 ≤ M 3 14 ∧ M 3 14 ≤ 9 := by unfold OkS at ok; omega
  intro t
  induction t with
  | zero =>
    intro n v r hn hv hr
    obtain ⟨m, rfl⟩ : ∃ m, n = m + 1 := ⟨n - 1, by omega⟩
    have : v = 10 := by omega
    subst this
    refine ⟨r, lp_end (s := (sbS (fun v => okN M rr (M 3 13) (M 3 14) v) 10, ((10 : Nat) : Int), sr N 47 r)) ?_, hr⟩
    show f_X6_hoards_14 n0 rr _ ((10 : Nat) : Int) (sr N 47 r) = _
    unfold f_X6_hoards_14
    rw [wr_id (by omega) (by omega), if_pos (by omega)]
  | succ t ih =>
    intro n v r hn hv hr
    obtain ⟨m, rfl⟩ : ∃ m, n = m + 1 := ⟨n - 1, by omega⟩
    obtain ⟨r1, a1, a2⟩ := seen_r (n := n0) (N := N) (hd := (v : Int)) hn0 h hN hr h0 h1 h13 h14 (by omega)
    have o := own19 h hr
    have e : f_X6_hoards_14 n0 rr (sbS (fun v => okN M rr (M 3 13) (M 3 14) v) v) (v : Int) (sr N 47 r) = some (.inl (sbS (fun v => okN M rr (M 3 13) (M 3 14) v) (v + 1), (v : Int) + 1, sr N 47 r1)) := by
      unfold f_X6_hoards_14 f_X6_hoards_51
      rw [wr_id (by omega) (by omega), if_neg (by omega), sr_same, o.1, o.2, a1, Option.bind_some]
      dsimp only
      rw [ifbi, sbS, bOr0 (sbS_wr _ _)]
      split <;> rfl
    obtain ⟨r', b1, b2⟩ := ih m (v + 1) r1 (by omega) (by omega) a2
    refine ⟨r', ?_, b2⟩
    rw [lp_succ (f := fun s => f_X6_hoards_14 n0 rr s.1 s.2.1 s.2.2) (s := (sbS (fun v => okN M rr (M 3 13) (M 3 14) v) v, (v : Int), sr N 47 r)) e]
    exact b1
theorem op_hoards {n : Nat} {M : Mem} {x : Int} (hn : 1000 ≤ n) (hx : rg x) (h : Rel M) : ∃ r M1 M2, f_X5_hoards n x M = some (r, M1) ∧ f_X6_hoards n x M1 = some (r, M2) ∧ Rel M2 := by
  obtain ⟨c1, c2, c3, c4, ok, okb, rw0, rb⟩ := Rel_c h
  unfold f_X5_hoards f_X6_hoards
  rw [isReading_c hx c2, Option.bind_some, ifbi]
  by_cases g : 0 ≤ x ∧ x ≤ M 3 5 - 1
  · rw [if_pos g]
    obtain ⟨N, a1, a2⟩ := hoard_c (n0 := n) hn h g.1 (by omega) 10 n 0 M (by omega) (by omega) (fun _ _ => rfl)
    have e47 : N 47 = M 47 := a2 47 (by decide)
    have e46 : N 46 = M 46 := a2 46 (by decide)
    obtain ⟨r', b1, b2⟩ := hoard_r (n0 := n) (N := N) hn h a2 g.1 (by omega) 10 n 0 (N 47) (by omega) (by omega) (fun i hi => by rw [e47])
    rw [sr_self] at b1
    refine ⟨_, N, sr N 47 r', a1, ?_, ?_⟩
    · rw [isReading_r hx (by rw [e46, c4]; exact c2), Option.bind_some, e46, c4, if_pos g, if_neg w1n0]
      exact b1
    · exact Rel_off (Off.trans a2.off (Off_47 (fun k hk => by rw [b2 k hk, e47]))) h
  · rw [if_neg g]
    refine ⟨-1, M, M, rfl, ?_, h⟩
    rw [isReading_r hx (by rw [c4]; exact c2), Option.bind_some, c4, if_neg g, if_pos wr_0]
theorem fits_c {n0 : Nat} {M : Mem} (hn0 : 1000 ≤ n0) (h : Rel M) : ∀ (t n v : Nat) (N : Mem), t < n → v + t = (M 3 5).toNat → TrOff M N → ∃ N', lp (fun s => f_X5_fits_4 n0 s.1 s.2.1 s.2.2) n (sbS (fun v => okN M (v : Int) (M 3 13) (M 3 14) 0) v, (v : Int), N) = some (sbS (fun v => okN M (v : Int) (M 3 13) (M 3 14) 0) (M 3 5).toNat, N') ∧ TrOff M N' := by
  obtain ⟨c1, c2, c3, c4, ok, okb, rw0, rb⟩ := Rel_c h
  have h13 : 0 ≤ M 3 13 ∧ M 3 13 ≤ 4 := by unfold OkS at ok; omega
  have h14 : 0 ≤ M 3 14 ∧ M 3 14 ≤ 9 := by unfold OkS at ok; omega
  intro t
  induction t with
  | zero =>
    intro n v N hn hv hN
    obtain ⟨m, rfl⟩ : ∃ m, n = m + 1 := ⟨n - 1, by omega⟩
    have : v = (M 3 5).toNat := by omega
    subst this
    refine ⟨N, lp_end (s := (sbS (fun v => okN M (v : Int) (M 3 13) (M 3 14) 0) (M 3 5).toNat, ((M 3 5).toNat : Int), N)) ?_, hN⟩
    show f_X5_fits_4 n0 _ ((M 3 5).toNat : Int) N = _
    unfold f_X5_fits_4
    rw [hN 3 (by decide), wr_id (by omega) (by omega), wr_id (by omega) (by omega), if_pos (by omega)]
  | succ t ih =>
    intro n v N hn hv hN
    obtain ⟨m, rfl⟩ : ∃ m, n = m + 1 := ⟨n - 1, by omega⟩
    obtain ⟨N1, a1, a2⟩ := seen_c (n := n0) (rr := (v : Int)) (hd := 0) hn0 h hN (by omega) (by omega) h13 h14 (by decide)
    have e : f_X5_fits_4 n0 (sbS (fun v => okN M (v : Int) (M 3 13) (M 3 14) 0) v) (v : Int) N = some (.inl (sbS (fun v => okN M (v : Int) (M 3 13) (M 3 14) 0) (v + 1), (v : Int) + 1, N1)) := by
      unfold f_X5_fits_4 f_X5_fits_44
      rw [hN 3 (by decide), wr_id (by omega) (by omega), wr_id (by omega) (by omega), if_neg (by omega), a1, Option.bind_some]
      dsimp only
      rw [ifbi, sbS]
      split <;> rfl
    obtain ⟨N', b1, b2⟩ := ih m (v + 1) N1 (by omega) (by omega) a2
    refine ⟨N', ?_, b2⟩
    rw [lp_succ (f := fun s => f_X5_fits_4 n0 s.1 s.2.1 s.2.2) (s := (sbS (fun v => okN M (v : Int) (M 3 13) (M 3 14) 0) v, (v : Int), N)) e]
    exact b1
theorem fits_r {n0 : Nat} {M N : Mem} (hn0 : 1000 ≤ n0) (h : Rel M) (hN : TrOff M N) : ∀ (t n v : Nat) (r : Nat → Int), t < n → v + t = (M 3 5).toNat → (∀ i, i < 75 → r i = M 47 i) → ∃ r', lp (fun s => f_X6_fits_4 n0 s.1 s.2.1 s.2.2) n (sbS (fun v => okN M (v : Int) (M 3 13) (M 3 14) 0) v, (v : Int), sr N 47 r) = some (sbS (fun v => okN M (v : Int) (M 3 13) (M 3 14) 0) (M 3 5).toNat, sr N 47 r') ∧ ∀ i, i < 75 → r' i = M 47 i := by
  obtain ⟨c1, c2, c3, c4, ok, okb, rw0, rb⟩ := Rel_c h
  have h13 : 0 ≤ M 3 13 ∧ M 3 13 ≤ 4 := by unfold OkS at ok; omega
  have h14 : 0 ≤ M 3 14 ∧ M 3 14 ≤ 9 := by unfold OkS at ok; omega
  intro t
  induction t with
  | zero =>
    intro n v r hn hv hr
    obtain ⟨m, rfl⟩ : ∃ m, n = m + 1 := ⟨n - 1, by omega⟩
    have : v = (M 3 5).toNat := by omega
    subst this
    refine ⟨r, lp_end (s := (sbS (fun v => okN M (v : Int) (M 3 13) (M 3 14) 0) (M 3 5).toNat, ((M 3 5).toNat : Int), sr N 47 r)) ?_, hr⟩
    show f_X6_fits_4 n0 _ ((M 3 5).toNat : Int) (sr N 47 r) = _
    unfold f_X6_fits_4
    rw [sr_ne _ _ (show (46 : Nat) ≠ 47 by decide), hN 46 (by decide), c4, wr_id (by omega) (by omega), wr_id (by omega) (by omega), if_pos (by omega)]
  | succ t ih =>
    intro n v r hn hv hr
    obtain ⟨m, rfl⟩ : ∃ m, n = m + 1 := ⟨n - 1, by omega⟩
    obtain ⟨r1, a1, a2⟩ := seen_r (n := n0) (N := N) (rr := (v : Int)) (hd := 0) hn0 h hN hr (by omega) (by omega) h13 h14 (by decide)
    have o := own19 h hr
    have e : f_X6_fits_4 n0 (sbS (fun v => okN M (v : Int) (M 3 13) (M 3 14) 0) v) (v : Int) (sr N 47 r) = some (.inl (sbS (fun v => okN M (v : Int) (M 3 13) (M 3 14) 0) (v + 1), (v : Int) + 1, sr N 47 r1)) := by
      unfold f_X6_fits_4 f_X6_fits_43
      rw [sr_ne _ _ (show (46 : Nat) ≠ 47 by decide), hN 46 (by decide), c4, wr_id (by omega) (by omega), wr_id (by omega) (by omega), if_neg (by omega), sr_same, o.1, o.2, a1, Option.bind_some]
      dsimp only
      rw [ifbi, sbS, bOr0 (sbS_wr _ _)]
      split <;> rfl
    obtain ⟨r', b1, b2⟩ := ih m (v + 1) r1 (by omega) (by omega) a2
    refine ⟨r', ?_, b2⟩
    rw [lp_succ (f := fun s => f_X6_fits_4 n0 s.1 s.2.1 s.2.2) (s := (sbS (fun v => okN M (v : Int) (M 3 13) (M 3 14) 0) v, (v : Int), sr N 47 r)) e]
    exact b1
theorem op_fits {n : Nat} {M : Mem} (hn : 1000 ≤ n) (h : Rel M) : ∃ r M1 M2, f_X5_fits n M = some (r, M1) ∧ f_X6_fits n M1 = some (r, M2) ∧ Rel M2 := by
  obtain ⟨c1, c2, c3, c4, ok, okb, rw0, rb⟩ := Rel_c h
  unfold f_X5_fits f_X6_fits
  obtain ⟨N, a1, a2⟩ := fits_c (n0 := n) hn h (M 3 5).toNat n 0 M (by omega) (by omega) (fun _ _ => rfl)
  have e47 : N 47 = M 47 := a2 47 (by decide)
  obtain ⟨r', b1, b2⟩ := fits_r (n0 := n) (N := N) hn h a2 (M 3 5).toNat n 0 (N 47) (by omega) (by omega) (fun i hi => by rw [e47])
  rw [sr_self] at b1
  exact ⟨_, N, sr N 47 r', a1, b1, Rel_off (Off.trans a2.off (Off_47 (fun k hk => by rw [b2 k hk, e47]))) h⟩
