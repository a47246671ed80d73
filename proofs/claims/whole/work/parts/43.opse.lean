/-! safe, granary, least: the calls -/
/-- a row whose page 75 is the court with another steward, cap, store -/
def RowSd (M : Mem) (r : Nat → Int) (k v c s : Int) : Prop := (∀ i, i < 75 → r i = M 47 i) ∧ (∀ i, 75 ≤ i → i < 100 → i ≠ 89 → i ≠ 91 → i ≠ 94 → i ≠ 95 → r i = M 47 (i - 75)) ∧ r 94 = k ∧ r 95 = v ∧ r 89 = 40 - c ∧ r 91 = s
theorem RowSd_pg {M : Mem} (h : Rel M) {r : Nat → Int} {k v c s : Int} (g : RowSd M r k v c s) : PgA r (M 46 1).toNat (sdS (M 3) k v c s) (B2 M 3) := by
  obtain ⟨c1, c2, c3, c4, ok, okb, rw0, rb⟩ := Rel_c h
  obtain ⟨g1, g2, g3, g4, g5, g6⟩ := g
  have hp : ∀ i, i < 25 → i ≠ 14 → i ≠ 16 → i ≠ 19 → i ≠ 20 → r (75 + i) = M 47 (0 + i) := fun i h1 h2 h3 h4 h5 => by rw [g2 (75 + i) (by omega) (by omega) (by omega) (by omega) (by omega) (by omega), show 75 + i - 75 = 0 + i by omega]
  refine ⟨?_, fun f hf => ?_⟩
  · intro i h1 h2
    unfold sdS
    have e := rw0 i h1 h2
    by_cases i13 : i = 13
    · subst i13; rw [vw_13]; simp; exact g3
    · by_cases i14 : i = 14
      · subst i14; rw [vw_14]; simp; exact g4
      · by_cases i8 : i = 8
        · subst i8; rw [vw_8]; simp; rw [g5]; omega
        · by_cases i10 : i = 10
          · subst i10; rw [vw_10]; simp; exact g6
          · rw [if_neg i13, if_neg i14, if_neg i8, if_neg i10, ← e]
            unfold vw
            rw [if_neg i8, if_neg i8, hp 18 (by decide) (by decide) (by decide) (by decide) (by decide), hp 17 (by decide) (by decide) (by decide) (by decide) (by decide), Nat.add_assoc, hp (i + 6) (by omega) (by omega) (by omega) (by omega) (by omega), Nat.add_assoc]
  · rw [← rb f hf]
    obtain ⟨q, hq, rfl⟩ := Fnat hf
    unfold Bp
    refine hv_cong (fun i hi => ?_)
    rw [Int.toNat_natCast, Nat.add_assoc, hp (2 * i + q) (by omega) (by omega) (by omega) (by omega) (by omega), Nat.add_assoc]
theorem RowSd_k {M : Mem} {r r' : Nat → Int} {k v c s : Int} (g : RowSd M r k v c s) (e : ∀ i, i < 100 → r' i = r i) : RowSd M r' k v c s :=
  ⟨fun i hi => by rw [e i (by omega)]; exact g.1 i hi, fun i h1 h2 h3 h4 h5 h6 => by rw [e i h2]; exact g.2.1 i h1 h2 h3 h4 h5 h6, by rw [e 94 (by decide)]; exact g.2.2.1, by rw [e 95 (by decide)]; exact g.2.2.2.1, by rw [e 89 (by decide)]; exact g.2.2.2.2.1, by rw [e 91 (by decide)]; exact g.2.2.2.2.2⟩
/-- a row where the court's own page lies in the page 75 -/
theorem RowSd_0 {M : Mem} (h : Rel M) : RowSd M (cr (M 47) 0 75 25) (M 3 13) (M 3 14) (M 3 8) (M 3 10) := by
  obtain ⟨c1, c2, c3, c4, ok, okb, rw0, rb⟩ := Rel_c h
  have e : ∀ i, i < 25 → cr (M 47) 0 75 25 (75 + i) = M 47 i := fun i hi => by rw [cr_in hi, Nat.zero_add]
  refine ⟨fun i hi => cr_o (by omega), fun i h1 h2 _ _ _ _ => ?_, ?_, ?_, ?_, ?_⟩
  · have := e (i - 75) (by omega); rw [show 75 + (i - 75) = i by omega] at this; exact this
  · rw [e 19 (by decide), ← rw0 13 (by decide) (by decide), vw_13]
  · rw [e 20 (by decide), ← rw0 14 (by decide) (by decide), vw_14]
  · rw [e 14 (by decide), ← rw0 8 (by decide) (by decide), vw_8]; simp; omega
  · rw [e 16 (by decide), ← rw0 10 (by decide) (by decide), vw_10]
def okV (M : Mem) (k v c s : Int) : Bool := allB (okf (fun i => cbS (M 3) (M 6 i)) (B2 M 3) (M 6) (sdS (M 3) k v c s)) 0 (M 3 5).toNat
/-- the reference's isSafe over such a row, behind any tried years of the object -/
theorem safe_rr {n : Nat} {M N : Mem} {r : Nat → Int} {k v c s : Int} (hn : 1000 ≤ n) (h : Rel M) (hN : TrOff M N) (g : RowSd M r k v c s) (hk : 0 ≤ k ∧ k ≤ 4) (hv : 0 ≤ v ∧ v ≤ 9) (hc : 0 ≤ c ∧ c ≤ 40) (hs : 0 ≤ s ∧ s ≤ 40) : ∃ r', f_X6_isSafe n (sr N 47 r) = some (if okV M k v c s then 1 else 0, sr N 47 r') ∧ ∀ i, i < 100 → r' i = r i := by
  obtain ⟨c1, c2, c3, c4, ok, okb, rw0, rb⟩ := Rel_c h
  have e46 : N 46 = M 46 := hN 46 (by decide)
  have e48 : N 48 = M 48 := hN 48 (by decide)
  obtain ⟨r', b1, b2⟩ := safe_r (n := n) (M := N) (B := B2 M 3) (S := sdS (M 3) k v c s) (r := r) hn (by rw [e46, c3]; exact c1) (by rw [e46, c4]; exact c2) okb (sdS_ok ok hk hv hc hs) (by rw [e46]; exact RowSd_pg h g)
  refine ⟨r', ?_, b2⟩
  rw [b1, e46, e48, c4]
  have : allB (okf (fun i => cbS (vw r 0) (M 48 i)) (B2 M 3) (M 48) (sdS (M 3) k v c s)) 0 (M 3 5).toNat = okV M k v c s := by
    refine allB_cong (fun i h1 h2 => ?_)
    unfold okf
    have e := rows_of h i (by omega)
    have ev := vw_off (r := M 47) (r' := r) (p := 0) (fun k h1 h2 => g.1 k (by omega))
    dsimp only
    simp only [e]
    have : cbS (vw r 0) (M 6 i) = cbS (M 3) (M 6 i) := by
      unfold cbS
      rw [ev 15 (by decide) (by decide), ev 16 (by decide) (by decide), rw0 15 (by decide) (by decide), rw0 16 (by decide) (by decide)]
    simp only [this]
  rw [this]
/-- the bits of the v that are safe -/
def sbS (f : Nat → Bool) : Nat → Int
  | 0 => 0
  | v + 1 => if f v then bOr (sbS f v) (bShl 1 v) else sbS f v
theorem sbS_wr (f : Nat → Bool) : ∀ i, wr (sbS f i) = sbS f i
  | 0 => wr_0
  | i + 1 => by rw [sbS]; split; exact wr_bOr _ _; exact sbS_wr f i
theorem wr_bi {c : Prop} [Decidable c] : wr (if c then (1 : Int) else 0) = if c then 1 else 0 := by split; exact wr_1; exact wr_0
theorem safeB_c {n0 : Nat} {M : Mem} (hn0 : 1000 ≤ n0) (h : Rel M) {k : Int} (hk : 0 ≤ k ∧ k ≤ 4) : ∀ (t n v : Nat) (N : Mem), t < n → v + t = 10 → TrOff M N → ∃ N', lp (fun s => f_X5_safe_15 n0 k s.1 s.2.1 s.2.2) n (sbS (fun v => okV M k v (M 3 8) (M 3 10)) v, (v : Int), N) = some (sbS (fun v => okV M k v (M 3 8) (M 3 10)) 10, N') ∧ TrOff M N' := by
  obtain ⟨c1, c2, c3, c4, ok, okb, rw0, rb⟩ := Rel_c h
  have h8 : 0 ≤ M 3 8 ∧ M 3 8 ≤ 40 := by unfold OkS at ok; omega
  have h10 : 0 ≤ M 3 10 ∧ M 3 10 ≤ 40 := by unfold OkS at ok; omega
  intro t
  induction t with
  | zero =>
    intro n v N hn hv hN
    obtain ⟨m, rfl⟩ : ∃ m, n = m + 1 := ⟨n - 1, by omega⟩
    have : v = 10 := by omega
    subst this
    refine ⟨N, lp_end (s := (sbS (fun v => okV M k v (M 3 8) (M 3 10)) 10, ((10 : Nat) : Int), N)) ?_, hN⟩
    show f_X5_safe_15 n0 k _ ((10 : Nat) : Int) N = _
    unfold f_X5_safe_15
    rw [wr_id (by omega) (by omega), if_pos (by omega)]
  | succ t ih =>
    intro n v N hn hv hN
    obtain ⟨m, rfl⟩ : ∃ m, n = m + 1 := ⟨n - 1, by omega⟩
    obtain ⟨N1, a1, a2⟩ := safe_c (n := n0) hn0 h hk (v := (v : Int)) (by omega) h8 h10 hN
    have e : f_X5_safe_15 n0 k (sbS (fun v => okV M k v (M 3 8) (M 3 10)) v) (v : Int) N = some (.inl (sbS (fun v => okV M k v (M 3 8) (M 3 10)) (v + 1), (v : Int) + 1, N1)) := by
      unfold f_X5_safe_15 f_X5_safe_50
      rw [wr_id (by omega) (by omega), if_neg (by omega), hN 3 (by decide), a1, Option.bind_some]
      dsimp only
      rw [ifbi, sbS]
      show (if okV M k v (M 3 8) (M 3 10) then _ else _) = _
      split <;> rfl
    obtain ⟨N', b1, b2⟩ := ih m (v + 1) N1 (by omega) (by omega) a2
    refine ⟨N', ?_, b2⟩
    rw [lp_succ (f := fun s => f_X5_safe_15 n0 k s.1 s.2.1 s.2.2) (s := (sbS (fun v => okV M k v (M 3 8) (M 3 10)) v, (v : Int), N)) e]
    exact b1
theorem RowSd_v {M : Mem} {r : Nat → Int} {k v c s : Int} (g : RowSd M r k v c s) (w : Int) : RowSd M (fun j => if j = 95 then w else r j) k w c s := by
  obtain ⟨g1, g2, g3, g4, g5, g6⟩ := g
  refine ⟨fun i hi => ?_, fun i h1 h2 h3 h4 h5 h6 => ?_, ?_, ?_, ?_, ?_⟩
  · dsimp only; rw [if_neg (by omega)]; exact g1 i hi
  · dsimp only; rw [if_neg (by omega)]; exact g2 i h1 h2 h3 h4 h5 h6
  · dsimp only; rw [if_neg (by decide)]; exact g3
  · dsimp only; rw [if_pos rfl]
  · dsimp only; rw [if_neg (by decide)]; exact g5
  · dsimp only; rw [if_neg (by decide)]; exact g6
theorem RowSd_kd {M : Mem} {r : Nat → Int} {k v c s : Int} (g : RowSd M r k v c s) (w : Int) : RowSd M (fun j => if j = 94 then w else r j) w v c s := by
  obtain ⟨g1, g2, g3, g4, g5, g6⟩ := g
  refine ⟨fun i hi => ?_, fun i h1 h2 h3 h4 h5 h6 => ?_, ?_, ?_, ?_, ?_⟩
  · dsimp only; rw [if_neg (by omega)]; exact g1 i hi
  · dsimp only; rw [if_neg (by omega)]; exact g2 i h1 h2 h3 h4 h5 h6
  · dsimp only; rw [if_pos rfl]
  · dsimp only; rw [if_neg (by decide)]; exact g4
  · dsimp only; rw [if_neg (by decide)]; exact g5
  · dsimp only; rw [if_neg (by decide)]; exact g6
theorem RowSd_c {M : Mem} {r : Nat → Int} {k v c s : Int} (g : RowSd M r k v c s) (w : Int) : RowSd M (fun j => if j = 89 then 40 - w else r j) k v w s := by
  obtain ⟨g1, g2, g3, g4, g5, g6⟩ := g
  refine ⟨fun i hi => ?_, fun i h1 h2 h3 h4 h5 h6 => ?_, ?_, ?_, ?_, ?_⟩
  · dsimp only; rw [if_neg (by omega)]; exact g1 i hi
  · dsimp only; rw [if_neg (by omega)]; exact g2 i h1 h2 h3 h4 h5 h6
  · dsimp only; rw [if_neg (by decide)]; exact g3
  · dsimp only; rw [if_neg (by decide)]; exact g4
  · dsimp only; rw [if_pos rfl]
  · dsimp only; rw [if_neg (by decide)]; exact g6
theorem RowSd_s {M : Mem} {r : Nat → Int} {k v c s : Int} (g : RowSd M r k v c s) (w : Int) : RowSd M (fun j => if j = 91 then w else r j) k v c w := by
  obtain ⟨g1, g2, g3, g4, g5, g6⟩ := g
  refine ⟨fun i hi => ?_, fun i h1 h2 h3 h4 h5 h6 => ?_, ?_, ?_, ?_, ?_⟩
  · dsimp only; rw [if_neg (by omega)]; exact g1 i hi
  · dsimp only; rw [if_neg (by omega)]; exact g2 i h1 h2 h3 h4 h5 h6
  · dsimp only; rw [if_neg (by decide)]; exact g3
  · dsimp only; rw [if_neg (by decide)]; exact g4
  · dsimp only; rw [if_neg (by decide)]; exact g5
  · dsimp only; rw [if_pos rfl]
theorem st47 (N : Mem) (r : Nat → Int) (p : Nat) (w : Int) : st (sr N 47 r) 47 p w = sr N 47 (fun j => if j = p then w else r j) := by
  unfold st; rw [sr_same, sr_sr]
theorem safeB_r {n0 : Nat} {M N : Mem} (hn0 : 1000 ≤ n0) (h : Rel M) (hN : TrOff M N) {k : Int} (hk : 0 ≤ k ∧ k ≤ 4) : ∀ (t n v : Nat) (r : Nat → Int) (v0 : Int), t < n → v + t = 10 → RowSd M r k v0 (M 3 8) (M 3 10) → ∃ r', lp (fun s => f_X6_safe_33 n0 s.1 s.2.1 s.2.2) n (sbS (fun v => okV M k v (M 3 8) (M 3 10)) v, (v : Int), sr N 47 r) = some (sbS (fun v => okV M k v (M 3 8) (M 3 10)) 10, sr N 47 r') ∧ ∀ i, i < 75 → r' i = M 47 i := by
  obtain ⟨c1, c2, c3, c4, ok, okb, rw0, rb⟩ := Rel_c h
  have h8 : 0 ≤ M 3 8 ∧ M 3 8 ≤ 40 := by unfold OkS at ok; omega
  have h10 : 0 ≤ M 3 10 ∧ M 3 10 ≤ 40 := by unfold OkS at ok; omega
  intro t
  induction t with
  | zero =>
    intro n v r v0 hn hv g
    obtain ⟨m, rfl⟩ : ∃ m, n = m + 1 := ⟨n - 1, by omega⟩
    have : v = 10 := by omega
    subst this
    refine ⟨r, lp_end (s := (sbS (fun v => okV M k v (M 3 8) (M 3 10)) 10, ((10 : Nat) : Int), sr N 47 r)) ?_, g.1⟩
    show f_X6_safe_33 n0 _ ((10 : Nat) : Int) (sr N 47 r) = _
    unfold f_X6_safe_33
    rw [wr_id (by omega) (by omega), if_pos (by omega)]
  | succ t ih =>
    intro n v r v0 hn hv g
    obtain ⟨m, rfl⟩ : ∃ m, n = m + 1 := ⟨n - 1, by omega⟩
    have g1 := RowSd_v g (v : Int)
    obtain ⟨r1, a1, a2⟩ := safe_rr (n := n0) hn0 h hN g1 hk (by omega) h8 h10
    have e : f_X6_safe_33 n0 (sbS (fun v => okV M k v (M 3 8) (M 3 10)) v) (v : Int) (sr N 47 r) = some (.inl (sbS (fun v => okV M k v (M 3 8) (M 3 10)) (v + 1), (v : Int) + 1, sr N 47 r1)) := by
      unfold f_X6_safe_33 f_X6_safe_62
      rw [wr_id (by omega) (by omega), if_neg (by omega), Option.bind_some, st47, a1, Option.bind_some]
      dsimp only
      rw [ifbi, sbS, bOr0 (sbS_wr _ _)]
      split <;> rfl
    obtain ⟨r', b1, b2⟩ := ih m (v + 1) r1 (v : Int) (by omega) (by omega) (RowSd_k g1 a2)
    refine ⟨r', ?_, b2⟩
    rw [lp_succ (f := fun s => f_X6_safe_33 n0 s.1 s.2.1 s.2.2) (s := (sbS (fun v => okV M k v (M 3 8) (M 3 10)) v, (v : Int), sr N 47 r)) e]
    exact b1
theorem op_safe {n : Nat} {M : Mem} {x : Int} (hn : 1000 ≤ n) (hx : rg x) (h : Rel M) : ∃ r M1 M2, f_X5_safe n x M = some (r, M1) ∧ f_X6_safe n x M1 = some (r, M2) ∧ Rel M2 := by
  unfold f_X5_safe f_X6_safe
  rw [within_c hx (rgl 0) (rgl 4), Option.bind_some, ifbi]
  by_cases g : 0 ≤ x ∧ x ≤ 4
  · rw [if_pos g]
    obtain ⟨N, a1, a2⟩ := safeB_c (n0 := n) hn h g 10 n 0 M (by omega) (by omega) (fun _ _ => rfl)
    have e47 : N 47 = M 47 := a2 47 (by decide)
    obtain ⟨r', b1, b2⟩ := safeB_r (n0 := n) (N := N) hn h a2 g 10 n 0 (fun j => if j = 94 then x else cr (M 47) 0 75 25 j) (M 3 14) (by omega) (by omega) (RowSd_kd (RowSd_0 h) x)
    refine ⟨_, N, sr N 47 r', a1, ?_, ?_⟩
    · rw [wr_rg hx, in_r hx (rgl 0) (rgl 4), Option.bind_some, if_pos g, if_neg w1n0, show (75 : Int) = ((75 : Nat) : Int) from rfl, copies0 (by omega) (by decide), Option.bind_some, Option.bind_some, st47, e47]
      exact b1
    · exact Rel_off (Off.trans a2.off (Off_47 (fun k hk => by rw [b2 k hk, e47]))) h
  · rw [if_neg g]
    refine ⟨-1, M, M, rfl, ?_, h⟩
    rw [wr_rg hx, in_r hx (rgl 0) (rgl 4), Option.bind_some, if_neg g, if_pos wr_0]
/-- the first number from c on, of t, by which it holds -/
def fsS (f : Nat → Bool) : Nat → Nat → Int
  | _, 0 => -4
  | c, t + 1 => if f c then (c : Int) else fsS f (c + 1) t
theorem least_c {n0 : Nat} {M : Mem} (hn0 : 1000 ≤ n0) (h : Rel M) : ∀ (t n c : Nat) (N : Mem), t < n → (c : Int) + t = M 3 8 + 1 → TrOff M N → ∃ N', lp (fun s => f_X5_least_2 n0 s.1 s.2) n ((c : Int), N) = some (fsS (fun c => okV M (M 3 13) (M 3 14) (M 3 8) c) c t, N') ∧ TrOff M N' := by
  obtain ⟨c1, c2, c3, c4, ok, okb, rw0, rb⟩ := Rel_c h
  have ok' := ok
  obtain ⟨h6, h7, h8, h9, h10, h11, h12, h13, h14, h15⟩ := ok'
  intro t
  induction t with
  | zero =>
    intro n c N hn hc hN
    obtain ⟨m, rfl⟩ : ∃ m, n = m + 1 := ⟨n - 1, by omega⟩
    refine ⟨N, lp_end (s := ((c : Int), N)) ?_, hN⟩
    show f_X5_least_2 n0 (c : Int) N = _
    unfold f_X5_least_2
    rw [hN 3 (by decide), wr_id (by omega) (by omega), wr_id (by omega) (by omega), if_pos (by omega)]
    rfl
  | succ t ih =>
    intro n c N hn hc hN
    obtain ⟨m, rfl⟩ : ∃ m, n = m + 1 := ⟨n - 1, by omega⟩
    obtain ⟨N1, a1, a2⟩ := safe_c (n := n0) hn0 h h13 h14 h8 (s := (c : Int)) (by omega) hN
    have e : f_X5_least_2 n0 (c : Int) N = if okV M (M 3 13) (M 3 14) (M 3 8) c then some (.inr ((c : Int), N1)) else some (.inl ((c : Int) + 1, N1)) := by
      unfold f_X5_least_2
      rw [hN 3 (by decide), wr_id (by omega) (by omega), wr_id (by omega) (by omega), if_neg (by omega), a1, Option.bind_some]
      dsimp only
      rw [ifbi]
      rfl
    rw [fsS]
    by_cases q : okV M (M 3 13) (M 3 14) (M 3 8) c = true
    · rw [if_pos q] at e ⊢
      exact ⟨N1, lp_end (f := fun s => f_X5_least_2 n0 s.1 s.2) (s := ((c : Int), N)) e, a2⟩
    · rw [if_neg q] at e ⊢
      obtain ⟨N', b1, b2⟩ := ih m (c + 1) N1 (by omega) (by omega) a2
      refine ⟨N', ?_, b2⟩
      rw [lp_succ (f := fun s => f_X5_least_2 n0 s.1 s.2) (s := ((c : Int), N)) e]
      exact b1
theorem least_r {n0 : Nat} {M N : Mem} (hn0 : 1000 ≤ n0) (h : Rel M) (hN : TrOff M N) : ∀ (t n c : Nat) (r : Nat → Int) (s0 : Int), t < n → (c : Int) + t = M 3 8 + 1 → RowSd M r (M 3 13) (M 3 14) (M 3 8) s0 → ∃ r', lp (fun s => f_X6_least_9 n0 s.1 s.2) n ((c : Int), sr N 47 r) = some (fsS (fun c => okV M (M 3 13) (M 3 14) (M 3 8) c) c t, sr N 47 r') ∧ ∀ i, i < 75 → r' i = M 47 i := by
  obtain ⟨c1, c2, c3, c4, ok, okb, rw0, rb⟩ := Rel_c h
  have ok' := ok
  obtain ⟨h6, h7, h8, h9, h10, h11, h12, h13, h14, h15⟩ := ok'
  intro t
  induction t with
  | zero =>
    intro n c r s0 hn hc g
    obtain ⟨m, rfl⟩ : ∃ m, n = m + 1 := ⟨n - 1, by omega⟩
    have ecap : f_X6_capOn 0 (sr N 47 r) = some (M 3 8) := by
      have := capOn_r (p := 0) (M := sr N 47 r) (by decide)
      rw [sr_same, vw_8, g.1 14 (by decide), ← vw_8 (M 47) 0, rw0 8 (by decide) (by decide)] at this
      exact this
    refine ⟨r, lp_end (s := ((c : Int), sr N 47 r)) ?_, g.1⟩
    show f_X6_least_9 n0 (c : Int) (sr N 47 r) = _
    unfold f_X6_least_9
    rw [ecap, Option.bind_some, wr_id (by omega) (by omega), wr_id (by omega) (by omega), if_pos (by omega)]
    rfl
  | succ t ih =>
    intro n c r s0 hn hc g
    obtain ⟨m, rfl⟩ : ∃ m, n = m + 1 := ⟨n - 1, by omega⟩
    have ecap : f_X6_capOn 0 (sr N 47 r) = some (M 3 8) := by
      have := capOn_r (p := 0) (M := sr N 47 r) (by decide)
      rw [sr_same, vw_8, g.1 14 (by decide), ← vw_8 (M 47) 0, rw0 8 (by decide) (by decide)] at this
      exact this
    have g1 := RowSd_s g (c : Int)
    obtain ⟨r1, a1, a2⟩ := safe_rr (n := n0) hn0 h hN g1 h13 h14 h8 (by omega)
    have e : f_X6_least_9 n0 (c : Int) (sr N 47 r) = if okV M (M 3 13) (M 3 14) (M 3 8) c then some (.inr ((c : Int), sr N 47 r1)) else some (.inl ((c : Int) + 1, sr N 47 r1)) := by
      unfold f_X6_least_9
      rw [ecap, Option.bind_some, wr_id (by omega) (by omega), wr_id (by omega) (by omega), if_neg (by omega), Option.bind_some, st47, a1, Option.bind_some]
      dsimp only
      rw [ifbi]
    rw [fsS]
    by_cases q : okV M (M 3 13) (M 3 14) (M 3 8) c = true
    · rw [if_pos q] at e ⊢
      exact ⟨r1, lp_end (f := fun s => f_X6_least_9 n0 s.1 s.2) (s := ((c : Int), sr N 47 r)) e, (RowSd_k g1 a2).1⟩
    · rw [if_neg q] at e ⊢
      obtain ⟨r', b1, b2⟩ := ih m (c + 1) r1 (c : Int) (by omega) (by omega) (RowSd_k g1 a2)
      refine ⟨r', ?_, b2⟩
      rw [lp_succ (f := fun s => f_X6_least_9 n0 s.1 s.2) (s := ((c : Int), sr N 47 r)) e]
      exact b1
theorem op_least {n : Nat} {M : Mem} (hn : 1000 ≤ n) (h : Rel M) : ∃ r M1 M2, f_X5_least n M = some (r, M1) ∧ f_X6_least n M1 = some (r, M2) ∧ Rel M2 := by
  obtain ⟨c1, c2, c3, c4, ok, okb, rw0, rb⟩ := Rel_c h
  have h8 : 0 ≤ M 3 8 ∧ M 3 8 ≤ 40 := by unfold OkS at ok; omega
  unfold f_X5_least f_X6_least
  obtain ⟨N, a1, a2⟩ := least_c (n0 := n) hn h (M 3 8 + 1).toNat n 0 M (by omega) (by omega) (fun _ _ => rfl)
  have e47 : N 47 = M 47 := a2 47 (by decide)
  obtain ⟨r', b1, b2⟩ := least_r (n0 := n) (N := N) hn h a2 (M 3 8 + 1).toNat n 0 (cr (M 47) 0 75 25) (M 3 10) (by omega) (by omega) (RowSd_0 h)
  refine ⟨_, N, sr N 47 r', a1, ?_, ?_⟩
  · rw [show (75 : Int) = ((75 : Nat) : Int) from rfl, copies0 (by omega) (by decide), Option.bind_some, e47]
    exact b1
  · exact Rel_off (Off.trans a2.off (Off_47 (fun k hk => by rw [b2 k hk, e47]))) h
/-- a steward who keeps all has no use for v -/
def Rw0 (S T : Nat → Int) : Prop := S 13 = 0 ∧ T 13 = 0 ∧ ∀ k, 6 ≤ k → k ≤ 18 → k ≠ 14 → S k = T k
theorem fhS_k0 {B : Int → Int} {row : Int} : ∀ (t : Nat) {S T : Nat → Int}, Rw0 S T → (fhS B row t S).1 = (fhS B row t T).1 := by
  intro t
  induction t with
  | zero => intro S T _; rfl
  | succ t ih =>
    intro S T h
    obtain ⟨s13, t13, e⟩ := h
    have eh : hgS S B (bt row (S 15)) = hgS T B (bt row (T 15)) := by
      unfold hgS; rw [e 15 (by decide) (by decide) (by decide), e 10 (by decide) (by decide) (by decide), e 6 (by decide) (by decide) (by decide)]
    rw [fhS, fhS, eh]
    split
    · refine ih ⟨?_, ?_, ?_⟩
      · rw [hmS_i _ _ _ 13 (by decide)]; exact s13
      · rw [hmS_i _ _ _ 13 (by decide)]; exact t13
      · intro k h1 h2 h3
        unfold hmS psS kpS wnS lfS hgS rtS prS
        rw [s13, t13, e 15 (by decide) (by decide) (by decide), e 16 (by decide) (by decide) (by decide), e 17 (by decide) (by decide) (by decide), e 18 (by decide) (by decide) (by decide), e 10 (by decide) (by decide) (by decide), e 6 (by decide) (by decide) (by decide), e 8 (by decide) (by decide) (by decide), e 9 (by decide) (by decide) (by decide), e 11 (by decide) (by decide) (by decide), e 12 (by decide) (by decide) (by decide), e k h1 h2 h3]
        simp
    · exact e 15 (by decide) (by decide) (by decide)
theorem okV_0 (M : Mem) (v w c s : Int) : okV M 0 v c s = okV M 0 w c s := by
  unfold okV
  refine allB_cong (fun i _ _ => ?_)
  unfold okf
  have e15 : sdS (M 3) 0 v c s 15 = sdS (M 3) 0 w c s 15 := by simp [sdS]
  rw [e15, fhS_k0 (S := sdS (M 3) 0 v c s) (T := sdS (M 3) 0 w c s) _ ⟨by simp [sdS], by simp [sdS], fun k _ _ h3 => by unfold sdS; simp [h3]⟩]
theorem granary_c {n0 : Nat} {M : Mem} (hn0 : 1000 ≤ n0) (h : Rel M) : ∀ (t n c : Nat) (N : Mem), t < n → c + t = 41 → TrOff M N → ∃ N', lp (fun s => f_X5_granary_8 n0 s.1 s.2) n ((c : Int), N) = some (fsS (fun c => okV M 0 0 c (M 3 10)) c t, N') ∧ TrOff M N' := by
  obtain ⟨c1, c2, c3, c4, ok, okb, rw0, rb⟩ := Rel_c h
  have ok' := ok
  obtain ⟨h6, h7, h8, h9, h10, h11, h12, h13, h14, h15⟩ := ok'
  intro t
  induction t with
  | zero =>
    intro n c N hn hc hN
    obtain ⟨m, rfl⟩ : ∃ m, n = m + 1 := ⟨n - 1, by omega⟩
    refine ⟨N, lp_end (s := ((c : Int), N)) ?_, hN⟩
    show f_X5_granary_8 n0 (c : Int) N = _
    unfold f_X5_granary_8
    rw [wr_id (by omega) (by omega), if_pos (by omega)]
    rfl
  | succ t ih =>
    intro n c N hn hc hN
    obtain ⟨m, rfl⟩ : ∃ m, n = m + 1 := ⟨n - 1, by omega⟩
    obtain ⟨N1, a1, a2⟩ := safe_c (n := n0) hn0 h (k := 0) (by decide) (v := 0) (by decide) (c := (c : Int)) (by omega) h10 hN
    have e : f_X5_granary_8 n0 (c : Int) N = if okV M 0 0 c (M 3 10) then some (.inr ((c : Int), N1)) else some (.inl ((c : Int) + 1, N1)) := by
      unfold f_X5_granary_8
      rw [hN 3 (by decide), wr_id (by omega) (by omega), if_neg (by omega), a1, Option.bind_some]
      dsimp only
      rw [ifbi]
      rfl
    rw [fsS]
    by_cases q : okV M 0 0 c (M 3 10) = true
    · rw [if_pos q] at e ⊢
      exact ⟨N1, lp_end (f := fun s => f_X5_granary_8 n0 s.1 s.2) (s := ((c : Int), N)) e, a2⟩
    · rw [if_neg q] at e ⊢
      obtain ⟨N', b1, b2⟩ := ih m (c + 1) N1 (by omega) (by omega) a2
      refine ⟨N', ?_, b2⟩
      rw [lp_succ (f := fun s => f_X5_granary_8 n0 s.1 s.2) (s := ((c : Int), N)) e]
      exact b1
theorem granary_r {n0 : Nat} {M N : Mem} (hn0 : 1000 ≤ n0) (h : Rel M) (hN : TrOff M N) : ∀ (t n c : Nat) (r : Nat → Int) (s0 : Int), t < n → c + t = 41 → RowSd M r 0 (M 3 14) s0 (M 3 10) → ∃ r', lp (fun s => f_X6_granary_23 n0 s.1 s.2) n ((c : Int), sr N 47 r) = some (fsS (fun c => okV M 0 0 c (M 3 10)) c t, sr N 47 r') ∧ ∀ i, i < 75 → r' i = M 47 i := by
  obtain ⟨c1, c2, c3, c4, ok, okb, rw0, rb⟩ := Rel_c h
  have ok' := ok
  obtain ⟨h6, h7, h8, h9, h10, h11, h12, h13, h14, h15⟩ := ok'
  intro t
  induction t with
  | zero =>
    intro n c r s0 hn hc g
    obtain ⟨m, rfl⟩ : ∃ m, n = m + 1 := ⟨n - 1, by omega⟩
    refine ⟨r, lp_end (s := ((c : Int), sr N 47 r)) ?_, g.1⟩
    show f_X6_granary_23 n0 (c : Int) (sr N 47 r) = _
    unfold f_X6_granary_23
    rw [wr_id (by omega) (by omega), if_pos (by omega)]
    rfl
  | succ t ih =>
    intro n c r s0 hn hc g
    obtain ⟨m, rfl⟩ : ∃ m, n = m + 1 := ⟨n - 1, by omega⟩
    have g1 := RowSd_c g (c : Int)
    obtain ⟨r1, a1, a2⟩ := safe_rr (n := n0) hn0 h hN g1 (by decide) h14 (by omega) h10
    rw [okV_0 M (M 3 14) 0] at a1
    have e : f_X6_granary_23 n0 (c : Int) (sr N 47 r) = if okV M 0 0 c (M 3 10) then some (.inr ((c : Int), sr N 47 r1)) else some (.inl ((c : Int) + 1, sr N 47 r1)) := by
      unfold f_X6_granary_23
      rw [wr_id (by omega) (by omega), if_neg (by omega), Option.bind_some, st47, a1, Option.bind_some]
      dsimp only
      rw [ifbi]
    rw [fsS]
    by_cases q : okV M 0 0 c (M 3 10) = true
    · rw [if_pos q] at e ⊢
      exact ⟨r1, lp_end (f := fun s => f_X6_granary_23 n0 s.1 s.2) (s := ((c : Int), sr N 47 r)) e, (RowSd_k g1 a2).1⟩
    · rw [if_neg q] at e ⊢
      obtain ⟨r', b1, b2⟩ := ih m (c + 1) r1 (c : Int) (by omega) (by omega) (RowSd_k g1 a2)
      refine ⟨r', ?_, b2⟩
      rw [lp_succ (f := fun s => f_X6_granary_23 n0 s.1 s.2) (s := ((c : Int), sr N 47 r)) e]
      exact b1
theorem op_granary {n : Nat} {M : Mem} (hn : 1000 ≤ n) (h : Rel M) : ∃ r M1 M2, f_X5_granary n M = some (r, M1) ∧ f_X6_granary n M1 = some (r, M2) ∧ Rel M2 := by
  obtain ⟨c1, c2, c3, c4, ok, okb, rw0, rb⟩ := Rel_c h
  have h10 : 0 ≤ M 3 10 ∧ M 3 10 ≤ 40 := by unfold OkS at ok; omega
  obtain ⟨s, hs⟩ : ∃ s : Nat, M 3 10 = (s : Int) := ⟨(M 3 10).toNat, by omega⟩
  unfold f_X5_granary f_X6_granary
  obtain ⟨N, a1, a2⟩ := granary_c (n0 := n) hn h (41 - s) n s M (by omega) (by omega) (fun _ _ => rfl)
  have e47 : N 47 = M 47 := a2 47 (by decide)
  obtain ⟨r', b1, b2⟩ := granary_r (n0 := n) (N := N) hn h a2 (41 - s) n s (fun j => if j = 94 then 0 else cr (M 47) 0 75 25 j) (M 3 8) (by omega) (by omega) (RowSd_kd (RowSd_0 h) 0)
  rw [← hs] at a1 b1
  refine ⟨_, N, sr N 47 r', a1, ?_, ?_⟩
  · rw [show (75 : Int) = ((75 : Nat) : Int) from rfl, copies0 (by omega) (by decide), Option.bind_some, Option.bind_some, st47, e47, sr_same, if_neg (by decide), cr_o (by decide), show M 47 16 = M 3 10 by rw [← rw0 10 (by decide) (by decide), vw_10]]
    exact b1
  · exact Rel_off (Off.trans a2.off (Off_47 (fun k hk => by rw [b2 k hk, e47]))) h
