/-! books: what was seen -/
def agB (M : Mem) (t s : Int) : Bool := allB (fun i => !decide (M 23 i = t) || decide (M 24 i = s)) 0 (M 22 2).toNat
theorem agree_lp {n0 : Nat} {M X : Mem} {y s : Int} (h : Rel M) (hX : ∀ a, 22 ≤ a → a ≤ 24 → X a = M a) (hy : rg y) (hs : rg s) : ∀ (t n i : Nat), t < n → i + t = (M 22 2).toNat → lp (fun q => f_X0_agree_2 n0 y s q X) n (i : Int) = some (if allB (fun i => !decide (M 23 i = y) || decide (M 24 i = s)) i t then 1 else 0) := by
  obtain ⟨k1, k2, k3⟩ := h.2.2.1
  intro t
  induction t with
  | zero =>
    intro n i hn hi
    obtain ⟨m, rfl⟩ : ∃ m, n = m + 1 := ⟨n - 1, by omega⟩
    refine lp_end (s := (i : Int)) ?_
    unfold f_X0_agree_2
    rw [hX 22 (by decide) (by decide), wr_id (by omega) (by omega), wr_id (by omega) (by omega), if_pos (by omega)]
    rfl
  | succ t ih =>
    intro n i hn hi
    obtain ⟨m, rfl⟩ : ∃ m, n = m + 1 := ⟨n - 1, by omega⟩
    have a := k3 i (by omega)
    have e : f_X0_agree_2 n0 y s (i : Int) X = if M 23 i = y then (if M 24 i = s then some (.inl ((i : Int) + 1)) else some (.inr 0)) else some (.inl ((i : Int) + 1)) := by
      unfold f_X0_agree_2 f_X0_agree_32
      rw [hX 22 (by decide) (by decide), wr_id (by omega) (by omega), wr_id (by omega) (by omega), if_neg (by omega), rd_id (by omega) (by omega) (by omega), Option.bind_some, rd_id (by omega) (by omega) (by omega), Option.bind_some, Int.toNat_natCast, hX 23 (by decide) (by decide), hX 24 (by decide) (by decide), wr_rg a.2.2.1, wr_rg a.2.2.2, wr_rg hy, wr_rg hs]
    rw [allB]
    by_cases q1 : M 23 i = y
    · rw [if_pos q1] at e
      by_cases q2 : M 24 i = s
      · rw [if_pos q2] at e
        rw [lp_succ (f := fun q => f_X0_agree_2 n0 y s q X) (s := (i : Int)) e]
        have b := ih m (i + 1) (by omega) (by omega)
        simp only [q1, q2, decide_true, Bool.or_true, Bool.true_and]
        exact b
      · rw [if_neg q2] at e
        rw [lp_end (f := fun q => f_X0_agree_2 n0 y s q X) (s := (i : Int)) e]
        simp [q1, q2]
    · rw [if_neg q1] at e
      rw [lp_succ (f := fun q => f_X0_agree_2 n0 y s q X) (s := (i : Int)) e]
      have b := ih m (i + 1) (by omega) (by omega)
      simp only [q1, decide_false, Bool.not_false, Bool.true_or, Bool.true_and]
      exact b
theorem agree_c {n : Nat} {M X : Mem} {y s : Int} (hn : 1000 ≤ n) (h : Rel M) (hX : ∀ a, 22 ≤ a → a ≤ 24 → X a = M a) (hy : rg y) (hs : rg s) : f_X0_agree n y s X = some (if agB M y s then 1 else 0) := by
  have k1 := h.2.2.1.1
  exact agree_lp (n0 := n) h hX hy hs (M 22 2).toNat n 0 (by omega) (by omega)
/-- a year by the steward with a thief -/
def hdS (B : Int → Int) (row hd : Int) (S : Nat → Int) : Nat → Int := if 8 ≤ S 15 then S else fun i => if i = 10 then max 0 (hmS S B (bt row (S 15)) 10 - hd) else hmS S B (bt row (S 15)) i
theorem hdS_i (B : Int → Int) (row hd : Int) (S : Nat → Int) (i : Nat) (h : i ≠ 10 ∧ i ≠ 15 ∧ i ≠ 16 ∧ i ≠ 17 ∧ i ≠ 18) : hdS B row hd S i = S i := by
  unfold hdS; split
  · rfl
  · dsimp only
    rw [if_neg h.1]; exact hmS_i _ _ _ i h
theorem hdS_ok {B : Int → Int} {row hd : Int} {S : Nat → Int} (h : OkS S) (hB : OkB B) (hh : 0 ≤ hd ∧ hd ≤ 9) : OkS (hdS B row hd S) := by
  unfold hdS; split
  · exact h
  · have a := OkS_hm (f := bt row (S 15)) h hB (bt_F _ _) (by omega)
    unfold OkS at a ⊢
    dsimp only
    rw [if_neg (by decide), if_neg (by decide), if_neg (by decide), if_neg (by decide), if_pos rfl, if_neg (by decide), if_neg (by decide), if_neg (by decide), if_neg (by decide), if_neg (by decide)]
    omega
theorem hdS_rw {B C : Int → Int} (hB : RB B C) (row hd : Int) {S T : Nat → Int} (h : Rw S T) : Rw (hdS B row hd S) (hdS C row hd T) := by
  intro i h1 h2
  unfold hdS
  have e := hmS_rw (f := bt row (T 15)) h hB (bt_F _ _)
  rw [h 15 (by decide) (by decide)]
  split
  · exact h i h1 h2
  · dsimp only
    rw [e i h1 h2, e 10 (by decide) (by decide)]
/-- whether all is as seen, for t more years, the first being the y-th -/
def asS (M : Mem) (B : Int → Int) (row hd : Int) : Nat → Nat → (Nat → Int) → Bool
  | 0, _, _ => true
  | t + 1, y, S => agB M (y : Int) (hdS B row hd S 10) && asS M B row hd t (y + 1) (hdS B row hd S)
theorem asS_rw {M : Mem} {B C : Int → Int} (hB : RB B C) (row hd : Int) : ∀ (t y : Nat) {S T : Nat → Int}, Rw S T → asS M B row hd t y S = asS M C row hd t y T := by
  intro t
  induction t with
  | zero => intro y S T _; rfl
  | succ t ih =>
    intro y S T h
    have e := hdS_rw hB row hd h
    rw [asS, asS, e 10 (by decide) (by decide), ih (y + 1) e]
theorem ap_sr (X : Mem) (k v : Int) : st (st X 8 13 k) 8 14 v = sr X 8 (sdS (X 8) k v (X 8 8) (X 8 10)) := by
  funext a i
  simp only [st_at]
  by_cases ha : a = 8
  · subst ha
    rw [sr_same]
    unfold sdS
    by_cases i13 : i = 13
    · simp [i13]
    · by_cases i14 : i = 14
      · simp [i14]
      · by_cases i8 : i = 8
        · simp [i8]
        · by_cases i10 : i = 10
          · simp [i10]
          · simp [i13, i14, i8, i10]
  · rw [sr_ne _ _ ha]; simp [ha]
theorem seen_lp {n0 : Nat} {M N : Mem} {rr hd : Int} (hn0 : 1000 ≤ n0) (h : Rel M) (hN : TrOff M N) (h0 : 0 ≤ rr) (h1 : rr < 4) (hh : 0 ≤ hd ∧ hd ≤ 9) (hB8 : B2 N 8 = B2 M 3) (h84 : N 8 4 = M 3 4) (h11 : N 11 rr.toNat = M 6 rr.toNat) : ∀ (t n y : Nat) (S : Nat → Int), t < n → y + t = 9 → 1 ≤ y → S 4 = M 3 4 → OkS S → ∃ S', lp (fun s => f_X5_isAsSeen_23 n0 rr hd s.1 s.2) n ((y : Int), sr N 8 S) = some (if asS M (B2 M 3) (M 6 rr.toNat) hd t y S then 1 else 0, sr N 8 S') := by
  obtain ⟨c1, c2, c3, c4, ok, okb, rw0, rb⟩ := Rel_c h
  intro t
  induction t with
  | zero =>
    intro n y S hn hy hy1 h4 hS
    obtain ⟨m, rfl⟩ : ∃ m, n = m + 1 := ⟨n - 1, by omega⟩
    refine ⟨S, lp_end (s := ((y : Int), sr N 8 S)) ?_⟩
    show f_X5_isAsSeen_23 n0 rr hd (y : Int) (sr N 8 S) = _
    unfold f_X5_isAsSeen_23
    rw [wr_id (by omega) (by omega), if_pos (by omega)]
    rfl
  | succ t ih =>
    intro n y S hn hy hy1 h4 hS
    obtain ⟨m, rfl⟩ : ∃ m, n = m + 1 := ⟨n - 1, by omega⟩
    have h15 : 0 ≤ S 15 ∧ S 15 ≤ 8 := by unfold OkS at hS; omega
    have hO := hdS_ok (row := M 6 rr.toNat) hS okb hh
    have hs10 : 0 ≤ hdS (B2 M 3) (M 6 rr.toNat) hd S 10 ∧ hdS (B2 M 3) (M 6 rr.toNat) hd S 10 ≤ 40 := by unfold OkS at hO; omega
    have key : f_X5_isAsSeen_23 n0 rr hd (y : Int) (sr N 8 S) = f_X5_isAsSeen_84 n0 rr hd (y : Int) (sr N 8 (hdS (B2 M 3) (M 6 rr.toNat) hd S)) := by
      unfold f_X5_isAsSeen_23
      rw [wr_id (by omega) (by omega), if_neg (by omega), isOver_c (by rw [sr_same]; exact h15), Option.bind_some, sr_same]
      by_cases ho : S 15 < 8
      · have hf := bt_F (M 6 rr.toNat) (S 15)
        have hm := OkS_hm (B := B2 M 3) hS okb hf ho
        have hm10 : 0 ≤ hmS S (B2 M 3) (bt (M 6 rr.toNat) (S 15)) 10 ∧ hmS S (B2 M 3) (bt (M 6 rr.toNat) (S 15)) 10 ≤ 40 := by unfold OkS at hm; omega
        have hp := him_sr (n := n0) (j := 8) (M := N) (S := S) (f := bt (M 6 rr.toNat) (S 15)) (by omega) (by rw [h84]; exact c1) (by rw [h84]; exact h4) hS (by rw [hB8]; exact okb) hf
        rw [hB8] at hp
        rw [if_pos ho, if_pos wr_0, fatIn_c h0 h1, Option.bind_some, sr_ne _ _ (show 8 + 3 ≠ 8 by decide), h11, hp, Option.bind_some]
        dsimp only
        rw [Option.bind_some, sr_same, mxx_id (by omega) (by omega) (by omega) (by omega)]
        congr 1
        unfold st
        rw [sr_same, sr_sr]
        congr 1
        unfold hdS
        rw [if_neg (by omega)]
      · rw [if_neg ho, if_neg w1n0]
        unfold hdS
        rw [if_pos (by omega)]
    have e : f_X5_isAsSeen_23 n0 rr hd (y : Int) (sr N 8 S) = if agB M (y : Int) (hdS (B2 M 3) (M 6 rr.toNat) hd S 10) then some (.inl ((y : Int) + 1, sr N 8 (hdS (B2 M 3) (M 6 rr.toNat) hd S))) else some (.inr (0, sr N 8 (hdS (B2 M 3) (M 6 rr.toNat) hd S))) := by
      rw [key]
      unfold f_X5_isAsSeen_84
      rw [sr_same, agree_c hn0 h (fun a ha hb => by rw [sr_ne _ _ (by omega), hN a (by omega)]) (rgl _) (rgl _), Option.bind_some, ifbi]
    rw [asS]
    by_cases q : agB M (y : Int) (hdS (B2 M 3) (M 6 rr.toNat) hd S 10) = true
    · rw [if_pos q] at e
      obtain ⟨S', b1⟩ := ih m (y + 1) (hdS (B2 M 3) (M 6 rr.toNat) hd S) (by omega) (by omega) (by omega) (by rw [hdS_i _ _ _ _ 4 (by decide)]; exact h4) hO
      refine ⟨S', ?_⟩
      rw [lp_succ (f := fun s => f_X5_isAsSeen_23 n0 rr hd s.1 s.2) (s := ((y : Int), sr N 8 S)) e]
      simp only [q, Bool.true_and]
      exact b1
    · rw [if_neg q] at e
      refine ⟨hdS (B2 M 3) (M 6 rr.toNat) hd S, ?_⟩
      rw [lp_end (f := fun s => f_X5_isAsSeen_23 n0 rr hd s.1 s.2) (s := ((y : Int), sr N 8 S)) e]
      simp [q]
def okN (M : Mem) (rr k v hd : Int) : Bool := asS M (B2 M 3) (M 6 rr.toNat) hd 8 1 (sdS (M 3) k v (M 3 8) (M 3 10))
theorem seen_c {n : Nat} {M N : Mem} {rr k v hd : Int} (hn : 1000 ≤ n) (h : Rel M) (hN : TrOff M N) (h0 : 0 ≤ rr) (h1 : rr < 4) (hk : 0 ≤ k ∧ k ≤ 4) (hv : 0 ≤ v ∧ v ≤ 9) (hh : 0 ≤ hd ∧ hd ≤ 9) : ∃ N', f_X5_isAsSeen n rr k v hd N = some (if okN M rr k v hd then 1 else 0, N') ∧ TrOff M N' := by
  obtain ⟨c1, c2, c3, c4, ok, okb, rw0, rb⟩ := Rel_c h
  have hRN := hN.rel h
  obtain ⟨p1, p2, p3, p4, p5, p6, p7⟩ := cp8 hRN
  have e3 : N 3 = M 3 := hN 3 (by decide)
  rw [B2_tr hN] at p3
  rw [e3] at p1 p4
  have h8 : 0 ≤ M 3 8 ∧ M 3 8 ≤ 40 := by unfold OkS at ok; omega
  have h10 : 0 ≤ M 3 10 ∧ M 3 10 ≤ 40 := by unfold OkS at ok; omega
  have hN0 : TrOff M (cpS N 8 3) := fun a ha => by rw [p7 a ha, hN a ha]
  have e8 := p1 8 (by decide) (by decide)
  have e10 := p1 10 (by decide) (by decide)
  obtain ⟨S', b1⟩ := seen_lp (n0 := n) (N := cpS N 8 3) hn h hN0 h0 h1 hh p3 p4 (by rw [p6 _ (by omega), hN 6 (by decide)]) 8 n 1 (sdS (cpS N 8 3 8) k v (M 3 8) (M 3 10)) (by omega) (by omega) (by omega) (by show cpS N 8 3 8 4 = _; exact p4) (sdS_ok p2 hk hv h8 h10)
  refine ⟨sr (cpS N 8 3) 8 S', ?_, fun a ha => by rw [sr_ne _ _ (by omega), hN0 a ha]⟩
  unfold f_X5_isAsSeen okN
  rw [copy_c (by decide), Option.bind_some, appoint_c, Option.bind_some, ap_sr, e8, e10, ← asS_rw (fun _ _ => rfl) (M 6 rr.toNat) hd 8 1 (sdS_rw p1 k v (M 3 8) (M 3 10))]
  exact b1
