/-! safe, granary, least -/
def allB (f : Nat → Bool) : Nat → Nat → Bool
  | _, 0 => true
  | r, t + 1 => f r && allB f (r + 1) t
theorem allB_cong {f g : Nat → Bool} : ∀ {t r : Nat}, (∀ i, r ≤ i → i < r + t → f i = g i) → allB f r t = allB g r t
  | 0, _, _ => rfl
  | t + 1, r, h => by rw [allB, allB, h r (Nat.le_refl _) (by omega), allB_cong (fun i h1 h2 => h i (by omega) (by omega))]
/-- a reading that can't be, or by which nobody starves -/
def okf (c : Nat → Int) (B : Int → Int) (R : Nat → Int) (S : Nat → Int) (i : Nat) : Bool := decide (c i = 0) || decide ((fhS B (R i) (8 - S 15).toNat S).1 = -4)
def TrOff (M N : Mem) : Prop := ∀ a, a < 8 ∨ 12 < a → N a = M a
theorem TrOff.off {M N : Mem} (h : TrOff M N) : Off M N := by
  intro a k q
  rw [h a (by unfold Scr at q; omega)]
theorem TrOff.rel {M N : Mem} (h : TrOff M N) (g : Rel M) : Rel N := Rel_off h.off g
theorem B2_tr {M N : Mem} (h : TrOff M N) : B2 N 3 = B2 M 3 := by
  funext f; unfold B2; rw [h 3 (by decide), h (3 + 1) (by decide), h (3 + 2) (by decide)]
theorem sd_sr (X : Mem) (k v c s : Int) : st (st (st (st X 8 13 k) 8 14 v) 8 8 c) 8 10 s = sr X 8 (sdS (X 8) k v c s) := by
  funext a i
  simp only [st_at]
  by_cases ha : a = 8
  · subst ha
    rw [sr_same]
    unfold sdS
    by_cases i13 : i = 13
    · simp [i13]
    · by_cases i14 : i = 14
      · simp [i14]
      · by_cases i8 : i = 8
        · simp [i8]
        · by_cases i10 : i = 10
          · simp [i10]
          · simp [i13, i14, i8, i10]
  · rw [sr_ne _ _ ha]; simp [ha]
theorem safe_lp {n0 : Nat} {M : Mem} (hn0 : 1000 ≤ n0) (h : Rel M) {k v c s : Int} (hk : 0 ≤ k ∧ k ≤ 4) (hv : 0 ≤ v ∧ v ≤ 9) (hc : 0 ≤ c ∧ c ≤ 40) (hs : 0 ≤ s ∧ s ≤ 40) : ∀ (t n r : Nat) (N : Mem), t < n → r + t = (M 3 5).toNat → TrOff M N → ∃ N', lp (fun s' => f_X5_isSafe_3 n0 k v c s s'.1 s'.2) n ((r : Int), N) = some (if allB (okf (fun i => cbS (M 3) (M 6 i)) (B2 M 3) (M 6) (sdS (M 3) k v c s)) r t then 1 else 0, N') ∧ TrOff M N' := by
  obtain ⟨c1, c2, c3, c4, ok, okb, rw0, rb⟩ := Rel_c h
  intro t
  induction t with
  | zero =>
    intro n r N hn hr hN
    obtain ⟨m, rfl⟩ : ∃ m, n = m + 1 := ⟨n - 1, by omega⟩
    refine ⟨N, lp_end (s := ((r : Int), N)) ?_, hN⟩
    show f_X5_isSafe_3 n0 k v c s (r : Int) N = _
    unfold f_X5_isSafe_3
    rw [hN 3 (by decide), wr_id (by omega) (by omega), wr_id (by omega) (by omega), if_pos (by omega)]
    rfl
  | succ t ih =>
    intro n r N hn hr hN
    obtain ⟨m, rfl⟩ : ∃ m, n = m + 1 := ⟨n - 1, by omega⟩
    have hRN := hN.rel h
    obtain ⟨p1, p2, p3, p4, p5, p6, p7⟩ := cp8 hRN
    have ecb : f_X2_canBe 3 (r : Int) N = some (cbS (M 3) (M 6 r)) := by
      rw [canBe_c (by omega) (by omega), hN 3 (by decide), hN (3 + 3) (by decide), Int.toNat_natCast]
    rw [allB]
    unfold okf
    by_cases hcb : cbS (M 3) (M 6 r) = 0
    · have e : f_X5_isSafe_3 n0 k v c s (r : Int) N = some (.inl ((r : Int) + 1, N)) := by
        unfold f_X5_isSafe_3 f_X5_isSafe_80
        rw [hN 3 (by decide), wr_id (by omega) (by omega), wr_id (by omega) (by omega), if_neg (by omega), ecb, Option.bind_some, wr_F (cbS_F _ _), if_pos hcb]
      obtain ⟨N', b1, b2⟩ := ih m (r + 1) N (by omega) (by omega) hN
      refine ⟨N', ?_, b2⟩
      rw [lp_succ (f := fun s' => f_X5_isSafe_3 n0 k v c s s'.1 s'.2) (s := ((r : Int), N)) e]
      simp only [hcb, decide_true, Bool.true_or, Bool.true_and]
      exact b1
    · have e3 : N 3 = M 3 := hN 3 (by decide)
      rw [B2_tr hN] at p3
      rw [e3] at p1 p4
      have hSd : Rw (sdS (cpS N 8 3 8) k v c s) (sdS (M 3) k v c s) := sdS_rw p1 k v c s
      have hok := sdS_ok p2 hk hv hc hs
      have A := firstHunger_c (n := n0) (j := 8) (M := sr (cpS N 8 3) 8 (sdS (cpS N 8 3 8) k v c s)) (r := (r : Int)) (by omega) (by rw [sr_same]; show 0 ≤ cpS N 8 3 8 4 ∧ cpS N 8 3 8 4 ≤ 4; rw [p4]; exact c1) (by rw [sr_same]; exact hok) (by rw [B2_sr (by rfl), p3]; exact okb) (by omega) (by omega)
      rw [sr_same, B2_sr (by rfl), p3, sr_ne _ _ (show 8 + 3 ≠ 8 by decide), Int.toNat_natCast, show cpS N 8 3 (8 + 3) r = M 6 r by rw [p6 r (by omega), hN 6 (by decide)], sr_sr] at A
      have e15 : sdS (cpS N 8 3 8) k v c s 15 = sdS (M 3) k v c s 15 := hSd 15 (by decide) (by decide)
      have efh := fhS_rw (B := B2 M 3) (C := B2 M 3) (fun _ _ => rfl) (M 6 r) (8 - sdS (M 3) k v c s 15).toNat hSd
      rw [e15] at A
      generalize hT : fhS (B2 M 3) (M 6 r) (8 - sdS (M 3) k v c s 15).toNat (sdS (cpS N 8 3 8) k v c s) = T at A efh
      have hN' : TrOff M (sr (cpS N 8 3) 8 T.2) := fun a ha => by rw [sr_ne _ _ (by omega), p7 a ha, hN a ha]
      have hrT : rg T.1 := by
        have hS' := sdS_ok ok hk hv hc hs
        have h15 : 0 ≤ sdS (M 3) k v c s 15 ∧ sdS (M 3) k v c s 15 ≤ 8 := by unfold OkS at hS'; omega
        have := fhS_v (B := B2 M 3) (row := M 6 r) (8 - sdS (M 3) k v c s 15).toNat (sdS (M 3) k v c s) hS' (by omega) okb
        rw [efh]; unfold rg; omega
      have e : f_X5_isSafe_3 n0 k v c s (r : Int) N = if T.1 = -4 then some (.inl ((r : Int) + 1, sr (cpS N 8 3) 8 T.2)) else some (.inr (0, sr (cpS N 8 3) 8 T.2)) := by
        unfold f_X5_isSafe_3 f_X5_isSafe_80
        rw [e3, wr_id (by omega) (by omega), wr_id (by omega) (by omega), if_neg (by omega), ecb, Option.bind_some, wr_F (cbS_F _ _), if_neg hcb, copy_c (by decide), Option.bind_some, appoint_c, Option.bind_some, Option.bind_some, Option.bind_some, sd_sr, A, Option.bind_some]
        dsimp only
        rw [wr_rg hrT]
      rw [← efh]
      by_cases hz : T.1 = -4
      · rw [if_pos hz] at e
        obtain ⟨N', b1, b2⟩ := ih m (r + 1) _ (by omega) (by omega) hN'
        refine ⟨N', ?_, b2⟩
        rw [lp_succ (f := fun s' => f_X5_isSafe_3 n0 k v c s s'.1 s'.2) (s := ((r : Int), N)) e]
        simp only [hz, decide_true, Bool.or_true, Bool.true_and]
        exact b1
      · rw [if_neg hz] at e
        refine ⟨sr (cpS N 8 3) 8 T.2, ?_, hN'⟩
        rw [lp_end (f := fun s' => f_X5_isSafe_3 n0 k v c s s'.1 s'.2) (s := ((r : Int), N)) e]
        simp [hcb, hz]
theorem safe_c {n : Nat} {M N : Mem} (hn : 1000 ≤ n) (h : Rel M) {k v c s : Int} (hk : 0 ≤ k ∧ k ≤ 4) (hv : 0 ≤ v ∧ v ≤ 9) (hc : 0 ≤ c ∧ c ≤ 40) (hs : 0 ≤ s ∧ s ≤ 40) (hN : TrOff M N) : ∃ N', f_X5_isSafe n k v c s N = some (if allB (okf (fun i => cbS (M 3) (M 6 i)) (B2 M 3) (M 6) (sdS (M 3) k v c s)) 0 (M 3 5).toNat then 1 else 0, N') ∧ TrOff M N' := by
  have c2 := (Rel_c h).2.1
  exact safe_lp (n0 := n) hn h hk hv hc hs (M 3 5).toNat n 0 N (by omega) (by omega) hN
/-- the page 75 of a row is the court S, whose lands bear B -/
def PgA (r : Nat → Int) (L : Nat) (S : Nat → Int) (B : Int → Int) : Prop := Rw (vw r 75) S ∧ RB (Bp r L 75) B
theorem PgA_100 {r : Nat → Int} {L : Nat} {S : Nat → Int} {B : Int → Int} (hL : L ≤ 4) (h : PgA r L S B) : PgR (cr r 75 100 25) L S B :=
  ⟨Rw.trans (vw_cr _ 75 100) h.1, fun f hf => (Bp_cr hL f hf).trans (h.2 f hf)⟩
theorem PgA_k {r r' : Nat → Int} {L : Nat} {S : Nat → Int} {B : Int → Int} (hL : L ≤ 4) (e : ∀ k, k < 100 → r' k = r k) (h : PgA r L S B) : PgA r' L S B :=
  ⟨Rw.trans (vw_off (fun k h1 h2 => e k (by omega))) h.1, fun f hf => (Bp_cong hL (fun k h1 h2 => e k (by omega)) f hf).trans (h.2 f hf)⟩
theorem safer_lp {n0 : Nat} {M : Mem} {B : Int → Int} {S : Nat → Int} {r0 : Nat → Int} (hn0 : 1000 ≤ n0) (hL : 0 ≤ M 46 1 ∧ M 46 1 ≤ 4) (hR : 0 ≤ M 46 3 ∧ M 46 3 ≤ 4) (hB : OkB B) (hS : OkS S) (hA : PgA r0 (M 46 1).toNat S B) : ∀ (t n i : Nat) (b : Bool) (r : Nat → Int), t < n → i + t = (M 46 3).toNat → (∀ k, k < 100 → r k = r0 k) → ∃ r', lp (fun s' => f_X6_isSafe_4 n0 s'.1 s'.2.1 s'.2.2) n ((if b then 1 else 0 : Int), (i : Int), sr M 47 r) = some (if b && allB (okf (fun i => cbS (vw r0 0) (M 48 i)) B (M 48) S) i t then 1 else 0, sr M 47 r') ∧ ∀ k, k < 100 → r' k = r0 k := by
  intro t
  induction t with
  | zero =>
    intro n i b r hn hi hr
    obtain ⟨m, rfl⟩ : ∃ m, n = m + 1 := ⟨n - 1, by omega⟩
    refine ⟨r, lp_end (s := ((if b then 1 else 0 : Int), (i : Int), sr M 47 r)) ?_, hr⟩
    show f_X6_isSafe_4 n0 (if b then 1 else 0) (i : Int) (sr M 47 r) = _
    unfold f_X6_isSafe_4
    rw [sr_ne _ _ (show (46 : Nat) ≠ 47 by decide), wr_id (by omega) (by omega), wr_id (by omega) (by omega), if_pos (by omega), bz_bi, Option.bind_some]
    cases b <;> rfl
  | succ t ih =>
    intro n i b r hn hi hr
    obtain ⟨m, rfl⟩ : ∃ m, n = m + 1 := ⟨n - 1, by omega⟩
    have ecb : f_X6_canBe (i : Int) (sr M 47 r) = some (cbS (vw r0 0) (M 48 i)) := by
      rw [canBe_r (by omega) (by omega), sr_same, sr_ne _ _ (show (48 : Nat) ≠ 47 by decide), Int.toNat_natCast]
      unfold cbS
      have e := vw_off (r := r0) (r' := r) (p := 0) (fun k h1 h2 => hr k (by omega))
      rw [e 15 (by decide) (by decide), e 16 (by decide) (by decide)]
    have hif : (if wr (M 46 3) ≤ wr (i : Int) then (1 : Nat) else 0) = 0 := by
      rw [wr_id (by omega) (by omega), wr_id (by omega) (by omega), if_neg (by omega)]
    rw [allB]
    unfold okf
    by_cases hcb : cbS (vw r0 0) (M 48 i) = 0
    · have e : f_X6_isSafe_4 n0 (if b then 1 else 0) (i : Int) (sr M 47 r) = some (.inl ((if b then 1 else 0 : Int), (i : Int) + 1, sr M 47 r)) := by
        unfold f_X6_isSafe_4 f_X6_isSafe_48
        rw [sr_ne _ _ (show (46 : Nat) ≠ 47 by decide), wr_id (by omega) (by omega), wr_id (by omega) (by omega), if_neg (by omega), ecb, Option.bind_some, wr_F (cbS_F _ _), if_pos hcb]
      obtain ⟨r', b1, b2⟩ := ih m (i + 1) b r (by omega) (by omega) hr
      refine ⟨r', ?_, b2⟩
      rw [lp_succ (f := fun s' => f_X6_isSafe_4 n0 s'.1 s'.2.1 s'.2.2) (s := ((if b then 1 else 0 : Int), (i : Int), sr M 47 r)) e]
      simp only [hcb, decide_true, Bool.true_or, Bool.true_and]
      exact b1
    · have hcp : f_X6_copies n0 75 100 (sr M 47 r) = some (sr M 47 (cr r 75 100 25)) := by
        have := copies_r (n := n0) (a := 75) (b := 100) (M := sr M 47 r) (by omega) (by decide) (by decide) (by decide)
        rw [sr_same, sr_sr] at this; exact this
      have hL4 : (M 46 1).toNat ≤ 4 := by omega
      cases b with
      | false =>
        have e : f_X6_isSafe_4 n0 (if false then 1 else 0) (i : Int) (sr M 47 r) = some (.inl ((if false then 1 else 0 : Int), (i : Int) + 1, sr M 47 (cr r 75 100 25))) := by
          unfold f_X6_isSafe_4 f_X6_isSafe_46 f_X6_isSafe_47 f_X6_isSafe_48
          rw [sr_ne _ _ (show (46 : Nat) ≠ 47 by decide), wr_id (by omega) (by omega), wr_id (by omega) (by omega), if_neg (by omega), ecb, Option.bind_some, wr_F (cbS_F _ _), if_neg hcb, hcp, Option.bind_some]
          simp [wr_0]
        obtain ⟨r', b1, b2⟩ := ih m (i + 1) false (cr r 75 100 25) (by omega) (by omega) (fun k hk => by rw [cr_o (by omega), hr k hk])
        refine ⟨r', ?_, b2⟩
        rw [lp_succ (f := fun s' => f_X6_isSafe_4 n0 s'.1 s'.2.1 s'.2.2) (s := ((if false then 1 else 0 : Int), (i : Int), sr M 47 r)) e]
        exact b1
      | true =>
        obtain ⟨r1, a1, a2⟩ := starves_r (n := n0) (M := M) (B := B) (rr := (i : Int)) (by omega) hL hB (by omega) (by omega) (PgA_100 hL4 (PgA_k hL4 hr hA)) hS
        rw [Int.toNat_natCast] at a1
        have h15 : 0 ≤ S 15 ∧ S 15 ≤ 8 := by unfold OkS at hS; omega
        have hrT : rg (fhS B (M 48 i) (8 - S 15).toNat S).1 := by
          have := fhS_v (B := B) (row := M 48 i) (8 - S 15).toNat S hS (by omega) hB
          unfold rg; omega
        have hr1 : ∀ k, k < 100 → r1 k = r0 k := fun k hk => by rw [a2 k hk, cr_o (by omega), hr k hk]
        have e : f_X6_isSafe_4 n0 (if true then 1 else 0) (i : Int) (sr M 47 r) = some (.inl ((if decide ((fhS B (M 48 i) (8 - S 15).toNat S).1 = -4) then 1 else 0 : Int), (i : Int) + 1, sr M 47 r1)) := by
          unfold f_X6_isSafe_4 f_X6_isSafe_46 f_X6_isSafe_47 f_X6_isSafe_48
          rw [sr_ne _ _ (show (46 : Nat) ≠ 47 by decide), wr_id (by omega) (by omega), wr_id (by omega) (by omega), if_neg (by omega), ecb, Option.bind_some, wr_F (cbS_F _ _), if_neg hcb, hcp, Option.bind_some, if_pos rfl, if_neg w1n0, a1, Option.bind_some]
          dsimp only
          rw [wr_rg hrT]
          by_cases hz : (fhS B (M 48 i) (8 - S 15).toNat S).1 = -4
          · simp [hz]
          · simp [hz]
        obtain ⟨r', b1, b2⟩ := ih m (i + 1) (decide ((fhS B (M 48 i) (8 - S 15).toNat S).1 = -4)) r1 (by omega) (by omega) hr1
        refine ⟨r', ?_, b2⟩
        rw [lp_succ (f := fun s' => f_X6_isSafe_4 n0 s'.1 s'.2.1 s'.2.2) (s := ((if true then 1 else 0 : Int), (i : Int), sr M 47 r)) e]
        simp only [hcb, decide_false, Bool.false_or, Bool.true_and]
        exact b1
theorem safe_r {n : Nat} {M : Mem} {B : Int → Int} {S : Nat → Int} {r : Nat → Int} (hn : 1000 ≤ n) (hL : 0 ≤ M 46 1 ∧ M 46 1 ≤ 4) (hR : 0 ≤ M 46 3 ∧ M 46 3 ≤ 4) (hB : OkB B) (hS : OkS S) (hA : PgA r (M 46 1).toNat S B) : ∃ r', f_X6_isSafe n (sr M 47 r) = some (if allB (okf (fun i => cbS (vw r 0) (M 48 i)) B (M 48) S) 0 (M 46 3).toNat then 1 else 0, sr M 47 r') ∧ ∀ k, k < 100 → r' k = r k := by
  obtain ⟨r', b1, b2⟩ := safer_lp (n0 := n) hn hL hR hB hS hA (M 46 3).toNat n 0 true r (by omega) (by omega) (fun _ _ => rfl)
  exact ⟨r', b1, b2⟩
