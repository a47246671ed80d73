/-! the reference's worths -/
def RefS (X : Mem) (S : Nat → Int) (B : Int → Int) (O R : Nat → Int) (m : Nat) : Prop := (0 ≤ X 46 1 ∧ X 46 1 ≤ 4) ∧ X 46 3 = (m : Int) ∧ m ≤ 4 ∧ Rw (vw (X 47) 0) S ∧ RB (Bp (X 47) (X 46 1).toNat 0) B ∧ (∀ i, i < m → X 47 (8 + i) = O i) ∧ (∀ i, i < m → X 48 i = R i)
theorem RefS_54 {X : Mem} {S : Nat → Int} {B : Int → Int} {O R : Nat → Int} {m : Nat} (h : RefS X S B O R m) (T : Nat → Int) : RefS (sr X 54 T) S B O R m := by
  unfold RefS at h ⊢
  rw [sr_ne _ _ (show (46 : Nat) ≠ 54 by decide), sr_ne _ _ (show (47 : Nat) ≠ 54 by decide), sr_ne _ _ (show (48 : Nat) ≠ 54 by decide)]
  exact h
/-- the numbers a reckoning needs -/
def OkV (S : Nat → Int) (B : Int → Int) (O : Nat → Int) (m : Nat) : Prop := OkS S ∧ OkB B ∧ m ≤ 4 ∧ ∀ i, i < m → 1 ≤ O i ∧ O i ≤ 9
theorem tlS_nat {R : Nat → Int} {A y f : Int} : ∀ m, m ≤ 4 → ∃ p : Nat, p < 2 ^ m ∧ tlS R A y f m = (p : Int) := by
  intro m
  induction m with
  | zero => intro _; exact ⟨0, by decide, rfl⟩
  | succ m ih =>
    intro hm
    obtain ⟨p, hp, e⟩ := ih (by omega)
    have h16 : (2 : Nat) ^ m ≤ 8 := by
      have : m = 0 ∨ m = 1 ∨ m = 2 ∨ m = 3 := by omega
      rcases this with rfl | rfl | rfl | rfl <;> decide
    rw [tlS]
    split
    · have a := b15_all ⟨p, by omega⟩ ⟨m, by omega⟩
      rw [e]
      refine ⟨(bOr (p : Int) (bShl 1 (m : Int))).toNat, ?_, ?_⟩
      · have := a.2.2 hp; dsimp only at this; omega
      · have := a.1; dsimp only at this; omega
    · exact ⟨p, by rw [Nat.pow_succ]; omega, e⟩
theorem p2_16 {m : Nat} (h : m ≤ 4) : 1 ≤ 2 ^ m ∧ 2 ^ m ≤ 16 := by
  have : m = 0 ∨ m = 1 ∨ m = 2 ∨ m = 3 ∨ m = 4 := by omega
  rcases this with rfl | rfl | rfl | rfl | rfl <;> decide
/-- the table's row of k years holds v -/
def TbR (T : Nat → Int) (m k : Nat) (v : Int → Int → Int) : Prop := ∀ a t : Nat, a < 2 ^ m → t ≤ 40 → T (656 * k + 41 * a + t) = v (a : Int) (t : Int)
theorem byKept_r {n : Nat} {X : Mem} {S : Nat → Int} {B : Int → Int} {O R : Nat → Int} {m k a : Nat} {v : Int → Int → Int} {y s f : Int} {kept : Nat} (hn : 1000 ≤ n) (h : RefS X S B O R m) (H : OkV S B O m) (hk : k < 5) (ha : a < 2 ^ m) (hT : TbR (X 54) m k v) (hs : 0 ≤ s ∧ s ≤ 40) (hf : isF f) (hkp : kept ≤ 40) : f_X6_byKept n y ((k + 1 : Nat) : Int) (a : Int) s f (kept : Int) X = some (bkS S B O m v (a : Int) s f kept) := by
  obtain ⟨r1, r2, r3, r4, r5, r6, r7⟩ := h
  obtain ⟨ok, hB, -, hO⟩ := H
  have hb := hB f hf
  have h16 := p2_16 r3
  have h6 : 0 ≤ S 6 ∧ S 6 ≤ 40 := by unfold OkS at ok; omega
  have h7 : 0 ≤ S 7 ∧ S 7 ≤ 20 := by unfold OkS at ok; omega
  have h9 : 0 ≤ S 9 ∧ S 9 ≤ 9 := by unfold OkS at ok; omega
  have e12 : X 47 12 = S 6 := by rw [← r4 6 (by decide) (by decide), vw_6]
  have e13 : X 47 13 = S 7 := by rw [← r4 7 (by decide) (by decide), vw_7]
  have e15 : X 47 15 = S 9 := by rw [← r4 9 (by decide) (by decide), vw_9]
  have hp : 0 ≤ prS S f ∧ prS S f ≤ 9 := by unfold OkS at ok; unfold prS; split <;> omega
  have hr := rtX ok (k := (kept : Int)) (by omega) (by omega)
  have hl : 0 ≤ lfX S B s f ∧ lfX S B s f ≤ 76 := by unfold lfX; omega
  have hh : 0 ≤ hgX S B s f ∧ hgX S B s f ≤ 40 := by unfold hgX; omega
  have a1 : -(76 * 9) ≤ (lfX S B s f - kept) * prS S f ∧ (lfX S B s f - kept) * prS S f ≤ 76 * 9 := by
    have := mul_rng (a := prS S f) (x := lfX S B s f - kept) (p := 9) (q := 76) (by omega) (by omega) (by omega) (by omega) (by decide)
    rw [Int.mul_comm (lfX S B s f - kept) (prS S f)]; omega
  have a2 := mul_rng (a := hgX S B s f) (x := S 7) (p := 40) (q := 20) (by omega) (by omega) (by omega) (by omega) (by decide)
  have ebear := bearsOn_r (n := n) (p := 0) (M := X) (f := f) (by omega) r1 (by decide) hf
  rw [r5 f hf] at ebear
  have key : ∀ s0 x9 : Int, s0 = lfX S B s f → x9 = hgX S B s f → f_X6_byKept_55 n ((k + 1 : Nat) : Int) (a : Int) f (kept : Int) x9 s0 X = some (bkS S B O m v (a : Int) s f kept) := by
    intro s0 x9 hs0 hx9
    obtain ⟨q, hq, rfl⟩ := Fnat hf
    have epr : X 47 (17 + q) + 1 = prS S (q : Int) := by
      unfold prS
      rcases hq with rfl | rfl
      · rw [if_neg (by decide), ← r4 12 (by decide) (by decide), vw_12]
      · rw [if_pos (by decide), ← r4 11 (by decide) (by decide), vw_11]
    unfold f_X6_byKept_55 bkS f_X6_at
    rw [rdp (p := 17) (k := q) (by omega) (by omega), Option.bind_some, epr, e13, hs0, hx9, wr_id (by omega) (by omega), Option.bind_some, oddsOf_r (by omega) (by rw [r2]; omega) (fun i hi => by rw [r2, Int.toNat_natCast] at hi; rw [r6 i hi]; have := hO i hi; unfold rg; omega), Option.bind_some, rotted_r (S := S) e15 h9 (by omega) (by omega), Option.bind_some, Option.bind_some, rd_id (by omega) (by omega) (by omega), Option.bind_some, r2, Int.toNat_natCast, odS_cong r6]
    rw [show (656 * (((k + 1 : Nat) : Int) - 1) + 41 * (a : Int) + rtS S kept).toNat = 656 * k + 41 * a + (rtS S kept).toNat by omega, hT a (rtS S kept).toNat ha (by omega), Int.toNat_of_nonneg hr.1]
  unfold f_X6_byKept
  rw [show (0 : Int) = ((0 : Nat) : Int) from rfl, ebear, Option.bind_some, e12, wr_id (x := S 6) (by omega) (by omega), wr_id (x := s + B f) (by omega) (by omega)]
  have kl : ∀ x9 : Int, x9 = hgX S B s f → f_X6_byKept_37 n ((k + 1 : Nat) : Int) (a : Int) f (kept : Int) (s + B f) (S 6) x9 X = some (bkS S B O m v (a : Int) s f kept) := by
    intro x9 hx9
    unfold f_X6_byKept_37
    rw [wr_id (x := S 6) (by omega) (by omega), wr_id (x := s + B f) (by omega) (by omega)]
    split
    · exact key _ _ (by unfold lfX; omega) hx9
    · exact key _ _ (by unfold lfX; omega) hx9
  split
  · exact kl _ (by unfold hgX; omega)
  · exact kl _ (by unfold hgX; omega)
theorem mostKept_r {n : Nat} {X : Mem} {S : Nat → Int} {B : Int → Int} {O R : Nat → Int} {m : Nat} {s f : Int} (hn : 1000 ≤ n) (h : RefS X S B O R m) (H : OkV S B O m) (hs : 0 ≤ s ∧ s ≤ 40) (hf : isF f) : f_X6_mostKept n s f X = some (min (S 8) (lfX S B s f)) := by
  obtain ⟨r1, r2, r3, r4, r5, r6, r7⟩ := h
  obtain ⟨ok, hB, -, hO⟩ := H
  have hb := hB f hf
  have h6 : 0 ≤ S 6 ∧ S 6 ≤ 40 := by unfold OkS at ok; omega
  have h8 : 0 ≤ S 8 ∧ S 8 ≤ 40 := by unfold OkS at ok; omega
  have e12 : X 47 12 = S 6 := by rw [← r4 6 (by decide) (by decide), vw_6]
  have ebear := bearsOn_r (n := n) (p := 0) (M := X) (f := f) (by omega) r1 (by decide) hf
  rw [r5 f hf] at ebear
  have cap0 : f_X6_capOn 0 X = some (S 8) := by
    have := capOn_r (p := 0) (M := X) (by decide)
    rw [r4 8 (by decide) (by decide)] at this; exact this
  have key : ∀ s0 : Int, s0 = lfX S B s f → f_X6_mostKept_33 n s0 X = some (min (S 8) (lfX S B s f)) := by
    intro s0 hs0
    have hl : 0 ≤ lfX S B s f ∧ lfX S B s f ≤ 76 := by unfold lfX; omega
    unfold f_X6_mostKept_33
    rw [cap0, Option.bind_some, Option.bind_some, hs0, wr_id (x := S 8) (by omega) (by omega), wr_id (x := lfX S B s f) (by omega) (by omega)]
    split
    · congr 1; omega
    · congr 1; omega
  unfold f_X6_mostKept
  have eb : f_X6_bearsOn n 0 f X = some (B f) := ebear
  rw [eb, Option.bind_some, e12, wr_id (x := S 6) (by omega) (by omega), wr_id (x := s + B f) (by omega) (by omega)]
  split
  · exact key _ (by unfold lfX; omega)
  · exact key _ (by unfold lfX; omega)
theorem bestSo_r {n : Nat} {X : Mem} {S : Nat → Int} {B : Int → Int} {O R : Nat → Int} {m k : Nat} {v : Int → Int → Int} {W y A s f : Int} (hn : 1000 ≤ n) (h : RefS X S B O R m) (H : OkV S B O m) (hk : k < 5) (hT : TbR (X 54) m k v) (hs : 0 ≤ s ∧ s ≤ 40) (hf : isF f) (hW : 0 ≤ W ∧ W ≤ 4000000) (hv : ∀ a s, 0 ≤ s → s ≤ 40 → -W ≤ v a s ∧ v a s ≤ W) : f_X6_bestSo n y ((k + 1 : Nat) : Int) A s f X = some (vbS S B O R m v y A s f) := by
  have h' := h
  obtain ⟨r1, r2, r3, r4, r5, r6, r7⟩ := h'
  have H' := H
  obtain ⟨ok, hB, hm, hO⟩ := H'
  have h8 : 0 ≤ S 8 ∧ S 8 ≤ 40 := by unfold OkS at ok; omega
  have hl : 0 ≤ lfX S B s f := by unfold lfX; omega
  have eA := areSo_r (n := n) (M := X) (A := A) (y := y) (by omega) (by rw [r2]; omega) hf
  rw [r2, Int.toNat_natCast, tlS_cong r7] at eA
  obtain ⟨a, ha, ea⟩ := tlS_nat (R := R) (A := A) (y := y) (f := f) m r3
  unfold f_X6_bestSo vbS
  rw [eA, Option.bind_some, tlS_wr, ea]
  by_cases z : (a : Int) = 0
  · rw [if_pos z, if_pos z]
  · rw [if_neg z, if_neg z]
    have bk : ∀ i : Nat, i ≤ 40 → f_X6_byKept n y ((k + 1 : Nat) : Int) (a : Int) s f (i : Int) X = some (bkS S B O m v (a : Int) s f i) := fun i hi => byKept_r hn h H hk ha hT hs hf hi
    have bk0 : f_X6_byKept n y ((k + 1 : Nat) : Int) (a : Int) s f 0 X = some (bkS S B O m v (a : Int) s f 0) := bk 0 (by decide)
    have mk := mostKept_r (n := n) (s := s) (f := f) hn h H hs hf
    obtain ⟨t, ht⟩ : ∃ t : Nat, min (S 8) (lfX S B s f) = (t : Int) := ⟨(min (S 8) (lfX S B s f)).toNat, by omega⟩
    have br : ∀ i : Nat, i ≤ t → -(60000 + W) ≤ bkS S B O m v (a : Int) s f i ∧ bkS S B O m v (a : Int) s f i ≤ 60000 + W := fun i hi => bk_rng ok hB hm hO hf hs hv (by omega)
    rw [bk0, Option.bind_some, ht, Int.toNat_natCast]
    refine lp_run0 (f := fun q => f_X6_bestSo_35 n y ((k + 1 : Nat) : Int) s f (a : Int) q.1 q.2 X) (fun i => (mxB (bkS S B O m v (a : Int) s f) i, ((i + 1 : Nat) : Int))) t (by omega) (fun i hi => ?_) ?_
    · show f_X6_bestSo_35 n y ((k + 1 : Nat) : Int) s f (a : Int) (mxB (bkS S B O m v (a : Int) s f) i) ((i + 1 : Nat) : Int) X = some (Sum.inl (mxB (bkS S B O m v (a : Int) s f) (i + 1), ((i + 1 + 1 : Nat) : Int)))
      have m1 := mxB_rng (g := bkS S B O m v (a : Int) s f) (t := i) (fun j hj => br j (by omega))
      have m2 := br (i + 1) (by omega)
      unfold f_X6_bestSo_35 f_X6_bestSo_79
      rw [mk, Option.bind_some, ht, wr_id (x := (t : Int)) (by omega) (by omega), wr_id (x := ((i + 1 : Nat) : Int)) (by omega) (by omega), if_neg (by omega), bk (i + 1) (by omega), Option.bind_some, wl_id (by omega) (by omega), wl_id (by omega) (by omega), mxB]
      split
      · congr 3; omega
      · congr 3; omega
    · show f_X6_bestSo_35 n y ((k + 1 : Nat) : Int) s f (a : Int) (mxB (bkS S B O m v (a : Int) s f) t) ((t + 1 : Nat) : Int) X = _
      unfold f_X6_bestSo_35
      rw [mk, Option.bind_some, ht, wr_id (x := (t : Int)) (by omega) (by omega), wr_id (x := ((t + 1 : Nat) : Int)) (by omega) (by omega), if_pos (by omega)]
