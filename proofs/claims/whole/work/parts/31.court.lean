/-! a court's year: numbers by slots 4 .. 18 (lands, readings, need, hunger, cap, rot, store, fat price, lean price, kind, v, year, past, money, starved) -/
def lfS (S : Nat → Int) (B : Int → Int) (f : Int) : Int := max 0 (S 10 + B f - S 6)
def hgS (S : Nat → Int) (B : Int → Int) (f : Int) : Int := max 0 (S 6 - (S 10 + B f))
def wnS (S : Nat → Int) (l : Int) : Int := if S 13 = 1 then l / (S 14 + 1) else if S 13 = 2 then 4 * S 14 else if S 13 = 3 then 0 else if S 13 = 4 then S 6 * S 14 else l
def kpS (S : Nat → Int) (l : Int) : Int := min (S 8) (min l (wnS S l))
def rtS (S : Nat → Int) (k : Int) : Int := if S 9 = 0 then k else k - k / S 9
def prS (S : Nat → Int) (f : Int) : Int := if f = 1 then S 11 else S 12
def psS (S : Nat → Int) (B : Int → Int) (f k : Int) : Nat → Int := fun i => if i = 10 then rtS S k else if i = 15 then S 15 + 1 else if i = 16 then bOr (S 16) (bShl f (S 15)) else if i = 17 then S 17 + prS S f * (lfS S B f - k) else if i = 18 then S 18 + hgS S B f else S i
def OkS (S : Nat → Int) : Prop := (0 ≤ S 6 ∧ S 6 ≤ 40) ∧ (0 ≤ S 7 ∧ S 7 ≤ 20) ∧ (0 ≤ S 8 ∧ S 8 ≤ 40) ∧ (0 ≤ S 9 ∧ S 9 ≤ 9) ∧ (0 ≤ S 10 ∧ S 10 ≤ 40) ∧ (0 ≤ S 11 ∧ S 11 ≤ 9) ∧ (0 ≤ S 12 ∧ S 12 ≤ 9) ∧ (0 ≤ S 13 ∧ S 13 ≤ 4) ∧ (0 ≤ S 14 ∧ S 14 ≤ 9) ∧ (0 ≤ S 15 ∧ S 15 ≤ 8)
def OkB (B : Int → Int) : Prop := ∀ f, f = 0 ∨ f = 1 → 0 ≤ B f ∧ B f ≤ 36
def isF (f : Int) : Prop := f = 0 ∨ f = 1
theorem wnS_rng {S : Nat → Int} (h : OkS S) {l : Int} (h0 : 0 ≤ l) (h1 : l ≤ 100) : 0 ≤ wnS S l ∧ wnS S l ≤ 400 := by
  obtain ⟨h6, h7, h8, h9, h10, h11, h12, h13, h14, h15⟩ := h
  unfold wnS
  split
  · have a := Int.ediv_nonneg h0 (show 0 ≤ S 14 + 1 by omega)
    have b := Int.ediv_le_self (S 14 + 1) h0
    omega
  · split
    · omega
    · split
      · omega
      · split
        · have a := Int.mul_nonneg h6.1 h14.1
          have b : S 6 * S 14 ≤ 40 * 9 := Int.mul_le_mul h6.2 h14.2 h14.1 (by omega)
          omega
        · omega
theorem kpS_rng {S : Nat → Int} (h : OkS S) {l : Int} (h0 : 0 ≤ l) (h1 : l ≤ 100) : 0 ≤ kpS S l ∧ kpS S l ≤ 40 ∧ kpS S l ≤ S 8 ∧ kpS S l ≤ l := by
  have a := wnS_rng h h0 h1
  obtain ⟨h6, h7, h8, h9, h10, h11, h12, h13, h14, h15⟩ := h
  unfold kpS
  omega
theorem rtS_rng {S : Nat → Int} (h : OkS S) {k : Int} (h0 : 0 ≤ k) (h1 : k ≤ 40) : 0 ≤ rtS S k ∧ rtS S k ≤ 40 ∧ rtS S k ≤ k := by
  obtain ⟨h6, h7, h8, h9, h10, h11, h12, h13, h14, h15⟩ := h
  unfold rtS
  split
  · omega
  · have a := Int.ediv_nonneg h0 h9.1
    have b := Int.ediv_le_self (S 9) h0
    omega
theorem lfS_rng {S : Nat → Int} {B : Int → Int} (h : OkS S) (hB : OkB B) {f : Int} (hf : isF f) : 0 ≤ lfS S B f ∧ lfS S B f ≤ 76 := by
  obtain ⟨h6, h7, h8, h9, h10, h11, h12, h13, h14, h15⟩ := h
  have := hB f hf
  unfold lfS; omega
theorem hgS_rng {S : Nat → Int} {B : Int → Int} (h : OkS S) (hB : OkB B) {f : Int} (hf : isF f) : 0 ≤ hgS S B f ∧ hgS S B f ≤ 40 := by
  obtain ⟨h6, h7, h8, h9, h10, h11, h12, h13, h14, h15⟩ := h
  have := hB f hf
  unfold hgS; omega
/-- what the lands of the court at j bear -/
def B2 (M : Mem) (j : Nat) (f : Int) : Int := if f = 1 then hv (M (j + 1)) (M j 4).toNat else hv (M (j + 2)) (M j 4).toNat
theorem harvest_lp {n j q : Nat} {M : Mem} (hn : 5 ≤ n) (h1 : 0 ≤ M j 4) (h2 : M j 4 ≤ 4) : lp (fun s => f_X2_harvest_22 n j q s.1 s.2 M) n (0, 0) = some (hv (M q) (M j 4).toNat) := by
  refine lp_run0 (fun i => (hv (M q) i, (i : Int))) (M j 4).toNat (by omega) (fun i hi => ?_) ?_
  · show f_X2_harvest_22 n j q (hv (M q) i) (i : Int) M = _
    unfold f_X2_harvest_22
    rw [wr_id (by omega) (by omega), wr_id (by omega) (by omega), if_neg (by omega), rd_id (by omega) (by omega) (by omega), Option.bind_some, Int.toNat_natCast]
    rfl
  · show f_X2_harvest_22 n j q (hv (M q) _) ((M j 4).toNat : Int) M = _
    unfold f_X2_harvest_22
    rw [wr_id (by omega) (by omega), wr_id (by omega) (by omega), if_pos (by omega)]
theorem harvest_c {n j : Nat} {M : Mem} {f : Int} (hn : 5 ≤ n) (h1 : 0 ≤ M j 4) (h2 : M j 4 ≤ 4) (hf : isF f) : f_X2_harvest n j f M = some (B2 M j f) := by
  unfold f_X2_harvest f_X2_harvest_16 B2
  rw [harvest_lp hn h1 h2, harvest_lp hn h1 h2, wr_id (by rcases hf with rfl | rfl <;> decide) (by rcases hf with rfl | rfl <;> decide), ite_some]
theorem foodIn_c {n j : Nat} {M : Mem} {f : Int} (hn : 5 ≤ n) (h1 : 0 ≤ M j 4) (h2 : M j 4 ≤ 4) (hf : isF f) : f_X2_foodIn n j f M = some (M j 10 + B2 M j f) := by
  unfold f_X2_foodIn
  rw [harvest_c hn h1 h2 hf, Option.bind_some]
theorem unrotten_c {j : Nat} {M : Mem} {k : Int} (h : 0 ≤ M j 9 ∧ M j 9 ≤ 9) (h0 : 0 ≤ k) (h1 : k ≤ 40) : f_X2_unrotten j k M = some (rtS (M j) k) := by
  unfold f_X2_unrotten rtS
  rw [wr_id (by omega) (by omega)]
  split
  · rfl
  · rw [ivtdiv_id h0 (by omega) (by omega) (by omega), Option.bind_some]
theorem wantedOf_c {j : Nat} {M : Mem} {l : Int} (h : OkS (M j)) (h0 : 0 ≤ l) (h1 : l ≤ 100) : f_X2_wantedOf j l M = some (wnS (M j) l) := by
  obtain ⟨h6, h7, h8, h9, h10, h11, h12, h13, h14, h15⟩ := h
  unfold f_X2_wantedOf wnS
  rw [wr_id (x := M j 13) (by omega) (by omega), wr_id (x := M j 14) (by omega) (by omega)]
  split
  · split
    · rw [ivtdiv_id h0 (by omega) (by omega) (by omega), Option.bind_some]
    · have e : M j 14 = 0 := by omega
      rw [e]; simp
  · split
    · rfl
    · split
      · rfl
      · split <;> rfl
theorem keptOf_c {j : Nat} {M : Mem} {l : Int} (h : OkS (M j)) (h0 : 0 ≤ l) (h1 : l ≤ 100) : f_X2_keptOf j l M = some (kpS (M j) l) := by
  unfold f_X2_keptOf
  have a := wnS_rng h h0 h1
  rw [wantedOf_c h h0 h1, Option.bind_some]
  obtain ⟨h6, h7, h8, h9, h10, h11, h12, h13, h14, h15⟩ := h
  unfold kpS
  rw [mnn_id (x := l) (by omega) (by omega) (by omega) (by omega), mnn_id (by omega) (by omega) (by omega) (by omega)]
theorem leftOf_c {j : Nat} {M : Mem} {x : Int} (h : 0 ≤ M j 6 ∧ M j 6 ≤ 40) (h0 : 0 ≤ x) (h1 : x ≤ 100) : f_X2_leftOf j x M = some (max 0 (x - M j 6)) := by
  unfold f_X2_leftOf
  rw [mxx_id (by omega) (by omega) (by omega) (by omega)]
theorem hungryOf_c {j : Nat} {M : Mem} {x : Int} (h : 0 ≤ M j 6 ∧ M j 6 ≤ 40) (h0 : 0 ≤ x) (h1 : x ≤ 100) : f_X2_hungryOf j x M = some (max 0 (M j 6 - x)) := by
  unfold f_X2_hungryOf
  rw [mxx_id (by omega) (by omega) (by omega) (by omega)]
theorem priceIn_c {j : Nat} {M : Mem} {f : Int} (hf : isF f) : f_X2_priceIn j f M = some (prS (M j) f) := by
  unfold f_X2_priceIn prS
  rw [wr_id (by rcases hf with rfl | rfl <;> decide) (by rcases hf with rfl | rfl <;> decide), ite_some]
theorem pass_c {n j : Nat} {M : Mem} {f k : Int} (hn : 5 ≤ n) (hL : 0 ≤ M j 4 ∧ M j 4 ≤ 4) (h : OkS (M j)) (hB : OkB (B2 M j)) (hf : isF f) (h0 : 0 ≤ k) (h1 : k ≤ 40) : f_X2_pass n j f k M = some (hgS (M j) (B2 M j) f, sr M j (psS (M j) (B2 M j) f k)) := by
  have hb := hB f hf
  have h' := h
  obtain ⟨h6, h7, h8, h9, h10, h11, h12, h13, h14, h15⟩ := h'
  unfold f_X2_pass
  rw [foodIn_c hn hL.1 hL.2 hf, Option.bind_some, hungryOf_c h6 (by omega) (by omega), Option.bind_some, priceIn_c hf, Option.bind_some, leftOf_c h6 (by omega) (by omega), Option.bind_some, Option.bind_some, Option.bind_some]
  generalize hX : st (st M j 17 _) j 18 _ = X
  have e9 : X j 9 = M j 9 := by rw [← hX]; simp [st_at]
  have er : rtS (X j) k = rtS (M j) k := by unfold rtS; rw [e9]
  rw [unrotten_c (by rw [e9]; exact h9) h0 h1, Option.bind_some, Option.bind_some, Option.bind_some, Option.bind_some, er]
  congr 2
  rw [← hX]
  funext a
  by_cases ha : a = j
  · subst ha
    rw [sr_same]
    funext i
    unfold psS lfS hgS
    simp only [st_at, true_and]
    by_cases i10 : i = 10
    · simp [i10]
    · by_cases i15 : i = 15
      · simp [i15]
      · by_cases i16 : i = 16
        · simp [i16]
        · by_cases i17 : i = 17
          · simp [i17]
          · by_cases i18 : i = 18
            · simp [i18]
            · simp [i10, i15, i16, i17, i18]
  · rw [sr_ne _ _ ha]
    funext i
    simp [st_at, ha]
/-- a year by the steward -/
def hmS (S : Nat → Int) (B : Int → Int) (f : Int) : Nat → Int := psS S B f (kpS S (lfS S B f))
theorem passByHim_c {n j : Nat} {M : Mem} {f : Int} (hn : 5 ≤ n) (hL : 0 ≤ M j 4 ∧ M j 4 ≤ 4) (h : OkS (M j)) (hB : OkB (B2 M j)) (hf : isF f) : f_X2_passByHim n j f M = some (hgS (M j) (B2 M j) f, sr M j (hmS (M j) (B2 M j) f)) := by
  have hb := hB f hf
  have h' := h
  obtain ⟨h6, h7, h8, h9, h10, h11, h12, h13, h14, h15⟩ := h'
  have hl := lfS_rng h hB hf
  have hk := kpS_rng h hl.1 (by omega)
  unfold f_X2_passByHim hmS
  rw [foodIn_c hn hL.1 hL.2 hf, Option.bind_some, leftOf_c h6 (by omega) (by omega), Option.bind_some]
  show (f_X2_keptOf j (lfS (M j) (B2 M j) f) M).bind _ = _
  rw [keptOf_c h hl.1 (by omega), Option.bind_some, pass_c hn hL h hB hf hk.1 hk.2.1]
  rfl
