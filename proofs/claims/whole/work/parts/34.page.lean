/-! the reference's pages: a court seen in the row 47 from p on -/
def vw (r : Nat → Int) (p : Nat) : Nat → Int := fun k => if k = 8 then 40 - r (p + 14) else if k = 11 then r (p + 18) + 1 else if k = 12 then r (p + 17) + 1 else r (p + k + 6)
def Bp (r : Nat → Int) (L p : Nat) (f : Int) : Int := hv (fun i => r (p + 2 * i + f.toNat)) L
theorem Fnat {f : Int} (h : isF f) : ∃ q : Nat, (q = 0 ∨ q = 1) ∧ f = (q : Int) := by
  rcases h with rfl | rfl
  · exact ⟨0, Or.inl rfl, rfl⟩
  · exact ⟨1, Or.inr rfl, rfl⟩
theorem rdp {M : Mem} {p k : Nat} {x : Int} (hx : x = ((p + k : Nat) : Int)) (h : p + k < 125) : rd M 47 125 x = some (M 47 (p + k)) := by
  rw [hx, rd_id (by omega) (by omega) (by omega), Int.toNat_natCast]
theorem wtp {M : Mem} {p k : Nat} {x v : Int} (hx : x = ((p + k : Nat) : Int)) (h : p + k < 125) : wt M 47 125 x v = some (st M 47 (p + k) v) := by
  rw [hx, wt_id (by omega) (by omega) (by omega), Int.toNat_natCast]
theorem bearsOn_r {n p : Nat} {M : Mem} {f : Int} (hn : 5 ≤ n) (h : 0 ≤ M 46 1 ∧ M 46 1 ≤ 4) (hp : p ≤ 100) (hf : isF f) : f_X6_bearsOn n p f M = some (Bp (M 47) (M 46 1).toNat p f) := by
  unfold f_X6_bearsOn Bp
  obtain ⟨q, hq, rfl⟩ := Fnat hf
  refine lp_run0 (fun i => (hv (fun i => M 47 (p + 2 * i + (q : Int).toNat)) i, (i : Int))) (M 46 1).toNat (by omega) (fun i hi => ?_) ?_
  · show f_X6_bearsOn_5 n p q (hv _ i) (i : Int) M = some (Sum.inl (hv _ (i + 1), (i : Int) + 1))
    unfold f_X6_bearsOn_5
    rw [wr_id (by omega) (by omega), wr_id (by omega) (by omega), if_neg (by omega), rdp (p := p) (k := 2 * i + q) (by omega) (by omega), Option.bind_some, hv, Int.toNat_natCast, Nat.add_assoc]
  · show f_X6_bearsOn_5 n p q (hv _ _) ((M 46 1).toNat : Int) M = _
    unfold f_X6_bearsOn_5
    rw [wr_id (by omega) (by omega), wr_id (by omega) (by omega), if_pos (by omega)]
theorem vw_8 (r : Nat → Int) (p : Nat) : vw r p 8 = 40 - r (p + 14) := by unfold vw; simp
theorem vw_11 (r : Nat → Int) (p : Nat) : vw r p 11 = r (p + 18) + 1 := by unfold vw; simp
theorem vw_12 (r : Nat → Int) (p : Nat) : vw r p 12 = r (p + 17) + 1 := by unfold vw; simp
theorem vw_i (r : Nat → Int) (p k : Nat) (h : k ≠ 8 ∧ k ≠ 11 ∧ k ≠ 12) : vw r p k = r (p + k + 6) := by unfold vw; simp [h]
theorem vw_6 (r : Nat → Int) (p : Nat) : vw r p 6 = r (p + 12) := vw_i r p 6 (by decide)
theorem vw_7 (r : Nat → Int) (p : Nat) : vw r p 7 = r (p + 13) := vw_i r p 7 (by decide)
theorem vw_9 (r : Nat → Int) (p : Nat) : vw r p 9 = r (p + 15) := vw_i r p 9 (by decide)
theorem vw_10 (r : Nat → Int) (p : Nat) : vw r p 10 = r (p + 16) := vw_i r p 10 (by decide)
theorem vw_13 (r : Nat → Int) (p : Nat) : vw r p 13 = r (p + 19) := vw_i r p 13 (by decide)
theorem vw_14 (r : Nat → Int) (p : Nat) : vw r p 14 = r (p + 20) := vw_i r p 14 (by decide)
theorem vw_15 (r : Nat → Int) (p : Nat) : vw r p 15 = r (p + 21) := vw_i r p 15 (by decide)
theorem vw_16 (r : Nat → Int) (p : Nat) : vw r p 16 = r (p + 22) := vw_i r p 16 (by decide)
theorem vw_17 (r : Nat → Int) (p : Nat) : vw r p 17 = r (p + 23) := vw_i r p 17 (by decide)
theorem vw_18 (r : Nat → Int) (p : Nat) : vw r p 18 = r (p + 24) := vw_i r p 18 (by decide)
theorem leftOn_r {n p : Nat} {M : Mem} {f : Int} (hn : 5 ≤ n) (h : 0 ≤ M 46 1 ∧ M 46 1 ≤ 4) (hp : p ≤ 100) (hf : isF f) (hS : OkS (vw (M 47) p)) (hB : OkB (Bp (M 47) (M 46 1).toNat p)) : f_X6_leftOn n p f M = some (lfS (vw (M 47) p) (Bp (M 47) (M 46 1).toNat p) f) := by
  have hb := hB f hf
  obtain ⟨h6, h7, h8, h9, h10, h11, h12, h13, h14, h15⟩ := hS
  rw [vw_6] at h6; rw [vw_10] at h10
  unfold f_X6_leftOn lfS
  rw [rdp (p := p) (k := 16) (by omega) (by omega), Option.bind_some, bearsOn_r hn h hp hf, Option.bind_some, rdp (p := p) (k := 12) (by omega) (by omega), Option.bind_some, Option.bind_some, wr_id (by omega) (by omega), wr_id (by omega) (by omega), vw_6, vw_10]
  split
  · congr 1; omega
  · congr 1; omega
theorem capOn_r {p : Nat} {M : Mem} (hp : p ≤ 100) : f_X6_capOn p M = some (vw (M 47) p 8) := by
  unfold f_X6_capOn
  rw [rdp (p := p) (k := 14) (by omega) (by omega), Option.bind_some, vw_8]
theorem keepsB_r {p : Nat} {M : Mem} {l w : Int} (hp : p ≤ 100) (h8 : 0 ≤ vw (M 47) p 8 ∧ vw (M 47) p 8 ≤ 40) (h0 : 0 ≤ l) (h1 : l ≤ 100) (hw0 : 0 ≤ w) (hw1 : w ≤ 400) : f_X6_keepsOn_92 p l w M = some (min (vw (M 47) p 8) (min l w)) := by
  unfold f_X6_keepsOn_92 f_X6_keepsOn_104
  rw [capOn_r hp, Option.bind_some, Option.bind_some, Option.bind_some, wr_id (x := l) (by omega) (by omega), wr_id (x := w) (by omega) (by omega), wr_id (x := vw (M 47) p 8) (by omega) (by omega)]
  split
  · split
    · congr 1; omega
    · congr 1; omega
  · split
    · congr 1; omega
    · congr 1; omega
theorem keepsOn_r {p : Nat} {M : Mem} {l : Int} (hp : p ≤ 100) (hS : OkS (vw (M 47) p)) (h0 : 0 ≤ l) (h1 : l ≤ 100) : f_X6_keepsOn p l M = some (kpS (vw (M 47) p) l) := by
  have hw := wnS_rng hS h0 h1
  have h8 : 0 ≤ vw (M 47) p 8 ∧ vw (M 47) p 8 ≤ 40 := hS.2.2.1
  have h' := hS
  obtain ⟨h6, h7, -, h9, h10, h11, h12, h13, h14, h15⟩ := h'
  unfold f_X6_keepsOn kpS
  rw [rdp (p := p) (k := 20) (by omega) (by omega), Option.bind_some, rdp (p := p) (k := 19) (by omega) (by omega), Option.bind_some, ← vw_13 (M 47) p, ← vw_14 (M 47) p, wr_id (x := vw (M 47) p 13) (by omega) (by omega)]
  unfold wnS at hw ⊢
  by_cases c1 : vw (M 47) p 13 = 1
  · simp only [if_pos c1] at hw ⊢
    rw [ivtdiv_id h0 (by omega) (by omega) (by omega), Option.bind_some]
    exact keepsB_r hp h8 h0 h1 hw.1 hw.2
  · simp only [if_neg c1] at hw ⊢
    by_cases c2 : vw (M 47) p 13 = 2
    · simp only [if_pos c2] at hw ⊢
      exact keepsB_r hp h8 h0 h1 hw.1 hw.2
    · simp only [if_neg c2] at hw ⊢
      by_cases c3 : vw (M 47) p 13 = 3
      · simp only [if_pos c3] at hw ⊢
        exact keepsB_r hp h8 h0 h1 hw.1 hw.2
      · simp only [if_neg c3] at hw ⊢
        by_cases c4 : vw (M 47) p 13 = 4
        · simp only [if_pos c4] at hw ⊢
          rw [rdp (p := p) (k := 12) (by omega) (by omega), Option.bind_some, ← vw_6 (M 47) p]
          exact keepsB_r hp h8 h0 h1 hw.1 hw.2
        · simp only [if_neg c4] at hw ⊢
          exact keepsB_r hp h8 h0 h1 hw.1 hw.2
theorem rotted_r {S : Nat → Int} {M : Mem} {k x : Int} (hx : x = S 9) (h9 : 0 ≤ S 9 ∧ S 9 ≤ 9) (h0 : 0 ≤ k) (h1 : k ≤ 40) : f_X6_rotted k x M = some (rtS S k) := by
  subst hx
  unfold f_X6_rotted rtS
  rw [wr_id (by omega) (by omega)]
  split
  · rfl
  · rw [ivtdiv_id h0 (by omega) (by omega) (by omega), Option.bind_some]
/-- a page's numbers that a year changes -/
def gr (r : Nat → Int) (p : Nat) (S : Nat → Int) : Nat → Int := fun k => if k = p + 16 then S 10 else if k = p + 21 then S 15 else if k = p + 22 then S 16 else if k = p + 23 then S 17 else if k = p + 24 then S 18 else r k
theorem vw_gr {r : Nat → Int} {p : Nat} {S : Nat → Int} (h : ∀ i, i ≠ 10 ∧ i ≠ 15 ∧ i ≠ 16 ∧ i ≠ 17 ∧ i ≠ 18 → S i = vw r p i) : ∀ k, 6 ≤ k → k ≤ 18 → vw (gr r p S) p k = S k := by
  intro k h1 h2
  have : k = 6 ∨ k = 7 ∨ k = 8 ∨ k = 9 ∨ k = 10 ∨ k = 11 ∨ k = 12 ∨ k = 13 ∨ k = 14 ∨ k = 15 ∨ k = 16 ∨ k = 17 ∨ k = 18 := by omega
  rcases this with rfl | rfl | rfl | rfl | rfl | rfl | rfl | rfl | rfl | rfl | rfl | rfl | rfl <;> first | (rw [h _ (by decide)]; simp [vw, gr]; done) | (simp [vw, gr]; done)
theorem gr_o {r : Nat → Int} {p k : Nat} {S : Nat → Int} (h : k < p + 16 ∨ p + 24 < k) : gr r p S k = r k := by
  unfold gr; rw [if_neg (by omega), if_neg (by omega), if_neg (by omega), if_neg (by omega), if_neg (by omega)]
theorem Bp_cong {r r' : Nat → Int} {L p : Nat} (hL : L ≤ 4) (h : ∀ k, p ≤ k → k < p + 8 → r k = r' k) : ∀ f, isF f → Bp r L p f = Bp r' L p f := by
  intro f hf
  obtain ⟨q, hq, rfl⟩ := Fnat hf
  unfold Bp
  exact hv_cong (fun i hi => h _ (by omega) (by rw [Int.toNat_natCast]; omega))
theorem goesOn_r {n p : Nat} {M : Mem} {f k : Int} (hn : 5 ≤ n) (h : 0 ≤ M 46 1 ∧ M 46 1 ≤ 4) (hp : p ≤ 100) (hf : isF f) (hS : OkS (vw (M 47) p)) (hB : OkB (Bp (M 47) (M 46 1).toNat p)) (h0 : 0 ≤ k) (h1 : k ≤ 40) : f_X6_goesOn n p f k M = some (hgS (vw (M 47) p) (Bp (M 47) (M 46 1).toNat p) f, sr M 47 (gr (M 47) p (psS (vw (M 47) p) (Bp (M 47) (M 46 1).toNat p) f k))) := by
  have hb := hB f hf
  have hS' := hS
  obtain ⟨h6, h7, h8, h9, h10, h11, h12, h13, h14, h15⟩ := hS'
  have g6 := h6; have g10 := h10
  rw [vw_6] at g6; rw [vw_10] at g10
  have key : ∀ s0 : Int, s0 = hgS (vw (M 47) p) (Bp (M 47) (M 46 1).toNat p) f → f_X6_goesOn_48 n p f k s0 M = some (hgS (vw (M 47) p) (Bp (M 47) (M 46 1).toNat p) f, sr M 47 (gr (M 47) p (psS (vw (M 47) p) (Bp (M 47) (M 46 1).toNat p) f k))) := by
    intro s0 hs0
    obtain ⟨q, hq, rfl⟩ := Fnat hf
    unfold f_X6_goesOn_48
    rw [rdp (p := p) (k := 23) (by omega) (by omega), Option.bind_some, leftOn_r hn h hp hf hS hB, Option.bind_some, rdp (p := p) (k := 17 + q) (by omega) (by omega), Option.bind_some, wtp (p := p) (k := 23) (by omega) (by omega), Option.bind_some]
    rw [rdp (p := p) (k := 24) (by omega) (by omega), Option.bind_some, wtp (p := p) (k := 24) (by omega) (by omega), Option.bind_some]
    rw [rdp (p := p) (k := 15) (by omega) (by omega), Option.bind_some]
    rw [rotted_r (S := vw (M 47) p) (by rw [vw_9]; simp [st_at]) h9 h0 h1, Option.bind_some]
    rw [wtp (p := p) (k := 16) (by omega) (by omega), Option.bind_some]
    rw [rdp (p := p) (k := 22) (by omega) (by omega), Option.bind_some, rdp (p := p) (k := 21) (by omega) (by omega), Option.bind_some, wtp (p := p) (k := 22) (by omega) (by omega), Option.bind_some]
    rw [rdp (p := p) (k := 21) (by omega) (by omega), Option.bind_some, wtp (p := p) (k := 21) (by omega) (by omega), Option.bind_some]
    rw [hs0]
    congr 2
    funext a
    by_cases ha : a = 47
    · subst ha
      rw [sr_same]
      funext i
      have hpr : (lfS (vw (M 47) p) (Bp (M 47) (M 46 1).toNat p) q - k) * (M 47 (p + (17 + q)) + 1) = prS (vw (M 47) p) (q : Int) * (lfS (vw (M 47) p) (Bp (M 47) (M 46 1).toNat p) q - k) := by
        rw [Int.mul_comm]
        congr 1
        unfold prS
        rcases hq with rfl | rfl
        · rw [if_neg (by decide), vw_12]
        · rw [if_pos (by decide), vw_11]
      rw [hpr]
      unfold gr
      simp only [st_at, true_and]
      by_cases i16 : i = p + 16
      · simp [i16, psS]
      · by_cases i21 : i = p + 21
        · simp [i21, psS, vw_15]
        · by_cases i22 : i = p + 22
          · simp [i22, psS, vw_16, vw_15]
          · by_cases i23 : i = p + 23
            · simp [i23, psS, vw_17]
            · by_cases i24 : i = p + 24
              · simp [i24, psS, vw_18]
              · simp [i16, i21, i22, i23, i24]
    · rw [sr_ne _ _ ha]
      funext i
      simp [st_at, ha]
  unfold f_X6_goesOn
  rw [rdp (p := p) (k := 16) (by omega) (by omega), Option.bind_some, bearsOn_r hn h hp hf, Option.bind_some, rdp (p := p) (k := 12) (by omega) (by omega), Option.bind_some, Option.bind_some, wr_id (by omega) (by omega), wr_id (by omega) (by omega)]
  split
  · refine key 0 ?_
    unfold hgS; rw [vw_6, vw_10]; omega
  · refine key _ ?_
    unfold hgS; rw [vw_6, vw_10]; omega
/-- a page copied -/
def cr (r : Nat → Int) (a b i : Nat) : Nat → Int := fun k => if b ≤ k ∧ k < b + i then r (a + (k - b)) else r k
theorem copies_r {n a b : Nat} {M : Mem} (hn : 26 ≤ n) (ha : a ≤ 100) (hb : b ≤ 100) (hab : a + 25 ≤ b ∨ b + 25 ≤ a) : f_X6_copies n a b M = some (sr M 47 (cr (M 47) a b 25)) := by
  unfold f_X6_copies
  have h0 : sr M 47 (cr (M 47) a b 0) = M := by
    have : cr (M 47) a b 0 = M 47 := by funext k; unfold cr; rw [if_neg (by omega)]
    rw [this, sr_self]
  have A := lp_run0 (f := fun s => f_X6_copies_2 n a b s.1 s.2) (r := sr M 47 (cr (M 47) a b 25)) (fun i => ((i : Int), sr M 47 (cr (M 47) a b i))) 25 (n := n) (by omega) (fun i hi => ?_) ?_
  · rw [h0] at A
    exact A
  · show f_X6_copies_2 n a b (i : Int) (sr M 47 (cr (M 47) a b i)) = some (Sum.inl (((i : Int) + 1), sr M 47 (cr (M 47) a b (i + 1))))
    unfold f_X6_copies_2
    rw [wr_id (by omega) (by omega), if_neg (by omega), rdp (p := a) (k := i) (by omega) (by omega), Option.bind_some, wtp (p := b) (k := i) (by omega) (by omega), Option.bind_some]
    congr 3
    unfold st
    rw [sr_same, sr_sr]
    congr 1
    funext k
    unfold cr
    by_cases hk : k = b + i
    · subst hk
      rw [if_pos rfl, if_neg (by omega), if_pos (by omega), show b + i - b = i by omega]
    · rw [if_neg hk]
      by_cases hk2 : b ≤ k ∧ k < b + i
      · rw [if_pos hk2, if_pos (by omega)]
      · rw [if_neg hk2, if_neg (by omega)]
  · show f_X6_copies_2 n a b ((25 : Nat) : Int) _ = _
    unfold f_X6_copies_2
    rw [wr_id (by omega) (by omega), if_pos (by omega)]
theorem cr_in {r : Nat → Int} {a b k : Nat} (h : k < 25) : cr r a b 25 (b + k) = r (a + k) := by
  unfold cr; rw [if_pos (by omega), show b + k - b = k by omega]
theorem cr_o {r : Nat → Int} {a b k : Nat} (h : k < b ∨ b + 25 ≤ k) : cr r a b 25 k = r k := by
  unfold cr; rw [if_neg (by omega)]
theorem vw_cr (r : Nat → Int) (a b : Nat) : ∀ k, 6 ≤ k → k ≤ 18 → vw (cr r a b 25) b k = vw r a k := by
  intro k h1 h2
  unfold vw
  rw [cr_in (by omega), cr_in (by omega), cr_in (by omega), show b + k + 6 = b + (k + 6) by omega, cr_in (by omega), show a + k + 6 = a + (k + 6) by omega]
theorem Bp_cr {r : Nat → Int} {L a b : Nat} (hL : L ≤ 4) : ∀ f, isF f → Bp (cr r a b 25) L b f = Bp r L a f := by
  intro f hf
  obtain ⟨q, hq, rfl⟩ := Fnat hf
  unfold Bp
  refine hv_cong (fun i hi => ?_)
  rw [Int.toNat_natCast, show b + 2 * i + q = b + (2 * i + q) by omega, cr_in (by omega), show a + 2 * i + q = a + (2 * i + q) by omega]
