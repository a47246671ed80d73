/-! the object's sums -/
/-- the counsel looks at the court c for Y years; only its own rows changed -/
def SmOff (M N : Mem) (c : Nat) (Y : Int) : Prop := (∀ a, a < 13 ∨ 21 < a → N a = M a) ∧ N 13 2 = (c : Int) ∧ N 13 3 = Y
theorem ck_c {c : Nat} (hc : c = 3 ∨ c = 8) : ckX2 (c : Int) = some c := by
  rcases hc with rfl | rfl <;> rfl
theorem SmOff.at {M N : Mem} {c : Nat} {Y : Int} (h : SmOff M N c Y) (hc : c = 3 ∨ c = 8) : N c = M c ∧ N (c + 3) = M (c + 3) ∧ N (c + 4) = M (c + 4) ∧ B2 N c = B2 M c := by
  have e : ∀ i, i ≤ 4 → N (c + i) = M (c + i) := fun i hi => h.1 _ (by omega)
  refine ⟨e 0 (by decide), e 3 (by decide), e 4 (by decide), ?_⟩
  funext f; unfold B2; rw [e 1 (by decide), e 2 (by decide), show N c = M c from e 0 (by decide)]
theorem gain_c {M N : Mem} {c d : Nat} {Y p : Int} {kept : Nat} (hc : c = 3 ∨ c = 8) (h : SmOff M N c Y) (ok : OkS (M c)) (hd : d < 6) (hk : kept ≤ 40) : f_X1_gain (d : Int) p (kept : Int) N = some (N (15 + d) (rtS (M c) kept).toNat - p * kept) := by
  have e := h.at hc
  have h9 : 0 ≤ M c 9 ∧ M c 9 ≤ 9 := by unfold OkS at ok; omega
  have hr := rtX ok (k := (kept : Int)) (by omega) (by omega)
  unfold f_X1_gain
  rw [rx_id rfl hd (by decide), Option.bind_some, h.2.1, ck_c hc, Option.bind_some, unrotten_c (by rw [e.1]; exact h9) (by omega) (by omega), Option.bind_some, e.1, rd_id hr.1 (by omega) (by omega), Option.bind_some, show d * 1 + 15 = 15 + d by omega]
/-- what the choices are made by -/
def gnS (M N : Mem) (c d : Nat) (p : Int) (kept : Nat) : Int := N (15 + d) (rtS (M c) kept).toNat - p * kept
theorem choose_c {n : Nat} {M N : Mem} {c d : Nat} {Y p : Int} (hn : 1000 ≤ n) (hc : c = 3 ∨ c = 8) (h : SmOff M N c Y) (ok : OkS (M c)) (hd : d < 6) (hg : ∀ k, k ≤ (M c 8).toNat → rg (gnS M N c d p k)) : f_X1_choose n (d : Int) p N = some (sr N 21 (fun j => if j < (M c 8).toNat + 1 then (amB (gnS M N c d p) j : Int) else N 21 j)) := by
  have h8 : 0 ≤ M c 8 ∧ M c 8 ≤ 40 := by unfold OkS at ok; omega
  have S' : ∀ r, SmOff M (sr N 21 r) c Y := fun r => ⟨fun a ha => by rw [sr_ne _ _ (by omega)]; exact h.1 a ha, by rw [sr_ne _ _ (by decide)]; exact h.2.1, by rw [sr_ne _ _ (by decide)]; exact h.2.2⟩
  have G : ∀ (r : Nat → Int) (k : Nat), k ≤ 40 → f_X1_gain (d : Int) p (k : Int) (sr N 21 r) = some (gnS M N c d p k) := fun r k hk => by
    rw [gain_c hc (S' r) ok hd hk, sr_ne _ _ (by omega)]
    rfl
  have G0 : f_X1_gain (d : Int) p 0 N = some (gnS M N c d p 0) := gain_c (kept := 0) hc h ok hd (by decide)
  unfold f_X1_choose
  rw [G0, Option.bind_some]
  have h0 : sr N 21 (fun j => if j < 0 then (amB (gnS M N c d p) j : Int) else N 21 j) = N := by
    have : (fun j => if j < 0 then (amB (gnS M N c d p) j : Int) else N 21 j) = N 21 := by funext j; rw [if_neg (by omega)]
    rw [this, sr_self]
  have A := lp_run0 (f := fun s => f_X1_choose_14 n (d : Int) p s.1 s.2.1 s.2.2.1 s.2.2.2) (r := sr N 21 (fun j => if j < (M c 8).toNat + 1 then (amB (gnS M N c d p) j : Int) else N 21 j)) (fun i => ((amB (gnS M N c d p) (i - 1) : Int), gnS M N c d p (amB (gnS M N c d p) (i - 1)), (i : Int), sr N 21 (fun j => if j < i then (amB (gnS M N c d p) j : Int) else N 21 j))) ((M c 8).toNat + 1) (n := n) (by omega) (fun i hi => ?_) ?_
  · rw [h0] at A
    exact A
  · show f_X1_choose_14 n (d : Int) p (amB (gnS M N c d p) (i - 1) : Int) (gnS M N c d p (amB (gnS M N c d p) (i - 1))) (i : Int) (sr N 21 _) = some (Sum.inl ((amB (gnS M N c d p) (i + 1 - 1) : Int), gnS M N c d p (amB (gnS M N c d p) (i + 1 - 1)), (i : Int) + 1, sr N 21 _))
    have ll := amB_le (gnS M N c d p) (i - 1)
    have eA : amB (gnS M N c d p) i = if gnS M N c d p i ≤ gnS M N c d p (amB (gnS M N c d p) (i - 1)) then amB (gnS M N c d p) (i - 1) else i := by
      cases i with
      | zero => rw [if_pos (show gnS M N c d p 0 ≤ gnS M N c d p (amB (gnS M N c d p) (0 - 1)) from Int.le_refl _)]
      | succ i => rw [amB]; rfl
    unfold f_X1_choose_14 f_X1_choose_50
    rw [(S' _).2.1, ck_c hc, Option.bind_some, ((S' _).at hc).1, wr_id (x := M c 8) (by omega) (by omega), wr_id (x := (i : Int)) (by omega) (by omega), if_neg (by omega), G _ i (by omega), Option.bind_some, wr_rg (hg i (by omega)), wr_rg (hg _ (by omega)), wt_id (by omega) (by omega) (by omega), Option.bind_some, wt_id (by omega) (by omega) (by omega), Option.bind_some, Int.toNat_natCast, show i + 1 - 1 = i by omega]
    have eM : ∀ w : Int, w = (amB (gnS M N c d p) i : Int) → st (sr N 21 (fun j => if j < i then (amB (gnS M N c d p) j : Int) else N 21 j)) 21 i w = sr N 21 (fun j => if j < i + 1 then (amB (gnS M N c d p) j : Int) else N 21 j) := fun w hw => by
      unfold st
      rw [sr_same, sr_sr]
      congr 1
      funext j
      by_cases q : j = i
      · rw [if_pos q, if_pos (by omega), hw, q]
      · rw [if_neg q]
        by_cases q2 : j < i
        · rw [if_pos q2, if_pos (by omega)]
        · rw [if_neg q2, if_neg (by omega)]
    by_cases q : gnS M N c d p i ≤ gnS M N c d p (amB (gnS M N c d p) (i - 1))
    · rw [if_pos q] at eA ⊢
      rw [eM _ (by rw [eA]), eA]
    · rw [if_neg q] at eA ⊢
      rw [eM _ (by rw [eA]), eA]
  · show f_X1_choose_14 n (d : Int) p (amB (gnS M N c d p) ((M c 8).toNat + 1 - 1) : Int) (gnS M N c d p (amB (gnS M N c d p) ((M c 8).toNat + 1 - 1))) (((M c 8).toNat + 1 : Nat) : Int) (sr N 21 (fun j => if j < (M c 8).toNat + 1 then (amB (gnS M N c d p) j : Int) else N 21 j)) = _
    unfold f_X1_choose_14
    rw [(S' _).2.1, ck_c hc, Option.bind_some, ((S' _).at hc).1, wr_id (x := M c 8) (by omega) (by omega), wr_id (x := (((M c 8).toNat + 1 : Nat) : Int)) (by omega) (by omega), if_pos (by omega)]
/-- the number that a year adds for the store s -/
def adS (M N : Mem) (c d : Nat) (p u : Int) (f : Int) (s : Nat) : Int := (p * lfX (M c) (B2 M c) s f - u * hgX (M c) (B2 M c) s f) + mxB (gnS M N c d p) (min (M c 8) (lfX (M c) (B2 M c) s f)).toNat
theorem addYear_c {n : Nat} {M N : Mem} {c d : Nat} {Y are f : Int} (hn : 1000 ≤ n) (hc : c = 3 ∨ c = 8) (h : SmOff M N c Y) (ok : OkS (M c)) (hL : 0 ≤ M c 4 ∧ M c 4 ≤ 4) (hR : 0 ≤ M c 5 ∧ M c 5 ≤ 4) (hB : OkB (B2 M c)) (hf : isF f) (hd : d < 5) (hg : ∀ k, k ≤ (M c 8).toNat → rg (gnS M N c (d + 1) (odS (M (c + 4)) are (M c 5).toNat * prS (M c) f) k)) : ∃ N', f_X1_addYear n (d : Int) are f N = some N' ∧ SmOff M N' c Y ∧ (∀ e, e < 6 → e ≠ d → N' (15 + e) = N (15 + e)) ∧ ∀ s, s ≤ (M c 8).toNat → N' (15 + d) s = N (15 + d) s + adS M N c (d + 1) (odS (M (c + 4)) are (M c 5).toNat * prS (M c) f) (odS (M (c + 4)) are (M c 5).toNat * M c 7) f s := by
  have h8 : 0 ≤ M c 8 ∧ M c 8 ≤ 40 := by unfold OkS at ok; omega
  have h6 : 0 ≤ M c 6 ∧ M c 6 ≤ 40 := by unfold OkS at ok; omega
  have hb := hB f hf
  have e := h.at hc
  generalize hp : odS (M (c + 4)) are (M c 5).toNat * prS (M c) f = p at hg ⊢
  generalize hu : odS (M (c + 4)) are (M c 5).toNat * M c 7 = u
  have C := choose_c (n := n) (d := d + 1) (p := p) hn hc h ok (by omega) hg
  generalize hK : sr N 21 (fun j => if j < (M c 8).toNat + 1 then (amB (gnS M N c (d + 1) p) j : Int) else N 21 j) = K at C
  have K21 : ∀ j, j ≤ (M c 8).toNat → K 21 j = (amB (gnS M N c (d + 1) p) j : Int) := fun j hj => by rw [← hK, sr_same, if_pos (by omega)]
  have Ko : ∀ a, a ≠ 21 → K a = N a := fun a ha => by rw [← hK, sr_ne _ _ ha]
  have KS : SmOff M K c Y := ⟨fun a ha => by rw [Ko a (by omega)]; exact h.1 a ha, by rw [Ko 13 (by decide)]; exact h.2.1, by rw [Ko 13 (by decide)]; exact h.2.2⟩
  have S' : ∀ r, SmOff M (sr K (15 + d) r) c Y := fun r => ⟨fun a ha => by rw [sr_ne _ _ (by omega)]; exact KS.1 a ha, by rw [sr_ne _ _ (by omega)]; exact KS.2.1, by rw [sr_ne _ _ (by omega)]; exact KS.2.2⟩
  have h0 : sr K (15 + d) (fun j => if j < 0 then N (15 + d) j + adS M N c (d + 1) p u f j else K (15 + d) j) = K := by
    have : (fun j => if j < 0 then N (15 + d) j + adS M N c (d + 1) p u f j else K (15 + d) j) = K (15 + d) := by funext j; rw [if_neg (by omega)]
    rw [this, sr_self]
  have A := lp_run0 (f := fun s => f_X1_addYear_57 n (d : Int) p u (B2 M c f) s.1 s.2) (r := sr K (15 + d) (fun j => if j < (M c 8).toNat + 1 then N (15 + d) j + adS M N c (d + 1) p u f j else K (15 + d) j)) (fun i => ((i : Int), sr K (15 + d) (fun j => if j < i then N (15 + d) j + adS M N c (d + 1) p u f j else K (15 + d) j))) ((M c 8).toNat + 1) (n := n) (by omega) (fun i hi => ?_) ?_
  · rw [h0] at A
    refine ⟨sr K (15 + d) (fun j => if j < (M c 8).toNat + 1 then N (15 + d) j + adS M N c (d + 1) p u f j else K (15 + d) j), ?_, S' _, fun e he hed => ?_, fun s hs => ?_⟩
    · unfold f_X1_addYear
      rw [h.2.1, ck_c hc, Option.bind_some, oddsOf_c (by omega) (by rw [e.1]; exact hR), Option.bind_some, Option.bind_some, priceIn_c hf, Option.bind_some, Option.bind_some, Option.bind_some, harvest_c (by omega) (by rw [e.1]; exact hL.1) (by rw [e.1]; exact hL.2) hf, Option.bind_some, e.1, e.2.2.1, e.2.2.2, hp, show (d : Int) + 1 = ((d + 1 : Nat) : Int) by omega, C, Option.bind_some, hu]
      exact A
    · rw [sr_ne _ _ (by omega), Ko _ (by omega)]
    · rw [sr_same, if_pos (by omega)]
  · show f_X1_addYear_57 n (d : Int) p u (B2 M c f) (i : Int) (sr K (15 + d) _) = some (Sum.inl ((i : Int) + 1, sr K (15 + d) _))
    have hl : 0 ≤ lfX (M c) (B2 M c) i f ∧ lfX (M c) (B2 M c) i f ≤ 76 := by unfold lfX; omega
    obtain ⟨t, ht⟩ : ∃ t : Nat, min (M c 8) (lfX (M c) (B2 M c) i f) = (t : Int) := ⟨(min (M c 8) (lfX (M c) (B2 M c) i f)).toNat, by omega⟩
    have hal := amB_le (gnS M N c (d + 1) p) t
    have eg : f_X1_gain ((d + 1 : Nat) : Int) p (amB (gnS M N c (d + 1) p) t : Int) (sr K (15 + d) (fun j => if j < i then N (15 + d) j + adS M N c (d + 1) p u f j else K (15 + d) j)) = some (mxB (gnS M N c (d + 1) p) t) := by
      rw [gain_c hc (S' _) ok (by omega) (by omega), sr_ne _ _ (by omega), Ko _ (by omega), ← amB_mx]
      rfl
    unfold f_X1_addYear_57
    rw [(S' _).2.1, ck_c hc, Option.bind_some, ((S' _).at hc).1, wr_id (x := M c 8) (by omega) (by omega), wr_id (x := (i : Int)) (by omega) (by omega), if_neg (by omega), Option.bind_some, leftOf_c (by rw [((S' _).at hc).1]; exact h6) (by omega) (by omega), Option.bind_some, Option.bind_some, ((S' _).at hc).1]
    rw [show max 0 ((i : Int) + B2 M c f - M c 6) = lfX (M c) (B2 M c) i f from rfl, mnn_id (by omega) (by omega) (by omega) (by omega), ht, rd_id (by omega) (by omega) (by omega), Option.bind_some, sr_ne _ _ (show 21 ≠ 15 + d by omega), Int.toNat_natCast, K21 t (by omega), Option.bind_some, hungryOf_c (by rw [((S' _).at hc).1]; exact h6) (by omega) (by omega), Option.bind_some, rx_id rfl (show d < 6 by omega) (by decide), Option.bind_some, show d * 1 + 15 = 15 + d by omega, ((S' _).at hc).1, show max 0 (M c 6 - ((i : Int) + B2 M c f)) = hgX (M c) (B2 M c) i f from rfl, rd_id (by omega) (by omega) (by omega), Option.bind_some, show (d : Int) + 1 = ((d + 1 : Nat) : Int) by omega, eg, Option.bind_some, wt_id (by omega) (by omega) (by omega), Option.bind_some, Int.toNat_natCast, sr_same, if_neg (by omega), Ko _ (by omega)]
    congr 3
    unfold st
    rw [sr_same, sr_sr]
    congr 1
    funext j
    by_cases q : j = i
    · rw [if_pos q, if_pos (by omega), q]
      unfold adS
      rw [ht, Int.toNat_natCast]
    · rw [if_neg q]
      by_cases q2 : j < i
      · rw [if_pos q2, if_pos (by omega)]
      · rw [if_neg q2, if_neg (by omega)]
  · show f_X1_addYear_57 n (d : Int) p u (B2 M c f) (((M c 8).toNat + 1 : Nat) : Int) (sr K (15 + d) (fun j => if j < (M c 8).toNat + 1 then N (15 + d) j + adS M N c (d + 1) p u f j else K (15 + d) j)) = _
    unfold f_X1_addYear_57
    rw [(S' _).2.1, ck_c hc, Option.bind_some, ((S' _).at hc).1, wr_id (x := M c 8) (by omega) (by omega), wr_id (x := (((M c 8).toNat + 1 : Nat) : Int)) (by omega) (by omega), if_pos (by omega)]
