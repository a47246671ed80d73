/-! bits, many years, readings -/
theorem bAnd1 (x : Int) : isF (bAnd x 1) := by
  unfold bAnd isF
  obtain ⟨j, hj, e⟩ := pk_andE (Int32.ofInt x) (m := Int32.ofInt 1) 1 (by decide)
  rw [e, nI_toInt (by omega)]
  omega
def bt (v y : Int) : Int := bAnd (bShr v y) 1
theorem bt_F (v y : Int) : isF (bt v y) := bAnd1 _
theorem wr_F {f : Int} (h : isF f) : wr f = f := by
  rcases h with rfl | rfl
  · exact wr_0
  · exact wr_1
theorem w1n0 : ¬ wr 1 = 0 := by rw [wr_1]; decide
theorem wr_bt (v y : Int) : wr (bt v y) = bt v y := wr_F (bt_F v y)
theorem fatIn_c {j : Nat} {M : Mem} {r y : Int} (h0 : 0 ≤ r) (h1 : r < 4) : f_X2_fatIn j r y M = some (bt (M (j + 3) r.toNat) y) := by
  unfold f_X2_fatIn
  rw [rd_id h0 (by omega) (by omega), Option.bind_some]; rfl
theorem isOver_c {j : Nat} {M : Mem} (h : 0 ≤ M j 15 ∧ M j 15 ≤ 8) : f_X2_isOver j M = some (if M j 15 < 8 then 0 else 1) := by
  unfold f_X2_isOver
  rw [wr_id (by omega) (by omega), ite_some]
theorem psS_i (S : Nat → Int) (B : Int → Int) (f k : Int) (i : Nat) (h : i ≠ 10 ∧ i ≠ 15 ∧ i ≠ 16 ∧ i ≠ 17 ∧ i ≠ 18) : psS S B f k i = S i := by
  unfold psS; simp [h.1, h.2.1, h.2.2.1, h.2.2.2.1, h.2.2.2.2]
theorem psS_10 (S : Nat → Int) (B : Int → Int) (f k : Int) : psS S B f k 10 = rtS S k := by unfold psS; simp
theorem psS_15 (S : Nat → Int) (B : Int → Int) (f k : Int) : psS S B f k 15 = S 15 + 1 := by unfold psS; simp
theorem OkS_ps {S : Nat → Int} {B : Int → Int} {f k : Int} (h : OkS S) (hy : S 15 < 8) (h0 : 0 ≤ k) (h1 : k ≤ 40) : OkS (psS S B f k) := by
  have hr := rtS_rng h h0 h1
  obtain ⟨h6, h7, h8, h9, h10, h11, h12, h13, h14, h15⟩ := h
  unfold OkS
  rw [psS_i _ _ _ _ 6 (by decide), psS_i _ _ _ _ 7 (by decide), psS_i _ _ _ _ 8 (by decide), psS_i _ _ _ _ 9 (by decide), psS_10, psS_i _ _ _ _ 11 (by decide), psS_i _ _ _ _ 12 (by decide), psS_i _ _ _ _ 13 (by decide), psS_i _ _ _ _ 14 (by decide), psS_15]
  omega
theorem OkS_hm {S : Nat → Int} {B : Int → Int} {f : Int} (h : OkS S) (hB : OkB B) (hf : isF f) (hy : S 15 < 8) : OkS (hmS S B f) := by
  have hl := lfS_rng h hB hf
  have hk := kpS_rng h hl.1 (by omega)
  exact OkS_ps h hy hk.1 hk.2.1
theorem hmS_i (S : Nat → Int) (B : Int → Int) (f : Int) (i : Nat) (h : i ≠ 10 ∧ i ≠ 15 ∧ i ≠ 16 ∧ i ≠ 17 ∧ i ≠ 18) : hmS S B f i = S i := psS_i _ _ _ _ i h
theorem hmS_15 (S : Nat → Int) (B : Int → Int) (f : Int) : hmS S B f 15 = S 15 + 1 := psS_15 _ _ _ _
theorem B2_sr {M : Mem} {j : Nat} {S : Nat → Int} (h : S 4 = M j 4) : B2 (sr M j S) j = B2 M j := by
  funext f
  unfold B2
  rw [sr_same, sr_ne _ _ (show j + 1 ≠ j by omega), sr_ne _ _ (show j + 2 ≠ j by omega), h]
/-- one year by the steward, over a court whose numbers are S -/
theorem him_sr {n j : Nat} {M : Mem} {S : Nat → Int} {f : Int} (hn : 5 ≤ n) (hL : 0 ≤ M j 4 ∧ M j 4 ≤ 4) (h4 : S 4 = M j 4) (h : OkS S) (hB : OkB (B2 M j)) (hf : isF f) : f_X2_passByHim n j f (sr M j S) = some (hgS S (B2 M j) f, sr M j (hmS S (B2 M j) f)) := by
  have e := B2_sr (M := M) (j := j) h4
  have a := passByHim_c (n := n) (j := j) (M := sr M j S) (f := f) hn (by rw [sr_same, h4]; exact hL) (by rw [sr_same]; exact h) (by rw [e]; exact hB) hf
  rw [a, sr_same, e, sr_sr]
/-- t years by a row and the steward, or as many as there are -/
def rnS (B : Int → Int) (row : Int) : Nat → (Nat → Int) → (Nat → Int)
  | 0, S => S
  | t + 1, S => if 8 ≤ S 15 then S else rnS B row t (hmS S B (bt row (S 15)))
theorem follow_lp {n0 j : Nat} {M : Mem} {r y : Int} (hn0 : 5 ≤ n0) (hL : 0 ≤ M j 4 ∧ M j 4 ≤ 4) (hB : OkB (B2 M j)) (h0 : 0 ≤ r) (h1 : r < 4) (hy : 0 ≤ y ∧ y ≤ 8) : ∀ (t n : Nat) (i : Int) (S : Nat → Int), t < n → 0 ≤ i → i + t = y → S 4 = M j 4 → OkS S → lp (fun s => f_X2_follow_2 n0 j r y s.1 s.2) n (i, sr M j S) = some (sr M j (rnS (B2 M j) (M (j + 3) r.toNat) t S)) := by
  intro t
  induction t with
  | zero =>
    intro n i S hn hi0 hi h4 h
    obtain ⟨m, rfl⟩ : ∃ m, n = m + 1 := ⟨n - 1, by omega⟩
    refine lp_end ?_
    show f_X2_follow_2 n0 j r y i (sr M j S) = _
    unfold f_X2_follow_2
    rw [wr_id (by omega) (by omega), wr_id (by omega) (by omega), if_pos (by omega)]; rfl
  | succ t ih =>
    intro n i S hn hi0 hi h4 h
    obtain ⟨m, rfl⟩ : ∃ m, n = m + 1 := ⟨n - 1, by omega⟩
    have h15 : 0 ≤ S 15 ∧ S 15 ≤ 8 := by unfold OkS at h; omega
    by_cases hov : 8 ≤ S 15
    · have : rnS (B2 M j) (M (j + 3) r.toNat) (t + 1) S = S := by rw [rnS, if_pos hov]
      rw [this]
      refine lp_end ?_
      show f_X2_follow_2 n0 j r y i (sr M j S) = _
      unfold f_X2_follow_2
      rw [wr_id (x := y) (by omega) (by omega), wr_id (x := i) (by omega) (by omega), if_neg (by omega), isOver_c (by rw [sr_same]; exact h15), Option.bind_some, sr_same, if_neg (show ¬ S 15 < 8 by omega), if_neg w1n0]
    · have hf : isF (bt (M (j + 3) r.toNat) (S 15)) := bt_F _ _
      have e : f_X2_follow_2 n0 j r y i (sr M j S) = some (.inl (i + 1, sr M j (hmS S (B2 M j) (bt (M (j + 3) r.toNat) (S 15))))) := by
        unfold f_X2_follow_2
        rw [wr_id (x := y) (by omega) (by omega), wr_id (x := i) (by omega) (by omega), if_neg (by omega), isOver_c (by rw [sr_same]; exact h15), Option.bind_some, sr_same, if_pos (show S 15 < 8 by omega), if_pos wr_0, fatIn_c h0 h1, Option.bind_some, sr_ne _ _ (show j + 3 ≠ j by omega), him_sr hn0 hL h4 h hB hf]
        rfl
      rw [lp_succ (f := fun s => f_X2_follow_2 n0 j r y s.1 s.2) (s := (i, sr M j S)) e, ih m (i + 1) _ (by omega) (by omega) (by omega) (by rw [hmS_i _ _ _ 4 (by decide)]; exact h4) (OkS_hm h hB hf (by omega))]
      conv => rhs; rw [rnS, if_neg hov]
theorem follow_c {n j : Nat} {M : Mem} {r y : Int} (hn : 20 ≤ n) (hL : 0 ≤ M j 4 ∧ M j 4 ≤ 4) (h : OkS (M j)) (hB : OkB (B2 M j)) (h0 : 0 ≤ r) (h1 : r < 4) (hy : 0 ≤ y ∧ y ≤ 8) : f_X2_follow n j r y M = some (sr M j (rnS (B2 M j) (M (j + 3) r.toNat) y.toNat (M j))) := by
  unfold f_X2_follow
  have a := follow_lp (n0 := n) (j := j) (M := M) (r := r) (y := y) (by omega) hL hB h0 h1 hy y.toNat n 0 (M j) (by omega) (by omega) (by omega) rfl h
  rw [sr_self] at a
  exact a
/-- the first year of hunger, and what there is then -/
def fhS (B : Int → Int) (row : Int) : Nat → (Nat → Int) → Int × (Nat → Int)
  | 0, S => (-4, S)
  | t + 1, S => if hgS S B (bt row (S 15)) ≤ 0 then fhS B row t (hmS S B (bt row (S 15))) else (S 15, hmS S B (bt row (S 15)))
theorem hunger_lp {n0 j : Nat} {M : Mem} {r : Int} (hn0 : 5 ≤ n0) (hL : 0 ≤ M j 4 ∧ M j 4 ≤ 4) (hB : OkB (B2 M j)) (h0 : 0 ≤ r) (h1 : r < 4) : ∀ (t n : Nat) (S : Nat → Int), t < n → S 15 + t = 8 → S 4 = M j 4 → OkS S → lp (fun s => f_X2_firstHunger_5 n0 j r s.1 s.2) n (S 15, sr M j S) = some ((fhS (B2 M j) (M (j + 3) r.toNat) t S).1, sr M j (fhS (B2 M j) (M (j + 3) r.toNat) t S).2) := by
  intro t
  induction t with
  | zero =>
    intro n S hn hi h4 h
    obtain ⟨m, rfl⟩ : ∃ m, n = m + 1 := ⟨n - 1, by omega⟩
    refine lp_end ?_
    show f_X2_firstHunger_5 n0 j r (S 15) (sr M j S) = _
    unfold f_X2_firstHunger_5
    rw [wr_id (by omega) (by omega), if_pos (by omega)]; rfl
  | succ t ih =>
    intro n S hn hi h4 h
    obtain ⟨m, rfl⟩ : ∃ m, n = m + 1 := ⟨n - 1, by omega⟩
    have h15 : 0 ≤ S 15 ∧ S 15 ≤ 8 := by unfold OkS at h; omega
    have hf : isF (bt (M (j + 3) r.toNat) (S 15)) := bt_F _ _
    have hg := hgS_rng h hB hf
    have e : f_X2_firstHunger_5 n0 j r (S 15) (sr M j S) = if hgS S (B2 M j) (bt (M (j + 3) r.toNat) (S 15)) ≤ 0 then some (.inl (S 15 + 1, sr M j (hmS S (B2 M j) (bt (M (j + 3) r.toNat) (S 15))))) else some (.inr (S 15, sr M j (hmS S (B2 M j) (bt (M (j + 3) r.toNat) (S 15))))) := by
      unfold f_X2_firstHunger_5
      rw [wr_id (x := S 15) (by omega) (by omega), if_neg (by omega), fatIn_c h0 h1, Option.bind_some, sr_ne _ _ (show j + 3 ≠ j by omega), him_sr hn0 hL h4 h hB hf, Option.bind_some]
      dsimp only
      rw [wr_id (by omega) (by omega)]
    rw [fhS]
    by_cases hz : hgS S (B2 M j) (bt (M (j + 3) r.toNat) (S 15)) ≤ 0
    · rw [if_pos hz] at e ⊢
      rw [lp_succ (f := fun s => f_X2_firstHunger_5 n0 j r s.1 s.2) (s := (S 15, sr M j S)) e]
      have a := ih m (hmS S (B2 M j) (bt (M (j + 3) r.toNat) (S 15))) (by omega) (by rw [hmS_15]; omega) (by rw [hmS_i _ _ _ 4 (by decide)]; exact h4) (OkS_hm h hB hf (by omega))
      rw [hmS_15] at a
      exact a
    · rw [if_neg hz] at e ⊢
      exact lp_end (f := fun s => f_X2_firstHunger_5 n0 j r s.1 s.2) (s := (S 15, sr M j S)) e
theorem firstHunger_c {n j : Nat} {M : Mem} {r : Int} (hn : 20 ≤ n) (hL : 0 ≤ M j 4 ∧ M j 4 ≤ 4) (h : OkS (M j)) (hB : OkB (B2 M j)) (h0 : 0 ≤ r) (h1 : r < 4) : f_X2_firstHunger n j r M = some ((fhS (B2 M j) (M (j + 3) r.toNat) (8 - M j 15).toNat (M j)).1, sr M j (fhS (B2 M j) (M (j + 3) r.toNat) (8 - M j 15).toNat (M j)).2) := by
  unfold f_X2_firstHunger
  have h15 : 0 ≤ M j 15 ∧ M j 15 ≤ 8 := by unfold OkS at h; omega
  have a := hunger_lp (n0 := n) (j := j) (M := M) (r := r) (by omega) hL hB h0 h1 (8 - M j 15).toNat n (M j) (by omega) (by omega) rfl h
  rw [sr_self] at a
  exact a
/-- whether a row can be -/
def cbS (S : Nat → Int) (v : Int) : Int := if wr (bAnd v (bShl 1 (S 15) - 1)) = wr (S 16) then 1 else 0
theorem cbS_F (S : Nat → Int) (v : Int) : isF (cbS S v) := by unfold cbS isF; split <;> simp
theorem canBe_c {j : Nat} {M : Mem} {r : Int} (h0 : 0 ≤ r) (h1 : r < 4) : f_X2_canBe j r M = some (cbS (M j) (M (j + 3) r.toNat)) := by
  unfold f_X2_canBe cbS
  rw [rd_id h0 (by omega) (by omega), Option.bind_some, ite_some]
def pbS (S : Nat → Int) (R : Nat → Int) : Nat → Int
  | 0 => 0
  | r + 1 => if cbS S (R r) = 0 then pbS S R r else bOr (pbS S R r) (bShl 1 r)
theorem possible_c {n j : Nat} {M : Mem} (hn : 5 ≤ n) (h : 0 ≤ M j 5 ∧ M j 5 ≤ 4) : f_X2_possible n j M = some (pbS (M j) (M (j + 3)) (M j 5).toNat) := by
  unfold f_X2_possible
  refine lp_run0 (fun i => (pbS (M j) (M (j + 3)) i, (i : Int))) (M j 5).toNat (by omega) (fun i hi => ?_) ?_
  · show f_X2_possible_4 n j (pbS (M j) (M (j + 3)) i) (i : Int) M = _
    unfold f_X2_possible_4 f_X2_possible_26
    rw [wr_id (by omega) (by omega), wr_id (by omega) (by omega), if_neg (by omega), canBe_c (by omega) (by omega), Option.bind_some, Int.toNat_natCast, wr_F (cbS_F _ _)]
    show _ = some (Sum.inl (pbS (M j) (M (j + 3)) (i + 1), (i : Int) + 1))
    rw [pbS]
    split <;> rfl
  · show f_X2_possible_4 n j (pbS (M j) (M (j + 3)) _) ((M j 5).toNat : Int) M = _
    unfold f_X2_possible_4
    rw [wr_id (by omega) (by omega), wr_id (by omega) (by omega), if_pos (by omega)]
theorem has_c (A i : Int) (M : Mem) : f_X5_has A i M = some (if bt A i = 1 then 1 else 0) := by
  unfold f_X5_has
  show (if wr (bt A i) = 1 then _ else _) = _
  rw [wr_bt, ite_some]
def tlS (R : Nat → Int) (A y f : Int) : Nat → Int
  | 0 => 0
  | r + 1 => if bt A r = 1 ∧ bt (R r) y = f then bOr (tlS R A y f r) (bShl 1 r) else tlS R A y f r
theorem telling_c {n j : Nat} {M : Mem} {A y f : Int} (hn : 5 ≤ n) (h : 0 ≤ M j 5 ∧ M j 5 ≤ 4) (hf : isF f) : f_X2_telling n j A y f M = some (tlS (M (j + 3)) A y f (M j 5).toNat) := by
  unfold f_X2_telling
  refine lp_run0 (fun i => (tlS (M (j + 3)) A y f i, (i : Int))) (M j 5).toNat (by omega) (fun i hi => ?_) ?_
  · show f_X2_telling_6 n j A y f (tlS (M (j + 3)) A y f i) (i : Int) M = some (Sum.inl (tlS (M (j + 3)) A y f (i + 1), (i : Int) + 1))
    unfold f_X2_telling_6 f_X2_telling_44
    rw [wr_id (by omega) (by omega), wr_id (by omega) (by omega), if_neg (by omega), has_c, Option.bind_some, fatIn_c (by omega) (by omega), Option.bind_some, Int.toNat_natCast, wr_bt, wr_F hf, tlS]
    by_cases ha : bt A i = 1
    · rw [if_pos ha, if_neg w1n0]
      by_cases hb : bt (M (j + 3) i) y = f
      · rw [if_pos hb, if_pos ⟨ha, hb⟩]
      · rw [if_neg hb, if_neg (fun q => hb q.2)]
    · rw [if_neg ha, if_pos wr_0, if_neg (fun q => ha q.1)]
  · show f_X2_telling_6 n j A y f (tlS (M (j + 3)) A y f _) ((M j 5).toNat : Int) M = _
    unfold f_X2_telling_6
    rw [wr_id (by omega) (by omega), wr_id (by omega) (by omega), if_pos (by omega)]
def odS (O : Nat → Int) (A : Int) : Nat → Int
  | 0 => 0
  | r + 1 => if bt A r = 1 then odS O A r + O r else odS O A r
theorem oddsOf_c {n j : Nat} {M : Mem} {A : Int} (hn : 5 ≤ n) (h : 0 ≤ M j 5 ∧ M j 5 ≤ 4) : f_X2_oddsOf n j A M = some (odS (M (j + 4)) A (M j 5).toNat) := by
  unfold f_X2_oddsOf
  refine lp_run0 (fun i => (odS (M (j + 4)) A i, (i : Int))) (M j 5).toNat (by omega) (fun i hi => ?_) ?_
  · show f_X2_oddsOf_4 n j A (odS (M (j + 4)) A i) (i : Int) M = some (Sum.inl (odS (M (j + 4)) A (i + 1), (i : Int) + 1))
    unfold f_X2_oddsOf_4 f_X2_oddsOf_29
    rw [wr_id (by omega) (by omega), wr_id (by omega) (by omega), if_neg (by omega), has_c, Option.bind_some, rd_id (by omega) (by omega) (by omega), Option.bind_some, Int.toNat_natCast, odS]
    by_cases ha : bt A i = 1
    · rw [if_pos ha, if_pos ha, if_neg w1n0]
    · rw [if_neg ha, if_neg ha, if_pos wr_0]
  · show f_X2_oddsOf_4 n j A (odS (M (j + 4)) A _) ((M j 5).toNat : Int) M = _
    unfold f_X2_oddsOf_4
    rw [wr_id (by omega) (by omega), wr_id (by omega) (by omega), if_pos (by omega)]
