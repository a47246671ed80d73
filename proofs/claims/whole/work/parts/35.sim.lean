/-! two pictures of a court that agree; the reference's years -/
theorem lp_map {σ ρ : Type} {f : σ → Option (σ ⊕ ρ)} {n : Nat} {s : σ} {o : Option ρ} (h : f s = o.map Sum.inr) : lp f (n + 1) s = o := by
  cases o with
  | none => unfold lp; rw [h]; rfl
  | some z => exact lp_end h
def Rw (S T : Nat → Int) : Prop := ∀ k, 6 ≤ k → k ≤ 18 → S k = T k
def RB (B C : Int → Int) : Prop := ∀ f, isF f → B f = C f
theorem Rw.refl (S : Nat → Int) : Rw S S := fun _ _ _ => rfl
theorem Rw.symm {S T : Nat → Int} (h : Rw S T) : Rw T S := fun k a b => (h k a b).symm
theorem Rw.trans {S T U : Nat → Int} (h : Rw S T) (g : Rw T U) : Rw S U := fun k a b => (h k a b).trans (g k a b)
theorem RB.symm {B C : Int → Int} (h : RB B C) : RB C B := fun f hf => (h f hf).symm
theorem RB.trans {B C D : Int → Int} (h : RB B C) (g : RB C D) : RB B D := fun f hf => (h f hf).trans (g f hf)
theorem OkS_rw {S T : Nat → Int} (h : Rw S T) (hS : OkS S) : OkS T := by
  unfold OkS at hS ⊢
  rw [← h 6 (by decide) (by decide), ← h 7 (by decide) (by decide), ← h 8 (by decide) (by decide), ← h 9 (by decide) (by decide), ← h 10 (by decide) (by decide), ← h 11 (by decide) (by decide), ← h 12 (by decide) (by decide), ← h 13 (by decide) (by decide), ← h 14 (by decide) (by decide), ← h 15 (by decide) (by decide)]
  exact hS
theorem OkB_rb {B C : Int → Int} (h : RB B C) (hB : OkB B) : OkB C := fun f hf => by rw [← h f hf]; exact hB f hf
theorem lfS_rw {S T : Nat → Int} {B C : Int → Int} (h : Rw S T) (hB : RB B C) {f : Int} (hf : isF f) : lfS S B f = lfS T C f := by
  unfold lfS; rw [h 10 (by decide) (by decide), h 6 (by decide) (by decide), hB f hf]
theorem hgS_rw {S T : Nat → Int} {B C : Int → Int} (h : Rw S T) (hB : RB B C) {f : Int} (hf : isF f) : hgS S B f = hgS T C f := by
  unfold hgS; rw [h 10 (by decide) (by decide), h 6 (by decide) (by decide), hB f hf]
theorem kpS_rw {S T : Nat → Int} (h : Rw S T) (l : Int) : kpS S l = kpS T l := by
  unfold kpS wnS; rw [h 8 (by decide) (by decide), h 13 (by decide) (by decide), h 14 (by decide) (by decide), h 6 (by decide) (by decide)]
theorem rtS_rw {S T : Nat → Int} (h : Rw S T) (k : Int) : rtS S k = rtS T k := by
  unfold rtS; rw [h 9 (by decide) (by decide)]
theorem prS_rw {S T : Nat → Int} (h : Rw S T) (f : Int) : prS S f = prS T f := by
  unfold prS; rw [h 11 (by decide) (by decide), h 12 (by decide) (by decide)]
theorem psS_rw {S T : Nat → Int} {B C : Int → Int} (h : Rw S T) (hB : RB B C) {f : Int} (hf : isF f) (k : Int) : Rw (psS S B f k) (psS T C f k) := by
  intro i h1 h2
  unfold psS
  rw [rtS_rw h, h 15 (by decide) (by decide), h 16 (by decide) (by decide), h 17 (by decide) (by decide), h 18 (by decide) (by decide), prS_rw h, lfS_rw h hB hf, hgS_rw h hB hf, h i h1 h2]
theorem hmS_rw {S T : Nat → Int} {B C : Int → Int} (h : Rw S T) (hB : RB B C) {f : Int} (hf : isF f) : Rw (hmS S B f) (hmS T C f) := by
  unfold hmS
  rw [lfS_rw h hB hf, kpS_rw h]
  exact psS_rw h hB hf _
theorem rnS_rw {B C : Int → Int} (hB : RB B C) (row : Int) : ∀ (t : Nat) {S T : Nat → Int}, Rw S T → Rw (rnS B row t S) (rnS C row t T) := by
  intro t
  induction t with
  | zero => intro S T h; exact h
  | succ t ih =>
    intro S T h
    rw [rnS, rnS, h 15 (by decide) (by decide)]
    split
    · exact h
    · exact ih (hmS_rw h hB (bt_F _ _))
theorem fhS_rw {B C : Int → Int} (hB : RB B C) (row : Int) : ∀ (t : Nat) {S T : Nat → Int}, Rw S T → (fhS B row t S).1 = (fhS C row t T).1 := by
  intro t
  induction t with
  | zero => intro S T h; rfl
  | succ t ih =>
    intro S T h
    rw [fhS, fhS, h 15 (by decide) (by decide), hgS_rw h hB (bt_F _ _)]
    split
    · exact ih (hmS_rw h hB (bt_F _ _))
    · rfl
/-- the page 100 of the row r is the court S, whose lands bear B -/
def PgR (r : Nat → Int) (L : Nat) (S : Nat → Int) (B : Int → Int) : Prop := Rw (vw r 100) S ∧ RB (Bp r L 100) B
theorem PgR_gr {r : Nat → Int} {L : Nat} {S T : Nat → Int} {B : Int → Int} (hL : L ≤ 4) (h : PgR r L S B) (hT : ∀ i, i ≠ 10 ∧ i ≠ 15 ∧ i ≠ 16 ∧ i ≠ 17 ∧ i ≠ 18 → T i = vw r 100 i) {U : Nat → Int} (hU : Rw T U) : PgR (gr r 100 T) L U B :=
  ⟨Rw.trans (vw_gr hT) hU, fun f hf => (Bp_cong hL (fun k h1 h2 => gr_o (by omega)) f hf).trans (h.2 f hf)⟩
theorem try1 {n : Nat} {M : Mem} {r : Nat → Int} {S : Nat → Int} {B : Int → Int} {rr : Int} (hn : 5 ≤ n) (hL : 0 ≤ M 46 1 ∧ M 46 1 ≤ 4) (h : PgR r (M 46 1).toNat S B) (hS : OkS S) (hB : OkB B) (h0 : 0 ≤ rr) (h1 : rr < 4) (hy : S 15 < 8) : ∃ r', f_X6_triesOne n rr (sr M 47 r) = some (hgS S B (bt (M 48 rr.toNat) (S 15)), sr M 47 r') ∧ PgR r' (M 46 1).toNat (hmS S B (bt (M 48 rr.toNat) (S 15))) B ∧ ∀ k, k < 100 → r' k = r k := by
  have e15 : r 121 = S 15 := by rw [← vw_15 r 100]; exact h.1 15 (by decide) (by decide)
  have hf := bt_F (M 48 rr.toNat) (S 15)
  have hS' : OkS (vw r 100) := OkS_rw h.1.symm hS
  have hB' : OkB (Bp r (M 46 1).toNat 100) := OkB_rb h.2.symm hB
  have h15 : 0 ≤ S 15 := by unfold OkS at hS; omega
  have hl := lfS_rng hS' hB' hf
  have hk := kpS_rng hS' hl.1 (by omega)
  have X47 : (sr M 47 r) 47 = r := sr_same _ _ _
  have X46 : (sr M 47 r) 46 = M 46 := sr_ne _ _ (by decide)
  have X48 : (sr M 47 r) 48 = M 48 := sr_ne _ _ (by decide)
  have A1 := leftOn_r (n := n) (p := 100) (M := sr M 47 r) hn (by rw [X46]; exact hL) (by decide) hf (by rw [X47]; exact hS') (by rw [X46, X47]; exact hB')
  have A2 := keepsOn_r (p := 100) (M := sr M 47 r) (l := lfS (vw r 100) (Bp r (M 46 1).toNat 100) (bt (M 48 rr.toNat) (S 15))) (by decide) (by rw [X47]; exact hS') hl.1 (by omega)
  have A3 := goesOn_r (n := n) (p := 100) (M := sr M 47 r) hn (by rw [X46]; exact hL) (by decide) hf (by rw [X47]; exact hS') (by rw [X46, X47]; exact hB') hk.1 hk.2.1
  rw [X46, X47] at A1
  rw [X47] at A2
  rw [X46, X47, sr_sr] at A3
  refine ⟨gr r 100 (hmS (vw r 100) (Bp r (M 46 1).toNat 100) (bt (M 48 rr.toNat) (S 15))), ?_, ?_, fun k hk => gr_o (by omega)⟩
  · unfold f_X6_triesOne
    rw [X47, e15, wr_id (by omega) (by omega), if_neg (by omega), rd_id h0 (by omega) (by omega), Option.bind_some, X48]
    show (f_X6_leftOn n 100 (bt (M 48 rr.toNat) (S 15)) (sr M 47 r)).bind (fun v2 => (f_X6_keepsOn 100 v2 (sr M 47 r)).bind fun v3 => (f_X6_goesOn n 100 (bt (M 48 rr.toNat) (S 15)) v3 (sr M 47 r)).bind fun x => _) = _
    rw [show (100 : Int) = ((100 : Nat) : Int) from rfl, A1, Option.bind_some, A2, Option.bind_some, A3, Option.bind_some, ← hgS_rw h.1 h.2 hf]
    rfl
  · exact PgR_gr (by omega) h (fun i hi => hmS_i _ _ _ i hi) (hmS_rw h.1 h.2 hf)
theorem try0 {n : Nat} {M : Mem} {r : Nat → Int} {S : Nat → Int} {B : Int → Int} {L : Nat} {rr : Int} (h : PgR r L S B) (hy : S 15 = 8) : f_X6_triesOne n rr (sr M 47 r) = some (0, sr M 47 r) := by
  have e15 : r 121 = S 15 := by rw [← vw_15 r 100]; exact h.1 15 (by decide) (by decide)
  unfold f_X6_triesOne
  rw [sr_same, e15, hy, wr_8, if_pos rfl]
theorem starves_lp {n0 : Nat} {M : Mem} {B : Int → Int} {rr : Int} (hn0 : 5 ≤ n0) (hL : 0 ≤ M 46 1 ∧ M 46 1 ≤ 4) (hB : OkB B) (h0 : 0 ≤ rr) (h1 : rr < 4) : ∀ (t n : Nat) (r S : Nat → Int), t < n → S 15 + t = 8 → PgR r (M 46 1).toNat S B → OkS S → ∃ r', lp (fun s => f_X6_starvesIn_0 n0 rr s) n (sr M 47 r) = some ((fhS B (M 48 rr.toNat) t S).1, sr M 47 r') ∧ ∀ k, k < 100 → r' k = r k := by
  intro t
  induction t with
  | zero =>
    intro n r S hn hi h hS
    obtain ⟨m, rfl⟩ : ∃ m, n = m + 1 := ⟨n - 1, by omega⟩
    refine ⟨r, lp_end (s := sr M 47 r) ?_, fun _ _ => rfl⟩
    have e15 : r 121 = S 15 := by rw [← vw_15 r 100]; exact h.1 15 (by decide) (by decide)
    show f_X6_starvesIn_0 n0 rr (sr M 47 r) = _
    unfold f_X6_starvesIn_0
    rw [sr_same, e15, wr_id (by omega) (by omega), if_pos (by omega)]; rfl
  | succ t ih =>
    intro n r S hn hi h hS
    obtain ⟨m, rfl⟩ : ∃ m, n = m + 1 := ⟨n - 1, by omega⟩
    have e15 : r 121 = S 15 := by rw [← vw_15 r 100]; exact h.1 15 (by decide) (by decide)
    have h15 : 0 ≤ S 15 := by unfold OkS at hS; omega
    have hf := bt_F (M 48 rr.toNat) (S 15)
    have hg := hgS_rng hS hB hf
    obtain ⟨r1, a1, a2, a3⟩ := try1 hn0 hL h hS hB h0 h1 (by omega)
    have e : f_X6_starvesIn_0 n0 rr (sr M 47 r) = if hgS S B (bt (M 48 rr.toNat) (S 15)) ≤ 0 then some (.inl (sr M 47 r1)) else some (.inr (S 15, sr M 47 r1)) := by
      unfold f_X6_starvesIn_0
      rw [a1, sr_same, e15, wr_id (by omega) (by omega), if_neg (by omega), Option.bind_some]
      dsimp only
      rw [wr_id (by omega) (by omega)]
    rw [fhS]
    by_cases hz : hgS S B (bt (M 48 rr.toNat) (S 15)) ≤ 0
    · rw [if_pos hz] at e ⊢
      obtain ⟨r', b1, b2⟩ := ih m r1 _ (by omega) (by rw [hmS_15]; omega) a2 (OkS_hm hS hB hf (by omega))
      refine ⟨r', ?_, fun k hk => (b2 k hk).trans (a3 k hk)⟩
      rw [lp_succ (f := fun s => f_X6_starvesIn_0 n0 rr s) (s := sr M 47 r) e]
      exact b1
    · rw [if_neg hz] at e ⊢
      exact ⟨r1, lp_end (f := fun s => f_X6_starvesIn_0 n0 rr s) (s := sr M 47 r) e, a3⟩
theorem starves_r {n : Nat} {M : Mem} {B : Int → Int} {rr : Int} {r S : Nat → Int} (hn : 20 ≤ n) (hL : 0 ≤ M 46 1 ∧ M 46 1 ≤ 4) (hB : OkB B) (h0 : 0 ≤ rr) (h1 : rr < 4) (h : PgR r (M 46 1).toNat S B) (hS : OkS S) : ∃ r', f_X6_starvesIn n rr (sr M 47 r) = some ((fhS B (M 48 rr.toNat) (8 - S 15).toNat S).1, sr M 47 r') ∧ ∀ k, k < 100 → r' k = r k := by
  have h15 : 0 ≤ S 15 ∧ S 15 ≤ 8 := by unfold OkS at hS; omega
  exact starves_lp (n0 := n) (by omega) hL hB h0 h1 (8 - S 15).toNat n r S (by omega) (by omega) h hS
theorem tries_lp {n0 : Nat} {M : Mem} {B : Int → Int} {rr y w : Int} (hn0 : 5 ≤ n0) (hL : 0 ≤ M 46 1 ∧ M 46 1 ≤ 4) (hB : OkB B) (h0 : 0 ≤ rr) (h1 : rr < 4) (hy : 0 ≤ y ∧ y ≤ 8) : ∀ (t n : Nat) (i : Int) (r S : Nat → Int), t < n → 0 ≤ i → i + t = y → PgR r (M 46 1).toNat S B → OkS S → ∃ r', lp (fun s => f_X6_ahead_44 n0 rr y w s.1 s.2) n (i, sr M 47 r) = f_X6_ahead_62 n0 w (sr M 47 r') ∧ PgR r' (M 46 1).toNat (rnS B (M 48 rr.toNat) t S) B ∧ ∀ k, k < 100 → r' k = r k := by
  intro t
  induction t with
  | zero =>
    intro n i r S hn hi0 hi h hS
    obtain ⟨m, rfl⟩ : ∃ m, n = m + 1 := ⟨n - 1, by omega⟩
    refine ⟨r, ?_, h, fun _ _ => rfl⟩
    have e : f_X6_ahead_44 n0 rr y w i (sr M 47 r) = (f_X6_ahead_62 n0 w (sr M 47 r)).map Sum.inr := by
      unfold f_X6_ahead_44
      rw [wr_id (x := y) (by omega) (by omega), wr_id (x := i) (by omega) (by omega), if_pos (by omega)]
    exact lp_map (f := fun s => f_X6_ahead_44 n0 rr y w s.1 s.2) (s := (i, sr M 47 r)) e
  | succ t ih =>
    intro n i r S hn hi0 hi h hS
    obtain ⟨m, rfl⟩ : ∃ m, n = m + 1 := ⟨n - 1, by omega⟩
    have h15 : 0 ≤ S 15 ∧ S 15 ≤ 8 := by unfold OkS at hS; omega
    by_cases hov : 8 ≤ S 15
    · have e : f_X6_ahead_44 n0 rr y w i (sr M 47 r) = some (.inl (i + 1, sr M 47 r)) := by
        unfold f_X6_ahead_44
        rw [wr_id (x := y) (by omega) (by omega), wr_id (x := i) (by omega) (by omega), if_neg (by omega), try0 h (by omega)]
        rfl
      obtain ⟨r', b1, b2, b3⟩ := ih m (i + 1) r S (by omega) (by omega) (by omega) h hS
      refine ⟨r', ?_, ?_, b3⟩
      · rw [lp_succ (f := fun s => f_X6_ahead_44 n0 rr y w s.1 s.2) (s := (i, sr M 47 r)) e]; exact b1
      · have q1 : rnS B (M 48 rr.toNat) (t + 1) S = S := by rw [rnS, if_pos hov]
        have q2 : rnS B (M 48 rr.toNat) t S = S := by cases t with | zero => rfl | succ t => rw [rnS, if_pos hov]
        rw [q1]; rw [q2] at b2; exact b2
    · obtain ⟨r1, a1, a2, a3⟩ := try1 hn0 hL h hS hB h0 h1 (by omega)
      have e : f_X6_ahead_44 n0 rr y w i (sr M 47 r) = some (.inl (i + 1, sr M 47 r1)) := by
        unfold f_X6_ahead_44
        rw [wr_id (x := y) (by omega) (by omega), wr_id (x := i) (by omega) (by omega), if_neg (by omega), a1]
        rfl
      obtain ⟨r', b1, b2, b3⟩ := ih m (i + 1) r1 _ (by omega) (by omega) (by omega) a2 (OkS_hm hS hB (bt_F _ _) (by omega))
      refine ⟨r', ?_, ?_, fun k hk => (b3 k hk).trans (a3 k hk)⟩
      · rw [lp_succ (f := fun s => f_X6_ahead_44 n0 rr y w s.1 s.2) (s := (i, sr M 47 r)) e]; exact b1
      · rw [rnS, if_neg hov]; exact b2
theorem bOr0 {x : Int} (h : wr x = x) : bOr x 0 = x := by
  unfold bOr
  rw [show Int32.ofInt 0 = 0 from rfl, Int32.or_zero]
  exact h
theorem wr_bOr (x y : Int) : wr (bOr x y) = bOr x y := by
  unfold bOr wr; rw [Int32.ofInt_toInt]
theorem canBe_r {M : Mem} {rr : Int} (h0 : 0 ≤ rr) (h1 : rr < 4) : f_X6_canBe rr M = some (cbS (vw (M 47) 0) (M 48 rr.toNat)) := by
  unfold f_X6_canBe cbS
  rw [rd_id h0 (by omega) (by omega), Option.bind_some, ite_some, vw_15, vw_16]
theorem pbS_wr (S R : Nat → Int) : ∀ i, wr (pbS S R i) = pbS S R i
  | 0 => wr_0
  | i + 1 => by rw [pbS]; split; exact pbS_wr S R i; exact wr_bOr _ _
theorem canNow_r {n : Nat} {M : Mem} (hn : 5 ≤ n) (h : 0 ≤ M 46 3 ∧ M 46 3 ≤ 4) : f_X6_canNow n M = some (pbS (vw (M 47) 0) (M 48) (M 46 3).toNat) := by
  unfold f_X6_canNow
  refine lp_run0 (fun i => (pbS (vw (M 47) 0) (M 48) i, (i : Int))) (M 46 3).toNat (by omega) (fun i hi => ?_) ?_
  · show f_X6_canNow_4 n (pbS (vw (M 47) 0) (M 48) i) (i : Int) M = some (Sum.inl (pbS (vw (M 47) 0) (M 48) (i + 1), (i : Int) + 1))
    unfold f_X6_canNow_4 f_X6_canNow_28
    rw [wr_id (by omega) (by omega), wr_id (by omega) (by omega), if_neg (by omega), canBe_r (by omega) (by omega), Option.bind_some, Int.toNat_natCast, wr_F (cbS_F _ _), pbS, bOr0 (pbS_wr _ _ _)]
    split <;> rfl
  · show f_X6_canNow_4 n (pbS (vw (M 47) 0) (M 48) _) ((M 46 3).toNat : Int) M = _
    unfold f_X6_canNow_4
    rw [wr_id (by omega) (by omega), wr_id (by omega) (by omega), if_pos (by omega)]
theorem tlS_wr (R : Nat → Int) (A y f : Int) : ∀ i, wr (tlS R A y f i) = tlS R A y f i
  | 0 => wr_0
  | i + 1 => by rw [tlS]; split; exact wr_bOr _ _; exact tlS_wr R A y f i
theorem areSo_r {n : Nat} {M : Mem} {A y f : Int} (hn : 5 ≤ n) (h : 0 ≤ M 46 3 ∧ M 46 3 ≤ 4) (hf : isF f) : f_X6_areSo n A y f M = some (tlS (M 48) A y f (M 46 3).toNat) := by
  unfold f_X6_areSo
  refine lp_run0 (fun i => (tlS (M 48) A y f i, (i : Int))) (M 46 3).toNat (by omega) (fun i hi => ?_) ?_
  · show f_X6_areSo_6 n A y f (tlS (M 48) A y f i) (i : Int) M = some (Sum.inl (tlS (M 48) A y f (i + 1), (i : Int) + 1))
    unfold f_X6_areSo_6 f_X6_areSo_49 f_X6_areSo_50
    rw [wr_id (by omega) (by omega), wr_id (by omega) (by omega), if_neg (by omega), rd_id (by omega) (by omega) (by omega), Option.bind_some, Int.toNat_natCast, tlS, bOr0 (tlS_wr _ _ _ _ _), wr_F hf]
    show (if wr (bt A i) = 1 then (if wr (bt (M 48 i) y) = f then _ else _) else _) = _
    rw [wr_bt, wr_bt]
    by_cases ha : bt A i = 1
    · rw [if_pos ha]
      by_cases hb : bt (M 48 i) y = f
      · rw [if_pos hb, if_pos ⟨ha, hb⟩]
      · rw [if_neg hb, if_neg (fun q => hb q.2)]
    · rw [if_neg ha, if_neg (fun q => ha q.1)]
  · show f_X6_areSo_6 n A y f (tlS (M 48) A y f _) ((M 46 3).toNat : Int) M = _
    unfold f_X6_areSo_6
    rw [wr_id (by omega) (by omega), wr_id (by omega) (by omega), if_pos (by omega)]
theorem oddsOf_r {n : Nat} {M : Mem} {A : Int} (hn : 5 ≤ n) (h : 0 ≤ M 46 3 ∧ M 46 3 ≤ 4) (hO : ∀ i, i < (M 46 3).toNat → rg (M 47 (8 + i))) : f_X6_oddsOf n A M = some (odS (fun i => M 47 (8 + i)) A (M 46 3).toNat) := by
  unfold f_X6_oddsOf
  refine lp_run0 (fun i => (odS (fun i => M 47 (8 + i)) A i, (i : Int))) (M 46 3).toNat (by omega) (fun i hi => ?_) ?_
  · show f_X6_oddsOf_5 n A (odS (fun i => M 47 (8 + i)) A i) (i : Int) M = some (Sum.inl (odS (fun i => M 47 (8 + i)) A (i + 1), (i : Int) + 1))
    unfold f_X6_oddsOf_5 f_X6_oddsOf_40
    rw [wr_id (by omega) (by omega), wr_id (by omega) (by omega), if_neg (by omega), rdp (p := 8) (k := i) (by omega) (by omega), Option.bind_some, odS, wr_rg (hO i hi), Int.add_zero]
    show (if wr (bt A i) = 1 then _ else _) = _
    rw [wr_bt]
    split <;> rfl
  · show f_X6_oddsOf_5 n A (odS (fun i => M 47 (8 + i)) A _) ((M 46 3).toNat : Int) M = _
    unfold f_X6_oddsOf_5
    rw [wr_id (by omega) (by omega), wr_id (by omega) (by omega), if_pos (by omega)]
