/-! what was seen: the reference -/
theorem agreer_lp {n0 : Nat} {M X : Mem} {rr hd s : Int} {y : Nat} (h : Rel M) (h22 : X 46 22 = M 46 22) (h55 : X 55 = M 55) (h116 : X 47 116 = s) (hs : rg s) (hy : y ≤ 8) : ∀ (t n i : Nat) (b : Bool), t < n → i + t = (M 22 2).toNat → lp (fun q => f_X6_isAsSeen_106 n0 rr hd q.1 (y : Int) q.2 X) n ((if b then 1 else 0 : Int), (i : Int)) = some (.inl ((if b && allB (fun i => !decide (M 23 i = (y : Int)) || decide (M 24 i = s)) i t then 1 else 0 : Int), (y : Int) + 1, X)) := by
  obtain ⟨k1, k2, k3⟩ := h.2.2.1
  intro t
  induction t with
  | zero =>
    intro n i b hn hi
    obtain ⟨m, rfl⟩ : ∃ m, n = m + 1 := ⟨n - 1, by omega⟩
    refine lp_end (s := ((if b then 1 else 0 : Int), (i : Int))) ?_
    show f_X6_isAsSeen_106 n0 rr hd (if b then 1 else 0) (y : Int) (i : Int) X = _
    unfold f_X6_isAsSeen_106 f_X6_isAsSeen_168
    rw [h22, k2, wr_id (by omega) (by omega), wr_id (by omega) (by omega), if_pos (by omega), allB, Bool.and_true]
    rfl
  | succ t ih =>
    intro n i b hn hi
    obtain ⟨m, rfl⟩ : ∃ m, n = m + 1 := ⟨n - 1, by omega⟩
    obtain ⟨a1, a2, a3, a4⟩ := k3 i (by omega)
    have e : f_X6_isAsSeen_106 n0 rr hd (if b then 1 else 0) (y : Int) (i : Int) X = some (.inl ((if b && (!decide (M 23 i = (y : Int)) || decide (M 24 i = s)) then 1 else 0 : Int), (i : Int) + 1)) := by
      unfold f_X6_isAsSeen_106 f_X6_isAsSeen_159 f_X6_isAsSeen_155 f_X6_isAsSeen_160
      rw [h22, k2, wr_id (x := M 22 2) (by omega) (by omega), wr_id (x := (i : Int)) (by omega) (by omega), if_neg (by omega)]
      cases b with
      | false => simp [wr_0]
      | true =>
        rw [if_pos rfl, if_neg w1n0, rd_id (by omega) (by omega) (by omega), Option.bind_some, rd_id (by omega) (by omega) (by omega), Option.bind_some, h55, h116, show (2 * (i : Int)).toNat = 2 * i by omega, show (2 * (i : Int) + 1).toNat = 2 * i + 1 by omega, a1, a2, wr_rg a3, wr_rg a4, wr_rg hs, wr_id (x := (y : Int)) (by omega) (by omega)]
        by_cases q1 : M 23 i = (y : Int)
        · by_cases q2 : M 24 i = s
          · simp [q1, q2]
          · simp [q1, q2]
        · simp [q1]
    rw [lp_succ (f := fun q => f_X6_isAsSeen_106 n0 rr hd q.1 (y : Int) q.2 X) (s := ((if b then 1 else 0 : Int), (i : Int))) e, allB, ← Bool.and_assoc]
    exact ih m (i + 1) (b && (!decide (M 23 i = (y : Int)) || decide (M 24 i = s))) (by omega) (by omega)
theorem PgR_116 {r : Nat → Int} {L : Nat} {S : Nat → Int} {B : Int → Int} (hL : L ≤ 4) (h : PgR r L S B) (w : Int) : PgR (fun j => if j = 116 then w else r j) L (fun i => if i = 10 then w else S i) B := by
  refine ⟨fun k h1 h2 => ?_, fun f hf => (Bp_cong (r := fun j => if j = 116 then w else r j) (r' := r) hL (fun k h1 h2 => ?_) f hf).trans (h.2 f hf)⟩
  · have e := h.1 k h1 h2
    by_cases k10 : k = 10
    · subst k10; rw [vw_10]; simp
    · dsimp only
      rw [if_neg k10, ← e]
      unfold vw
      by_cases k8 : k = 8
      · simp [k8]
      · by_cases k11 : k = 11
        · simp [k11]
        · by_cases k12 : k = 12
          · simp [k12]
          · rw [if_neg k8, if_neg k11, if_neg k12, if_neg k8, if_neg k11, if_neg k12]; dsimp only; rw [if_neg (by omega)]
  · rw [if_neg (by omega)]
theorem seenr_lp {n0 : Nat} {M N : Mem} {rr hd : Int} (hn0 : 1000 ≤ n0) (h : Rel M) (hN : TrOff M N) (h0 : 0 ≤ rr) (h1 : rr < M 3 5) (hh : 0 ≤ hd ∧ hd ≤ 9) : ∀ (t n y : Nat) (b : Bool) (r S : Nat → Int), t < n → y + t = 9 → 1 ≤ y → PgR r (M 46 1).toNat S (B2 M 3) → OkS S → ∃ r', lp (fun s => f_X6_isAsSeen_29 n0 rr hd s.1 s.2.1 s.2.2) n ((if b then 1 else 0 : Int), (y : Int), sr N 47 r) = some (if b && asS M (B2 M 3) (M 6 rr.toNat) hd t y S then 1 else 0, sr N 47 r') ∧ ∀ k, k < 100 → r' k = r k := by
  obtain ⟨c1, c2, c3, c4, ok, okb, rw0, rb⟩ := Rel_c h
  have e46 : N 46 = M 46 := hN 46 (by decide)
  have e48 : N 48 rr.toNat = M 6 rr.toNat := by rw [hN 48 (by decide)]; exact rows_of h _ (by omega)
  have hL4 : (M 46 1).toNat ≤ 4 := by rw [c3]; omega
  have hk := h.2.2.1.1
  intro t
  induction t with
  | zero =>
    intro n y b r S hn hy hy1 hP hS
    obtain ⟨m, rfl⟩ : ∃ m, n = m + 1 := ⟨n - 1, by omega⟩
    refine ⟨r, lp_end (s := ((if b then 1 else 0 : Int), (y : Int), sr N 47 r)) ?_, fun _ _ => rfl⟩
    show f_X6_isAsSeen_29 n0 rr hd (if b then 1 else 0) (y : Int) (sr N 47 r) = _
    unfold f_X6_isAsSeen_29
    rw [wr_id (by omega) (by omega), if_pos (by omega), bz_bi, Option.bind_some, asS, Bool.and_true]
  | succ t ih =>
    intro n y b r S hn hy hy1 hP hS
    obtain ⟨m, rfl⟩ : ∃ m, n = m + 1 := ⟨n - 1, by omega⟩
    have h15 : 0 ≤ S 15 ∧ S 15 ≤ 8 := by unfold OkS at hS; omega
    have h10 : 0 ≤ S 10 ∧ S 10 ≤ 40 := by unfold OkS at hS; omega
    obtain ⟨p116, -, -, p121⟩ := PgR_at hP
    have hO := hdS_ok (row := M 6 rr.toNat) hS okb hh
    have hs10 : 0 ≤ hdS (B2 M 3) (M 6 rr.toNat) hd S 10 ∧ hdS (B2 M 3) (M 6 rr.toNat) hd S 10 ≤ 40 := by unfold OkS at hO; omega
    have key : ∃ r1, f_X6_isAsSeen_29 n0 rr hd (if b then 1 else 0) (y : Int) (sr N 47 r) = lp (fun q => f_X6_isAsSeen_106 n0 rr hd q.1 (y : Int) q.2 (sr N 47 r1)) n0 ((if b then 1 else 0 : Int), (0 : Int)) ∧ PgR r1 (M 46 1).toNat (hdS (B2 M 3) (M 6 rr.toNat) hd S) (B2 M 3) ∧ ∀ k, k < 100 → r1 k = r k := by
      by_cases ho : 8 ≤ S 15
      · refine ⟨r, ?_, by unfold hdS; rw [if_pos ho]; exact hP, fun _ _ => rfl⟩
        have e8 : S 15 = 8 := by omega
        unfold f_X6_isAsSeen_29 f_X6_isAsSeen_53 f_X6_isAsSeen_102
        rw [wr_id (x := (y : Int)) (by omega) (by omega), if_neg (by omega), sr_same, p121, wr_id (x := S 15) (by omega) (by omega), if_pos ho, try0 hP e8, Option.bind_some]
        dsimp only
        rw [if_pos wr_0, sr_same, wt_id (by decide) (by decide) (by decide), Option.bind_some, show ((116 : Int).toNat) = 116 from rfl, st47]
        have : (fun j => if j = 116 then r 116 else r j) = r := by funext j; split <;> simp_all
        rw [this]
      · have hf := bt_F (M 6 rr.toNat) (S 15)
        have hm := OkS_hm (B := B2 M 3) hS okb hf (by omega)
        have hm10 : 0 ≤ hmS S (B2 M 3) (bt (M 6 rr.toNat) (S 15)) 10 ∧ hmS S (B2 M 3) (bt (M 6 rr.toNat) (S 15)) 10 ≤ 40 := by unfold OkS at hm; omega
        obtain ⟨r1, a1, a2, a3⟩ := try1 (n := n0) (M := N) (rr := rr) (by omega) (by rw [e46, c3]; exact c1) (by rw [e46]; exact hP) hS okb h0 (by omega) (by omega)
        rw [e48] at a1 a2
        rw [e46] at a2
        have q116 := (PgR_at a2).1
        have a4 := PgR_116 hL4 a2 (max 0 (hmS S (B2 M 3) (bt (M 6 rr.toNat) (S 15)) 10 - hd))
        refine ⟨fun j => if j = 116 then max 0 (hmS S (B2 M 3) (bt (M 6 rr.toNat) (S 15)) 10 - hd) else r1 j, ?_, by unfold hdS; rw [if_neg ho]; exact a4, fun k hk => by dsimp only; rw [if_neg (by omega), a3 k hk]⟩
        unfold f_X6_isAsSeen_29 f_X6_isAsSeen_53 f_X6_isAsSeen_102
        rw [wr_id (x := (y : Int)) (by omega) (by omega), if_neg (by omega), sr_same, p121, wr_id (x := S 15) (by omega) (by omega), if_neg ho, a1, Option.bind_some]
        dsimp only
        rw [if_neg w1n0, sr_same, q116, wr_id (x := hd) (by omega) (by omega), wr_id (x := hmS S (B2 M 3) (bt (M 6 rr.toNat) (S 15)) 10) (by omega) (by omega), wt_id (by decide) (by decide) (by decide), Option.bind_some, wt_id (by decide) (by decide) (by decide), Option.bind_some, show ((116 : Int).toNat) = 116 from rfl, st47, st47]
        split
        · rw [show max 0 (hmS S (B2 M 3) (bt (M 6 rr.toNat) (S 15)) 10 - hd) = 0 by omega]
        · rw [show max 0 (hmS S (B2 M 3) (bt (M 6 rr.toNat) (S 15)) 10 - hd) = hmS S (B2 M 3) (bt (M 6 rr.toNat) (S 15)) 10 - hd by omega]
    obtain ⟨r1, e1, P1, k1⟩ := key
    have s116 := (PgR_at P1).1
    have A := agreer_lp (n0 := n0) (X := sr N 47 r1) (rr := rr) (hd := hd) (s := hdS (B2 M 3) (M 6 rr.toNat) hd S 10) (y := y) h (by rw [sr_ne _ _ (by decide), e46]) (by rw [sr_ne _ _ (by decide), hN 55 (by decide)]) (by rw [sr_same]; exact s116) (by unfold rg; omega) (by omega) (M 22 2).toNat n0 0 b (by omega) (by omega)
    replace e1 := e1.trans A
    obtain ⟨r', b1, b2⟩ := ih m (y + 1) (b && agB M (y : Int) (hdS (B2 M 3) (M 6 rr.toNat) hd S 10)) r1 _ (by omega) (by omega) (by omega) P1 hO
    refine ⟨r', ?_, fun k hk => (b2 k hk).trans (k1 k hk)⟩
    rw [lp_succ (f := fun s => f_X6_isAsSeen_29 n0 rr hd s.1 s.2.1 s.2.2) (s := ((if b then 1 else 0 : Int), (y : Int), sr N 47 r)) e1, asS, ← Bool.and_assoc]
    exact b1
theorem PgR_kv {r : Nat → Int} {L : Nat} {S : Nat → Int} {B : Int → Int} (hL : L ≤ 4) (h : PgR r L S B) (k v : Int) : PgR (fun j => if j = 120 then v else if j = 119 then k else r j) L (sdS S k v (S 8) (S 10)) B := by
  refine ⟨fun i h1 h2 => ?_, fun f hf => (Bp_cong (r := fun j => if j = 120 then v else if j = 119 then k else r j) (r' := r) hL (fun k h1 h2 => ?_) f hf).trans (h.2 f hf)⟩
  · have e := h.1 i h1 h2
    unfold sdS
    by_cases i13 : i = 13
    · subst i13; rw [vw_13]; simp
    · by_cases i14 : i = 14
      · subst i14; rw [vw_14]; simp
      · rw [if_neg i13, if_neg i14]
        have e2 : (if i = 8 then S 8 else if i = 10 then S 10 else S i) = S i := by split; simp_all; split <;> simp_all
        rw [e2, ← e]
        unfold vw
        by_cases k8 : i = 8
        · simp [k8]
        · by_cases k11 : i = 11
          · simp [k11]
          · by_cases k12 : i = 12
            · simp [k12]
            · rw [if_neg k8, if_neg k11, if_neg k12, if_neg k8, if_neg k11, if_neg k12]; dsimp only; rw [if_neg (by omega), if_neg (by omega)]
  · rw [if_neg (by omega), if_neg (by omega)]
theorem seen_r {n : Nat} {M N : Mem} {r : Nat → Int} {rr k v hd : Int} (hn : 1000 ≤ n) (h : Rel M) (hN : TrOff M N) (hr : ∀ i, i < 75 → r i = M 47 i) (h0 : 0 ≤ rr) (h1 : rr < M 3 5) (hk : 0 ≤ k ∧ k ≤ 4) (hv : 0 ≤ v ∧ v ≤ 9) (hh : 0 ≤ hd ∧ hd ≤ 9) : ∃ r', f_X6_isAsSeen n rr k v hd (sr N 47 r) = some (if okN M rr k v hd then 1 else 0, sr N 47 r') ∧ ∀ i, i < 75 → r' i = M 47 i := by
  obtain ⟨c1, c2, c3, c4, ok, okb, rw0, rb⟩ := Rel_c h
  have hL4 : (M 46 1).toNat ≤ 4 := by rw [c3]; omega
  have h8 : 0 ≤ M 3 8 ∧ M 3 8 ≤ 40 := by unfold OkS at ok; omega
  have h10 : 0 ≤ M 3 10 ∧ M 3 10 ≤ 40 := by unfold OkS at ok; omega
  have P0 : PgR (cr r 0 100 25) (M 46 1).toNat (M 3) (B2 M 3) := by
    have e0 := vw_off (r := M 47) (r' := r) (p := 0) (fun k h1 h2 => hr k (by omega))
    exact ⟨Rw.trans (vw_cr _ 0 100) (Rw.trans e0 rw0), fun f hf => ((Bp_cr hL4 f hf).trans (Bp_cong hL4 (fun k h1 h2 => hr k (by omega)) f hf)).trans (rb f hf)⟩
  obtain ⟨r', b1, b2⟩ := seenr_lp (n0 := n) (N := N) hn h hN h0 h1 hh 8 n 1 true _ _ (by omega) (by omega) (by omega) (PgR_kv hL4 P0 k v) (sdS_ok ok hk hv h8 h10)
  refine ⟨r', ?_, fun i hi => ?_⟩
  · unfold f_X6_isAsSeen okN
    rw [show (100 : Int) = ((100 : Nat) : Int) from rfl, copies0 (by omega) (by decide), Option.bind_some, sr_same, sr_sr, Option.bind_some, Option.bind_some, st47, st47]
    exact b1
  · rw [b2 i (by omega), if_neg (by omega), if_neg (by omega), cr_o (by omega), hr i hi]
