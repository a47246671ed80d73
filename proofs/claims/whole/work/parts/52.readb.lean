/-! read: the reference, and the call -/
def cfl (M : Mem) (k : Nat) (l c : Int) (i : Nat) : Int := if M (38 + 2 * k) 1 < 0 then 1 else if M (38 + 2 * k) 2 = l then (if 0 ≤ c + i ∧ c + i ≤ M (38 + 2 * k) 1 - 1 then 0 else 2) else 3
theorem cfl_rg (M : Mem) (k : Nat) (l c : Int) (y : Nat) : rg (cfl M k l c y) := by
  unfold cfl rg; split
  · omega
  · split
    · split <;> omega
    · omega
theorem flt_cf (M : Mem) (k : Nat) (l c : Int) (y : Nat) (hy : y = 0 ∨ 0 ≤ c) : flt M k l c y = if cfl M k l c (2 * y) = 0 then cfl M k l c (2 * y + 1) else cfl M k l c (2 * y) := by
  unfold flt cfl
  by_cases a : M (38 + 2 * k) 1 < 0
  · simp only [if_pos a]; rfl
  · simp only [if_neg a]
    by_cases b : M (38 + 2 * k) 2 = l
    · simp only [if_pos b]
      by_cases d : 0 ≤ c + ((2 * y : Nat) : Int) ∧ c + ((2 * y : Nat) : Int) ≤ M (38 + 2 * k) 1 - 1
      · rw [if_pos d, if_pos rfl]
        by_cases f : 0 ≤ c ∧ c + 2 * (y : Int) + 1 ≤ M (38 + 2 * k) 1 - 1
        · rw [if_pos f, if_pos (by omega)]
        · rw [if_neg f, if_neg (by omega)]
      · rw [if_neg d, if_neg (show ¬ (0 ≤ c ∧ c + 2 * (y : Int) + 1 ≤ M (38 + 2 * k) 1 - 1) by omega), if_neg (by decide)]
    · simp only [if_neg b]; rfl
theorem in_w {x hi : Int} {M : Mem} (hx : -4294967296 ≤ x ∧ x ≤ 4294967296) (hhi : rg hi) : f_X6_in x 0 hi M = some (if 0 ≤ x ∧ x ≤ hi then 1 else 0) := by
  unfold f_X6_in
  unfold rg at hhi
  rw [wl_id (by omega) (by omega), wl_id (by omega) (by omega), wl_id (by omega) (by omega)]
  by_cases h1 : x < 0
  · rw [if_pos h1, if_neg (by omega)]
  · rw [if_neg h1]
    by_cases h2 : hi < x
    · rw [if_pos h2, if_neg (by omega)]
    · rw [if_neg h2, if_pos (by omega)]
theorem cell_r {n0 T i k : Nat} {M X : Mem} {l c w : Int} (h : ShOk M k) (hk : k < 4) (hX : X 57 = M 57 ∧ X 58 = M 58) (hl : rg l) (hc : rg c) (hi : i < 2 * T) (hT : T ≤ 20) : f_X6_read_55 n0 (k : Int) l c (T : Int) 0 w (i : Int) X = f_X6_read_125 n0 (k : Int) l c (T : Int) w (i : Int) (cfl M k l c i) X := by
  unfold f_X6_read_55 cfl
  rw [wr_id (x := 2 * (T : Int)) (by omega) (by omega), wr_id (x := (i : Int)) (by omega) (by omega), if_neg (by omega), if_pos wr_0, rd_id (by omega) (by omega) (by omega), Option.bind_some, Option.bind_some, Int.toNat_natCast, hX.1]
  rcases h.1 with ⟨q1, q2⟩ | ⟨q1, q2, q3, q4⟩
  · rw [q1, q2, wr_id (x := -4) (by decide) (by decide), if_pos rfl, if_pos (by decide)]
  · rw [q4, wr_id (x := M (38 + 2 * k) 2) (by omega) (by omega), if_neg (by omega), wr_rg hl, if_neg (show ¬ (M (38 + 2 * k) 1 < 0) by omega)]
    by_cases g : M (38 + 2 * k) 2 = l
    · rw [if_pos g, if_pos g, rd_id (by omega) (by omega) (by omega), Option.bind_some, Int.toNat_natCast, hX.2, q2, wr_id (x := M (38 + 2 * k) 1 - 1) (by omega) (by omega), wr_rg hc, in_w (by unfold rg at hc; omega) (rgl _), Option.bind_some, ifbi]
      split <;> rfl
    · rw [if_neg g, if_neg g]
/-- the reference's row while it reads -/
def RdI (M : Mem) (r : Nat → Int) : Prop := (∀ k, k < 12 ∨ (25 ≤ k ∧ k < 75) → r k = M 47 k) ∧ ∀ k, k < 25 → r (75 + k) = M 47 k
theorem read_r {n0 T : Nat} {M N : Mem} {k : Nat} {l c : Int} (hn0 : 1000 ≤ n0) (h : Rel M) (hk : k < 4) (hN : ∀ a, 12 < a → N a = M a) (hl : rg l) (hc : rg c) (hT : T ≤ 20) : ∀ (t n y : Nat) (r S : Nat → Int), 2 * t + 1 < n → y + t = T → (y = 0 ∨ (0 ≤ c ∧ c ≤ 40)) → InvS M S → PgZ r (M 46 1).toNat S (B2 M 3) → RdI M r → ∃ r', lp (fun s => f_X6_read_55 n0 (k : Int) l c (T : Int) s.1 s.2.1 s.2.2.1 s.2.2.2) n (0, (y : Int), ((2 * y : Nat) : Int), sr N 47 r) = some ((rdS (B2 M 3) (flt M k l c) (clS M k c) t y S).2, match (rdS (B2 M 3) (flt M k l c) (clS M k c) t y S).1 with | some p => st (sr N 47 r') 46 27 p.1 | none => sr N 47 r') ∧ (∀ p, (rdS (B2 M 3) (flt M k l c) (clS M k c) t y S).1 = some p → PgZ r' (M 46 1).toNat p.2 (B2 M 3) ∧ RdI M r') ∧ ((rdS (B2 M 3) (flt M k l c) (clS M k c) t y S).1 = none → ∀ k, k < 75 → r' k = M 47 k) := by
  obtain ⟨c1, c2, c3, c4, ok, okb, rw0, rb⟩ := Rel_c h
  have sh := h.2.2.2.2.1.1 k hk
  have e46 : N 46 = M 46 := hN 46 (by decide)
  have X57 : ∀ r, sr N 47 r 57 = M 57 ∧ sr N 47 r 58 = M 58 := fun r => ⟨by rw [sr_ne _ _ (by decide), hN 57 (by decide)], by rw [sr_ne _ _ (by decide), hN 58 (by decide)]⟩
  have fin : ∀ (f : Int) (y : Int) (X : Mem), f_X6_read_196 n0 f y X = some (y, st X 46 27 f) := fun f y X => rfl
  -- a fault ends the reading
  have stop : ∀ (m i : Nat) (y f : Int) (X : Mem), rg f → f ≠ 0 → 0 < m → lp (fun s => f_X6_read_55 n0 (k : Int) l c (T : Int) s.1 s.2.1 s.2.2.1 s.2.2.2) m (f, y, (i : Int), X) = some (y, st X 46 27 f) := by
    intro m i y f X hf hf0 hm
    obtain ⟨m', rfl⟩ : ∃ m', m = m' + 1 := ⟨m - 1, by omega⟩
    refine lp_map (f := fun s => f_X6_read_55 n0 (k : Int) l c (T : Int) s.1 s.2.1 s.2.2.1 s.2.2.2) (s := (f, y, (i : Int), X)) ?_
    show f_X6_read_55 n0 (k : Int) l c (T : Int) f y (i : Int) X = _
    unfold f_X6_read_55
    rw [wr_rg hf, if_neg hf0, ite_self, fin]
  intro t
  induction t with
  | zero =>
    intro n y r S hn hy hcy hS hP hR
    obtain ⟨m, rfl⟩ : ∃ m, n = m + 1 := ⟨n - 1, by omega⟩
    refine ⟨r, ?_, fun p hp => ?_, fun hp => by cases hp⟩
    · show _ = some ((y : Int), st (sr N 47 r) 46 27 0)
      refine lp_map (f := fun s => f_X6_read_55 n0 (k : Int) l c (T : Int) s.1 s.2.1 s.2.2.1 s.2.2.2) (s := (0, (y : Int), ((2 * y : Nat) : Int), sr N 47 r)) ?_
      show f_X6_read_55 n0 (k : Int) l c (T : Int) 0 (y : Int) ((2 * y : Nat) : Int) (sr N 47 r) = _
      unfold f_X6_read_55
      rw [wr_id (by omega) (by omega), wr_id (by omega) (by omega), if_pos (by omega), fin]
    · have : (0, S) = p := Option.some.inj hp
      rw [← this]; exact ⟨hP, hR⟩
  | succ t ih =>
    intro n y r S hn hy hcy hS hP hR
    obtain ⟨m, rfl⟩ : ∃ m, n = m + 1 := ⟨n - 1, by omega⟩
    have ef := flt_cf M k l c y (by omega)
    have a1 := cell_r (n0 := n0) (T := T) (i := 2 * y) (X := sr N 47 r) (w := (y : Int)) sh hk (X57 r) hl hc (by omega) hT
    have a2 := cell_r (n0 := n0) (T := T) (i := 2 * y + 1) (X := sr N 47 r) (w := (y : Int)) sh hk (X57 r) hl hc (by omega) hT
    rw [rdS]
    by_cases f1 : cfl M k l c (2 * y) = 0
    · rw [if_pos f1] at ef
      have e1 : f_X6_read_55 n0 (k : Int) l c (T : Int) 0 (y : Int) ((2 * y : Nat) : Int) (sr N 47 r) = some (.inl (0, (y : Int), ((2 * y + 1 : Nat) : Int), sr N 47 r)) := by
        rw [a1, f1]
        unfold f_X6_read_125 f_X6_read_190
        rw [if_pos wr_0, wr_id (x := ((2 * y : Nat) : Int)) (by omega) (by omega), wr_2, show (((2 * y : Nat) : Int)).tmod 2 = ((2 * y % 2 : Nat) : Int) from rfl, show 2 * y % 2 = 0 by omega, if_neg (by rw [show ((0 : Nat) : Int) = 0 from rfl, wr_0]; decide)]
        rfl
      by_cases f2 : cfl M k l c (2 * y + 1) = 0
      · rw [f2] at ef
        have hc0 := flt0 sh ef
        have r1 := (sh.2 (c.toNat + 2 * y) (by omega))
        have r2 := (sh.2 (c.toNat + (2 * y + 1)) (by omega))
        obtain ⟨rr, g1, g2, g3⟩ := goes_r (n := n0) (N := N) (r := r) (S := S) (B := B2 M 3) (x := clS M k c (2 * y)) (y := clS M k c (2 * y + 1)) (by omega) (by rw [e46, c3]; exact c1) (by rw [e46]; exact hP) hS.1 okb r1.2 r2.2
        have hpr := ptS_1 (f := clS M k c (2 * y)) (k := clS M k c (2 * y + 1)) hS.1 okb
        have hpi := InvS_pt (B := B2 M 3) (f := clS M k c (2 * y)) (k := clS M k c (2 * y + 1)) hS
        generalize hPt : ptS S (B2 M 3) (clS M k c (2 * y)) (clS M k c (2 * y + 1)) = P at g1 g2 hpr hpi ⊢
        rw [e46] at g2
        have hR' : RdI M rr := ⟨fun i hi => by rw [g3 i (by omega)]; exact hR.1 i hi, fun i hi => by rw [g3 _ (by omega)]; exact hR.2 i hi⟩
        have e2 : f_X6_read_55 n0 (k : Int) l c (T : Int) 0 (y : Int) ((2 * y + 1 : Nat) : Int) (sr N 47 r) = if 0 ≤ P.1 then some (.inl (0, (y : Int) + 1, ((2 * y + 1 : Nat) : Int) + 1, sr N 47 rr)) else (f_X6_read_174 n0 (y : Int) (sr N 47 rr)).map Sum.inr := by
          rw [a2, f2]
          unfold f_X6_read_125 f_X6_read_190
          rw [if_pos wr_0, wr_id (x := ((2 * y + 1 : Nat) : Int)) (by omega) (by omega), wr_2, show (((2 * y + 1 : Nat) : Int)).tmod 2 = (((2 * y + 1) % 2 : Nat) : Int) from rfl, show (2 * y + 1) % 2 = 1 by omega, if_pos (by rw [show ((1 : Nat) : Int) = 1 from rfl, wr_1]), rd_id (by omega) (by omega) (by omega), Option.bind_some, rd_id (by omega) (by omega) (by omega), Option.bind_some, sr_ne _ _ (show (59 : Nat) ≠ 47 by decide), hN 59 (by decide), show (40 * (k : Int) + c + ((2 * y + 1 : Nat) : Int) - 1).toNat = 40 * k + (c.toNat + 2 * y) by omega, show (40 * (k : Int) + c + ((2 * y + 1 : Nat) : Int)).toNat = 40 * k + (c.toNat + (2 * y + 1)) by omega, r1.1, r2.1]
          show (f_X6_goes n0 (clS M k c (2 * y)) (clS M k c (2 * y + 1)) (sr N 47 r)).bind _ = _
          rw [g1, Option.bind_some]
          dsimp only
          rw [wr_rg hpr]
        rw [ef, if_pos rfl, lp_succ (f := fun s => f_X6_read_55 n0 (k : Int) l c (T : Int) s.1 s.2.1 s.2.2.1 s.2.2.2) (s := (0, (y : Int), ((2 * y : Nat) : Int), sr N 47 r)) e1]
        obtain ⟨m', rfl⟩ : ∃ m', m = m' + 1 := ⟨m - 1, by omega⟩
        by_cases q2 : 0 ≤ P.1
        · rw [if_pos q2] at e2 ⊢
          obtain ⟨r', b1, b2, b3⟩ := ih m' (y + 1) rr P.2 (by omega) (by omega) (by omega) hpi g2 hR'
          refine ⟨r', ?_, b2, b3⟩
          rw [lp_succ (f := fun s => f_X6_read_55 n0 (k : Int) l c (T : Int) s.1 s.2.1 s.2.2.1 s.2.2.2) (s := (0, (y : Int), ((2 * y + 1 : Nat) : Int), sr N 47 r)) e2]
          rw [show ((2 * (y + 1) : Nat) : Int) = ((2 * y + 1 : Nat) : Int) + 1 by omega] at b1
          exact b1
        · rw [if_neg q2] at e2 ⊢
          have hcp := copies_r (n := n0) (a := 75) (b := 0) (M := sr N 47 rr) (by omega) (by decide) (by decide) (by decide)
          rw [sr_same, sr_sr] at hcp
          refine ⟨cr rr 75 0 25, ?_, fun p hp => (by cases hp), fun _ i hi => ?_⟩
          · refine (lp_map (f := fun s => f_X6_read_55 n0 (k : Int) l c (T : Int) s.1 s.2.1 s.2.2.1 s.2.2.2) (s := (0, (y : Int), ((2 * y + 1 : Nat) : Int), sr N 47 r)) e2).trans ?_
            unfold f_X6_read_174
            rw [show (75 : Int) = ((75 : Nat) : Int) from rfl, show (0 : Int) = ((0 : Nat) : Int) from rfl, hcp, Option.bind_some]
          · by_cases q : i < 25
            · have := cr_in (r := rr) (a := 75) (b := 0) (k := i) q
              rw [Nat.zero_add] at this
              rw [this, hR'.2 i q]
            · rw [cr_o (by omega), hR'.1 i (by omega)]
      · have e2 : f_X6_read_55 n0 (k : Int) l c (T : Int) 0 (y : Int) ((2 * y + 1 : Nat) : Int) (sr N 47 r) = some (.inl (cfl M k l c (2 * y + 1), (y : Int), ((2 * y + 2 : Nat) : Int), sr N 47 r)) := by
          rw [a2]
          unfold f_X6_read_125 f_X6_read_190
          rw [wr_rg (cfl_rg _ _ _ _ _), if_neg f2]
          rfl
        rw [ef, if_neg f2, lp_succ (f := fun s => f_X6_read_55 n0 (k : Int) l c (T : Int) s.1 s.2.1 s.2.2.1 s.2.2.2) (s := (0, (y : Int), ((2 * y : Nat) : Int), sr N 47 r)) e1]
        obtain ⟨m', rfl⟩ : ∃ m', m = m' + 1 := ⟨m - 1, by omega⟩
        rw [lp_succ (f := fun s => f_X6_read_55 n0 (k : Int) l c (T : Int) s.1 s.2.1 s.2.2.1 s.2.2.2) (s := (0, (y : Int), ((2 * y + 1 : Nat) : Int), sr N 47 r)) e2]
        refine ⟨r, stop m' (2 * y + 2) (y : Int) _ _ (cfl_rg _ _ _ _ _) f2 (by omega), fun p hp => ?_, fun hp => by cases hp⟩
        have : (cfl M k l c (2 * y + 1), S) = p := Option.some.inj hp
        rw [← this]; exact ⟨hP, hR⟩
    · rw [if_neg f1] at ef
      have e1 : f_X6_read_55 n0 (k : Int) l c (T : Int) 0 (y : Int) ((2 * y : Nat) : Int) (sr N 47 r) = some (.inl (cfl M k l c (2 * y), (y : Int), ((2 * y + 1 : Nat) : Int), sr N 47 r)) := by
        rw [a1]
        unfold f_X6_read_125 f_X6_read_190
        rw [wr_rg (cfl_rg _ _ _ _ _), if_neg f1]
        rfl
      rw [ef, if_neg f1, lp_succ (f := fun s => f_X6_read_55 n0 (k : Int) l c (T : Int) s.1 s.2.1 s.2.2.1 s.2.2.2) (s := (0, (y : Int), ((2 * y : Nat) : Int), sr N 47 r)) e1]
      refine ⟨r, stop m (2 * y + 1) (y : Int) _ _ (cfl_rg _ _ _ _ _) f1 (by omega), fun p hp => ?_, fun hp => by cases hp⟩
      have : (cfl M k l c (2 * y), S) = p := Option.some.inj hp
      rw [← this]; exact ⟨hP, hR⟩
theorem Rel_torn {M : Mem} (h : Rel M) (f : Int) : Rel (st (st M 0 8 f) 46 27 f) := by
  have hL : (M 3 4).toNat ≤ 4 ∧ (M 3 5).toNat ≤ 4 := by have := h.1.1; have := h.1.2.1; omega
  obtain ⟨gA, gT, gK, gI, gH, gC⟩ := h
  have Y : ∀ a, a ≠ 0 → a ≠ 46 → st (st M 0 8 f) 46 27 f a = M a := fun a h1 h2 => by rw [st_ne _ _ _ h2, st_ne _ _ _ h1]
  have Y46 : ∀ i, i ≠ 27 → st (st M 0 8 f) 46 27 f 46 i = M 46 i := fun i hi => by rw [st_at, st_at, if_neg (by omega), if_neg (by omega)]
  refine ⟨?_, ?_, ?_, ?_, ⟨fun i hi => ?_, ?_⟩, ?_⟩
  · exact RelA_k gA (fun a ha => Y a (by omega) (by omega)) (fun i hi => by rw [Y 47 (by decide) (by decide)]) (Y46 1 (by decide)) (Y46 3 (by decide))
  · exact RelT_k gT (by rw [Y 1 (by decide) (by decide)]) (by rw [Y 1 (by decide) (by decide)]) (Y46 10 (by decide)) (Y46 11 (by decide)) (Y 2 (by decide) (by decide)) (Y 51 (by decide) (by decide))
  · exact RelK_k gK (Y 22 (by decide) (by decide)) (Y 23 (by decide) (by decide)) (Y 24 (by decide) (by decide)) (Y 55 (by decide) (by decide)) (Y46 22 (by decide))
  · exact RelI_k hL gI (fun a ha => Y a (by omega) (by omega)) (by rw [Y 3 (by decide) (by decide)]) (by rw [Y 3 (by decide) (by decide)]) (fun i _ _ => by rw [Y 47 (by decide) (by decide)])
  · have := gH.1 i hi
    unfold ShOk at this ⊢
    rw [Y (38 + 2 * i) (by omega) (by omega), Y (39 + 2 * i) (by omega) (by omega), Y 57 (by decide) (by decide), Y 58 (by decide) (by decide), Y 59 (by decide) (by decide)]
    exact this
  · rw [st_at, if_pos ⟨rfl, rfl⟩, st_at, if_neg (by decide), st_at, if_pos ⟨rfl, rfl⟩]
  · exact RelC_k gC (Y 52 (by decide) (by decide)) (Y 53 (by decide) (by decide))
theorem op_read {n : Nat} {M : Mem} {x y z w : Int} (hn : 1000 ≤ n) (hx : rg x) (hy : rg y) (hz : rg z) (hw : rg w) (h : Rel M) : ∃ r M1 M2, f_X5_read n x y z w M = some (r, M1) ∧ f_X6_read n x y z w M1 = some (r, M2) ∧ Rel M2 := by
  obtain ⟨c1, c2, c3, c4, ok, okb, rw0, rb⟩ := Rel_c h
  obtain ⟨p1, p2, p3, p4, p5, p6, p7⟩ := cp8 h
  unfold f_X5_read f_X6_read
  rw [isSheet_c hx, Option.bind_some, ifbi, isLane_c hy, Option.bind_some, ifbi, within_c hw (rgl 0) (rgl 20), Option.bind_some, ifbi]
  by_cases g : 0 ≤ x ∧ x ≤ 3
  · rw [if_pos g]
    by_cases g2 : 0 ≤ y ∧ y ≤ 2
    · rw [if_pos g2]
      by_cases g3 : 0 ≤ w ∧ w ≤ 20
      · rw [if_pos g3]
        have e0 : ∀ N : Mem, ∀ O : Option (Int × Mem), ((f_X6_in (wr x) 0 3 N).bind fun v1 => if wr v1 = 0 then some (-1, N) else (f_X6_in (wr y) 0 2 N).bind fun v2 => if wr v2 = 0 then some (-1, N) else (f_X6_in (wr w) 0 20 N).bind fun v3 => if wr v3 = 0 then some (-1, N) else O) = O := fun N O => by
          rw [wr_rg hx, in_r hx (rgl 0) (rgl 3), Option.bind_some, if_pos g, if_neg w1n0, wr_rg hy, in_r hy (rgl 0) (rgl 2), Option.bind_some, if_pos g2, if_neg w1n0, wr_rg hw, in_r hw (rgl 0) (rgl 20), Option.bind_some, if_pos g3, if_neg w1n0]
        obtain ⟨k, rfl⟩ : ∃ k : Nat, x = (k : Int) := ⟨x.toNat, by omega⟩
        obtain ⟨T, rfl⟩ : ∃ T : Nat, w = (T : Int) := ⟨w.toNat, by omega⟩
        have hk : k < 4 := by omega
        have ct := h.1.2.2.2.2.2.1
        have hI : InvS M (cpS M 8 3 8) := ⟨p2, by rw [p1 10 (by decide) (by decide), p1 8 (by decide) (by decide)]; exact ct.2.1, by rw [p1 16 (by decide) (by decide)]; exact ct.2.2.1, p4, p5⟩
        obtain ⟨S', a1, a2⟩ := read_c (n0 := n) (T := T) (M := M) (N := cpS M 8 3) (k := k) (l := y) (c := z) hn h hk p7 p3 p4 hy hz (by omega) T n 0 (cpS M 8 3 8) (by omega) (by omega) (Or.inl rfl) hI
        rw [sr_self] at a1
        have eC : ((rx 38 2 4 (k : Int)).bind fun c4 => (f_X2_copy 8 3 M).bind fun M5 => lp (fun s => f_X5_read_55 n y z (T : Int) c4 s.1 s.2.1 s.2.2.1 s.2.2.2) n (0, 0, 0, M5)) = lp (fun s => f_X5_read_55 n y z (T : Int) (38 + 2 * k) s.1 s.2.1 s.2.2.1 s.2.2.2) n (0, ((0 : Nat) : Int), ((0 : Nat) : Int), cpS M 8 3) := by
          rw [rx_id rfl hk (by decide), Option.bind_some, show k * 2 + 38 = 38 + 2 * k by omega, copy_c (by decide), Option.bind_some]
          rfl
        rw [eC, a1]
        have hP0 : PgZ (cr (M 47) 0 75 25) (M 46 1).toNat (cpS M 8 3 8) (B2 M 3) := by
          have e := vw_off (r := M 47) (r' := cr (M 47) 0 75 25) (p := 0) (fun k h1 h2 => cr_o (by omega))
          exact ⟨Rw.trans e (Rw.trans rw0 p1.symm), fun f hf => (Bp_cong (by rw [c3]; omega) (fun k h1 h2 => cr_o (by omega)) f hf).trans (rb f hf)⟩
        have hR0 : RdI M (cr (M 47) 0 75 25) := ⟨fun k hk => cr_o (by omega), fun k hk => by rw [cr_in hk, Nat.zero_add]⟩
        have RR : ∀ N : Mem, (∀ a, 12 < a → N a = M a) → _ := fun N hN => read_r (n0 := n) (T := T) (M := M) (N := N) (k := k) (l := y) (c := z) hn h hk hN hy hz (by omega) T n 0 (cr (M 47) 0 75 25) (cpS M 8 3 8) (by omega) (by omega) (Or.inl rfl) hI hP0 hR0
        have eR : ∀ N : Mem, N 47 = M 47 → ((f_X6_copies n 0 75 N).bind fun M4 => lp (fun s => f_X6_read_55 n (k : Int) y z (T : Int) s.1 s.2.1 s.2.2.1 s.2.2.2) n (0, 0, 0, M4)) = lp (fun s => f_X6_read_55 n (k : Int) y z (T : Int) s.1 s.2.1 s.2.2.1 s.2.2.2) n (0, ((0 : Nat) : Int), ((2 * 0 : Nat) : Int), sr N 47 (cr (M 47) 0 75 25)) := fun N hN => by
          rw [show (75 : Int) = ((75 : Nat) : Int) from rfl, copies0 (by omega) (by decide), Option.bind_some, hN]
          rfl
        generalize rdS (B2 M 3) (flt M k y z) (clS M k z) T 0 (cpS M 8 3 8) = D at a1 a2 RR ⊢
        obtain ⟨o, v⟩ := D
        cases o with
        | some p =>
          dsimp only at a2 RR ⊢
          obtain ⟨q1, q2, q3, q4, q5⟩ := a2 p rfl
          have e133 : f_X5_read_133 n p.1 v (sr (cpS M 8 3) 8 p.2) = some (v, st (cpS (sr (cpS M 8 3) 8 p.2) 3 8) 0 8 p.1) := by
            unfold f_X5_read_133
            rw [copy_c (by decide), Option.bind_some]
            rfl
          have X : ∀ a, 12 < a → st (cpS (sr (cpS M 8 3) 8 p.2) 3 8) 0 8 p.1 a = M a := fun a ha => by rw [st_ne _ _ _ (by omega), cpS_o (by omega), sr_ne _ _ (by omega), p7 a (by omega)]
          obtain ⟨r', b1, b2, -⟩ := RR _ X
          obtain ⟨b3, b4⟩ := b2 p rfl
          refine ⟨v, _, st (sr (st (cpS (sr (cpS M 8 3) 8 p.2) 3 8) 0 8 p.1) 47 r') 46 27 p.1, e133, ?_, ?_⟩
          · rw [e0, eR _ (X 47 (by decide))]
            exact b1
          · have R1 := Rel_row (row := cpS (sr (cpS M 8 3) 8 p.2) 3 8 3) (r := r') h (by rw [cpS_s _ _ _ _ (by decide), sr_same]; exact q4) (by rw [cpS_s _ _ _ _ (by decide), sr_same]; exact q5) (OkS_rw (fun i h1 h2 => by rw [cpS_s _ _ _ _ (by omega), sr_same]) q1) (by rw [cpS_s _ _ _ _ (by decide), cpS_s _ _ _ _ (by decide), sr_same]; exact q2) (by rw [cpS_s _ _ _ _ (by decide), sr_same]; exact q3) (fun i hi => b4.1 i (by omega)) (fun i h1 h2 => by rw [cpS_s _ _ _ _ (by omega), sr_same]; exact b3.1 i h1 h2)
            refine Rel_off ?_ (Rel_torn R1 p.1)
            intro a i q
            by_cases a46 : a = 46
            · subst a46
              simp only [st_at, sr_ne _ _ (show (46 : Nat) ≠ 47 by decide), sr_ne _ _ (show (46 : Nat) ≠ 3 by decide)]
              rw [cpS_o (by decide), sr_ne _ _ (by decide), p7 46 (by decide)]
            · by_cases a47 : a = 47
              · subst a47
                rw [st_ne _ _ _ (by decide), sr_same, st_ne _ _ _ (by decide), st_ne _ _ _ (by decide), sr_same]
              · rw [st_ne _ _ _ a46, sr_ne _ _ a47, st_ne _ _ _ a46, st_at, st_at, sr_ne _ _ a47]
                by_cases a0 : a = 0 ∧ i = 8
                · rw [if_pos a0, if_pos a0]
                · rw [if_neg a0, if_neg a0]
                  by_cases a3 : a = 3
                  · subst a3; rw [sr_same]
                  · rw [sr_ne _ _ a3]
                    by_cases a7 : 4 ≤ a ∧ a ≤ 7
                    · have e : cpS (sr (cpS M 8 3) 8 p.2) 3 8 a i = M a i := by
                        by_cases i4 : i < 4
                        · obtain ⟨j, rfl⟩ : ∃ j, a = 3 + j := ⟨a - 3, by omega⟩
                          rw [cpS_a (by omega) i4, sr_ne _ _ (by omega), cpS_a (by omega) i4]
                        · unfold cpS
                          rw [if_neg a3, if_pos (by omega)]
                          rw [if_neg i4, sr_ne _ _ (by omega), if_neg (by omega), if_neg (by omega)]
                      exact e
                    · rw [cpS_o (by omega), sr_ne _ _ (by unfold Scr at q; omega), p7 a (by unfold Scr at q; omega)]
        | none =>
          dsimp only at a2 RR ⊢
          have X : ∀ a, a < 8 ∨ 12 < a → sr (cpS M 8 3) 8 S' a = M a := fun a ha => by rw [sr_ne _ _ (by omega), p7 a ha]
          obtain ⟨r', b1, -, b3⟩ := RR (sr (cpS M 8 3) 8 S') (fun a ha => X a (by omega))
          refine ⟨v, sr (cpS M 8 3) 8 S', sr (sr (cpS M 8 3) 8 S') 47 r', rfl, ?_, ?_⟩
          · rw [e0, eR _ (X 47 (by decide))]
            exact b1
          · exact Rel_off (Off.trans (Off_cp8 M S') (Off_47 (fun i hi => by rw [b3 rfl i hi, X 47 (by decide)]))) h
      · rw [if_neg g3]
        refine ⟨-1, M, M, rfl, ?_, h⟩
        rw [wr_rg hx, in_r hx (rgl 0) (rgl 3), Option.bind_some, if_pos g, if_neg w1n0, wr_rg hy, in_r hy (rgl 0) (rgl 2), Option.bind_some, if_pos g2, if_neg w1n0, wr_rg hw, in_r hw (rgl 0) (rgl 20), Option.bind_some, if_neg g3, if_pos wr_0]
    · rw [if_neg g2]
      refine ⟨-1, M, M, rfl, ?_, h⟩
      rw [wr_rg hx, in_r hx (rgl 0) (rgl 3), Option.bind_some, if_pos g, if_neg w1n0, wr_rg hy, in_r hy (rgl 0) (rgl 2), Option.bind_some, if_neg g2, if_pos wr_0]
  · rw [if_neg g]
    refine ⟨-1, M, M, rfl, ?_, h⟩
    rw [wr_rg hx, in_r hx (rgl 0) (rgl 3), Option.bind_some, if_neg g, if_pos wr_0]
