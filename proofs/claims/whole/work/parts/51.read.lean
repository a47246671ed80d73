/-! read -/
/-- a court's row that the invariant allows, with the counts of M's court -/
def InvS (M : Mem) (S : Nat → Int) : Prop := OkS S ∧ S 10 ≤ S 8 ∧ (0 ≤ S 16 ∧ S 16 ≤ 255) ∧ S 4 = M 3 4 ∧ S 5 = M 3 5
theorem InvS_pt {M : Mem} {S : Nat → Int} {B : Int → Int} {f k : Int} (h : InvS M S) : InvS M (ptS S B f k).2 := by
  unfold ptS
  split
  · rename_i q
    split
    · rename_i y
      obtain ⟨a1, a2, a3, a4, a5⟩ := h
      have h8 : 0 ≤ S 8 ∧ S 8 ≤ 40 := by unfold OkS at a1; omega
      have h15 : 0 ≤ S 15 := by unfold OkS at a1; omega
      have hr := rtS_rng a1 q.2.1 (by omega)
      refine ⟨OkS_ps a1 y q.2.1 (by omega), ?_, ?_, ?_, ?_⟩
      · dsimp only; rw [psS_10, psS_i _ _ _ _ 8 (by decide)]; omega
      · have e : psS S B f k 16 = bOr (S 16) (bShl f (S 15)) := by unfold psS; simp
        dsimp only; rw [e]; exact past_rng a3 ⟨h15, y⟩ q.1
      · dsimp only; rw [psS_i _ _ _ _ 4 (by decide)]; exact a4
      · dsimp only; rw [psS_i _ _ _ _ 5 (by decide)]; exact a5
    · exact h
  · exact h
theorem ptS_1 {S : Nat → Int} {B : Int → Int} {f k : Int} (h : OkS S) (hB : OkB B) : rg (ptS S B f k).1 := by
  unfold ptS
  split
  · rename_i q
    split
    · have := hgS_rng h hB q.1; dsimp only; unfold rg; omega
    · exact rgl (-3)
  · exact rgl (-1)
/-- the page 0 of the row r is the court S, whose lands bear B -/
def PgZ (r : Nat → Int) (L : Nat) (S : Nat → Int) (B : Int → Int) : Prop := Rw (vw r 0) S ∧ RB (Bp r L 0) B
theorem goes_r {n : Nat} {N : Mem} {r S : Nat → Int} {B : Int → Int} {x y : Int} (hn : 5 ≤ n) (c46 : 0 ≤ N 46 1 ∧ N 46 1 ≤ 4) (h : PgZ r (N 46 1).toNat S B) (ok : OkS S) (okb : OkB B) (hx : rg x) (hy : rg y) : ∃ r', f_X6_goes n x y (sr N 47 r) = some ((ptS S B x y).1, sr N 47 r') ∧ PgZ r' (N 46 1).toNat (ptS S B x y).2 B ∧ ∀ k, k < 12 ∨ 25 ≤ k → r' k = r k := by
  obtain ⟨rw0, rb⟩ := h
  have h8 : 0 ≤ S 8 ∧ S 8 ≤ 40 := by unfold OkS at ok; omega
  have h15 : 0 ≤ S 15 ∧ S 15 ≤ 8 := by unfold OkS at ok; omega
  have ok' := OkS_rw rw0.symm ok
  have okb' := OkB_rb rb.symm okb
  have e21 : r 21 = S 15 := by rw [← rw0 15 (by decide) (by decide), vw_15]
  have X47 : sr N 47 r 47 = r := sr_same _ _ _
  have X46 : sr N 47 r 46 = N 46 := sr_ne _ _ (by decide)
  have cap0 : f_X6_capOn 0 (sr N 47 r) = some (S 8) := by
    have := capOn_r (p := 0) (M := sr N 47 r) (by decide)
    rw [X47, rw0 8 (by decide) (by decide)] at this; exact this
  unfold f_X6_goes ptS
  rw [isFat_r hx, Option.bind_some]
  by_cases g1 : x = 0 ∨ x = 1
  · have lf := lfS_rw rw0 rb g1
    have hl := lfS_rng ok okb g1
    have A1 := leftOn_r (n := n) (p := 0) (M := sr N 47 r) (f := x) (by omega) (by rw [X46]; exact c46) (by decide) g1 (by rw [X47]; exact ok') (by rw [X46, X47]; exact okb')
    rw [X46, X47] at A1
    rw [if_pos g1, if_neg w1n0, cap0, Option.bind_some, wr_rg hy, wr_id (x := S 8) (by omega) (by omega), in_r hy (rgl 0) (rgl _), Option.bind_some]
    by_cases g2 : 0 ≤ y ∧ y ≤ S 8
    · rw [if_pos g2, if_neg w1n0, show (0 : Int) = ((0 : Nat) : Int) from rfl, A1, Option.bind_some, lf, wr_id (x := lfS S B x) (by omega) (by omega)]
      by_cases g3 : y ≤ lfS S B x
      · rw [if_pos g3, if_pos (show (x = ((0 : Nat) : Int) ∨ x = 1) ∧ ((0 : Nat) : Int) ≤ y ∧ y ≤ S 8 ∧ y ≤ lfS S B x from ⟨g1, g2.1, g2.2, g3⟩), X47, e21, wr_id (x := S 15) (by omega) (by omega)]
        by_cases q : S 15 < 8
        · have A3 := goesOn_r (n := n) (p := 0) (M := sr N 47 r) (f := x) (k := y) (by omega) (by rw [X46]; exact c46) (by decide) g1 (by rw [X47]; exact ok') (by rw [X46, X47]; exact okb') g2.1 (by omega)
          rw [X46, X47, sr_sr] at A3
          rw [if_pos q, if_neg (by omega), A3, Option.bind_some, hgS_rw rw0 rb g1]
          refine ⟨_, rfl, ⟨Rw.trans (vw_gr (fun i hi => psS_i _ _ _ _ i hi)) (psS_rw rw0 rb g1 y), fun f hf => (Bp_cong (by omega) (fun k h1 h2 => gr_o (by omega)) f hf).trans (rb f hf)⟩, fun k hk => gr_o (by omega)⟩
        · rw [if_neg q, if_pos (by omega)]
          exact ⟨r, rfl, ⟨rw0, rb⟩, fun _ _ => rfl⟩
      · rw [if_neg g3, if_neg (fun z => g3 z.2.2.2)]
        exact ⟨r, rfl, ⟨rw0, rb⟩, fun _ _ => rfl⟩
    · rw [if_neg g2, if_pos wr_0, if_neg (fun z => g2 ⟨z.2.1, z.2.2.1⟩)]
      exact ⟨r, rfl, ⟨rw0, rb⟩, fun _ _ => rfl⟩
  · rw [if_neg g1, if_pos wr_0, if_neg (fun z => g1 z.1)]
    exact ⟨r, rfl, ⟨rw0, rb⟩, fun _ _ => rfl⟩
/-- what is wrong with the sheet for the year y, from the cell c on -/
def flt (M : Mem) (k : Nat) (l c : Int) (y : Nat) : Int := if M (38 + 2 * k) 1 < 0 then 1 else if M (38 + 2 * k) 2 = l then (if 0 ≤ c ∧ c + 2 * y + 1 ≤ M (38 + 2 * k) 1 - 1 then 0 else 2) else 3
theorem flt_rg (M : Mem) (k : Nat) (l c : Int) (y : Nat) : rg (flt M k l c y) := by
  unfold flt rg; split
  · omega
  · split
    · split <;> omega
    · omega
/-- t years read from the sheet, the first being the y-th -/
def rdS (B : Int → Int) (ft : Nat → Int) (cl : Nat → Int) : Nat → Nat → (Nat → Int) → Option (Int × (Nat → Int)) × Int
  | 0, y, S => (some (0, S), (y : Int))
  | t + 1, y, S => if ft y = 0 then (if 0 ≤ (ptS S B (cl (2 * y)) (cl (2 * y + 1))).1 then rdS B ft cl t (y + 1) (ptS S B (cl (2 * y)) (cl (2 * y + 1))).2 else (none, -20 - (y : Int))) else (some (ft y, S), (y : Int))
theorem faultY_c {M X : Mem} {k y : Nat} {l c : Int} (h : ShOk M k) (hX : X (38 + 2 * k) = M (38 + 2 * k)) (hl : rg l) (hc : rg c) (hy : y = 0 ∨ (0 ≤ c ∧ c ≤ 40)) (hy2 : y ≤ 20) : f_X4_faultOfYear (38 + 2 * k) l (c + 2 * (y : Int)) X = some (flt M k l c y) := by
  unfold f_X4_faultOfYear f_X4_faultOfYear_17 f_X4_faultAt f_X4_isNothing flt
  rw [hX]
  rcases h.1 with ⟨q1, q2⟩ | ⟨q1, q2, q3, q4⟩
  · rw [q1, wr_id (x := -1) (by decide) (by decide), if_neg (by decide), Option.bind_some, if_neg w1n0, Option.bind_some, if_neg w1n0, Option.bind_some, if_neg w1n0, if_pos (by decide)]
  · rw [wr_id (x := M (38 + 2 * k) 1) (by omega) (by omega), if_pos q1.1, Option.bind_some, if_pos wr_0, wr_id (x := M (38 + 2 * k) 2) (by omega) (by omega), wr_rg hl, if_neg (show ¬ (M (38 + 2 * k) 1 < 0) by omega)]
    by_cases g : M (38 + 2 * k) 2 = l
    · rw [if_pos g, if_pos g, Option.bind_some, if_pos wr_0, within_c (by unfold rg at hc ⊢; omega) (rgl 0) (rgl _), Option.bind_some, ifbi]
      by_cases g1 : 0 ≤ c + 2 * (y : Int) ∧ c + 2 * (y : Int) ≤ M (38 + 2 * k) 1 - 1
      · rw [if_pos g1, Option.bind_some, if_pos wr_0, Option.bind_some, if_pos wr_0, within_c (by unfold rg; omega) (rgl 0) (rgl _), Option.bind_some, ifbi]
        by_cases g2 : 0 ≤ c ∧ c + 2 * (y : Int) + 1 ≤ M (38 + 2 * k) 1 - 1
        · rw [if_pos g2, if_pos (by omega)]; rfl
        · rw [if_neg g2, if_neg (by omega)]; rfl
      · rw [if_neg g1, Option.bind_some, wr_2, if_neg (by decide), if_neg (by omega)]
    · rw [if_neg g, if_neg g]
def clS (M : Mem) (k : Nat) (c : Int) (i : Nat) : Int := M (39 + 2 * k) (c.toNat + i)
theorem flt0 {M : Mem} {k y : Nat} {l c : Int} (h : ShOk M k) (e : flt M k l c y = 0) : 0 ≤ c ∧ c + 2 * (y : Int) + 1 ≤ 39 := by
  unfold flt at e
  have hs : M (38 + 2 * k) 1 ≤ 40 := by rcases h.1 with q | q <;> omega
  split at e
  · omega
  · split at e
    · split at e
      · omega
      · omega
    · omega
theorem read_c {n0 T : Nat} {M N : Mem} {k : Nat} {l c : Int} (hn0 : 1000 ≤ n0) (h : Rel M) (hk : k < 4) (hN : TrOff M N) (hB8 : B2 N 8 = B2 M 3) (h84 : N 8 4 = M 3 4) (hl : rg l) (hc : rg c) (hT : T ≤ 20) : ∀ (t n y : Nat) (S : Nat → Int), t + 1 < n → y + t = T → (y = 0 ∨ (0 ≤ c ∧ c ≤ 40)) → InvS M S → ∃ S', lp (fun s => f_X5_read_55 n0 l c (T : Int) (38 + 2 * k) s.1 s.2.1 s.2.2.1 s.2.2.2) n (0, (y : Int), (y : Int), sr N 8 S) = (match (rdS (B2 M 3) (flt M k l c) (clS M k c) t y S).1 with | some p => f_X5_read_133 n0 p.1 (rdS (B2 M 3) (flt M k l c) (clS M k c) t y S).2 (sr N 8 p.2) | none => some ((rdS (B2 M 3) (flt M k l c) (clS M k c) t y S).2, sr N 8 S')) ∧ ∀ p, (rdS (B2 M 3) (flt M k l c) (clS M k c) t y S).1 = some p → InvS M p.2 := by
  obtain ⟨c1, c2, c3, c4, ok, okb, rw0, rb⟩ := Rel_c h
  have sh := h.2.2.2.2.1.1 k hk
  intro t
  induction t with
  | zero =>
    intro n y S hn hy hcy hS
    obtain ⟨m, rfl⟩ : ∃ m, n = m + 1 := ⟨n - 1, by omega⟩
    refine ⟨S, ?_, ?_⟩
    · show _ = f_X5_read_133 n0 0 (y : Int) (sr N 8 S)
      refine lp_map (f := fun s => f_X5_read_55 n0 l c (T : Int) (38 + 2 * k) s.1 s.2.1 s.2.2.1 s.2.2.2) (s := (0, (y : Int), (y : Int), sr N 8 S)) ?_
      show f_X5_read_55 n0 l c (T : Int) (38 + 2 * k) 0 (y : Int) (y : Int) (sr N 8 S) = _
      unfold f_X5_read_55
      rw [wr_id (by omega) (by omega), wr_id (by omega) (by omega), if_pos (by omega)]
    · intro p hp
      have : (0, S) = p := Option.some.inj hp
      rw [← this]; exact hS
  | succ t ih =>
    intro n y S hn hy hcy hS
    obtain ⟨m, rfl⟩ : ∃ m, n = m + 1 := ⟨n - 1, by omega⟩
    have eX : sr N 8 S (38 + 2 * k) = M (38 + 2 * k) := by rw [sr_ne _ _ (by omega), hN _ (by omega)]
    have eF := faultY_c (X := sr N 8 S) (y := y) sh eX hl hc hcy (by omega)
    rw [rdS]
    by_cases q : flt M k l c y = 0
    · have hc0 := flt0 sh q
      have r1 := (sh.2 (c.toNat + 2 * y) (by omega)).2
      have r2 := (sh.2 (c.toNat + (2 * y + 1)) (by omega)).2
      have hp := passTold_c (n := n0) (j := 8) (M := sr N 8 S) (f := clS M k c (2 * y)) (k := clS M k c (2 * y + 1)) (by omega) (by rw [sr_same, hS.2.2.2.1]; exact c1) (by rw [sr_same]; exact hS.1) (by rw [B2_sr (by rw [hS.2.2.2.1, h84]), hB8]; exact okb) r1 r2
      rw [sr_same, B2_sr (by rw [hS.2.2.2.1, h84]), hB8, sr_sr] at hp
      have hpr := ptS_1 (f := clS M k c (2 * y)) (k := clS M k c (2 * y + 1)) hS.1 okb
      have hpi := InvS_pt (B := B2 M 3) (f := clS M k c (2 * y)) (k := clS M k c (2 * y + 1)) hS
      generalize hP : ptS S (B2 M 3) (clS M k c (2 * y)) (clS M k c (2 * y + 1)) = P at hp hpr hpi ⊢
      have e : f_X5_read_55 n0 l c (T : Int) (38 + 2 * k) 0 (y : Int) (y : Int) (sr N 8 S) = if 0 ≤ P.1 then some (.inl (0, (y : Int) + 1, (y : Int) + 1, sr N 8 P.2)) else some (.inr (-20 - (y : Int), sr N 8 P.2)) := by
        unfold f_X5_read_55 f_X5_read_127 f_X5_read_118
        rw [wr_id (x := (T : Int)) (by omega) (by omega), wr_id (x := (y : Int)) (by omega) (by omega), if_neg (by omega), if_pos wr_0, eF, Option.bind_some, q, if_pos wr_0, rd_id (by omega) (by omega) (by omega), Option.bind_some, rd_id (by omega) (by omega) (by omega), Option.bind_some, sr_ne _ _ (show 38 + 2 * k + 1 ≠ 8 by omega), hN _ (by omega), show 38 + 2 * k + 1 = 39 + 2 * k by omega, show (c + 2 * (y : Int)).toNat = c.toNat + 2 * y by omega, show (c + 2 * (y : Int) + 1).toNat = c.toNat + (2 * y + 1) by omega]
        show (f_X2_passTold n0 8 (clS M k c (2 * y)) (clS M k c (2 * y + 1)) (sr N 8 S)).bind _ = _
        rw [hp, Option.bind_some]
        dsimp only
        rw [wr_rg hpr]
        rfl
      rw [if_pos q]
      by_cases q2 : 0 ≤ P.1
      · rw [if_pos q2] at e ⊢
        obtain ⟨S', b1, b2⟩ := ih m (y + 1) P.2 (by omega) (by omega) (by omega) hpi
        refine ⟨S', ?_, b2⟩
        rw [lp_succ (f := fun s => f_X5_read_55 n0 l c (T : Int) (38 + 2 * k) s.1 s.2.1 s.2.2.1 s.2.2.2) (s := (0, (y : Int), (y : Int), sr N 8 S)) e]
        exact b1
      · rw [if_neg q2] at e ⊢
        refine ⟨P.2, ?_, fun p hp => by cases hp⟩
        rw [lp_end (f := fun s => f_X5_read_55 n0 l c (T : Int) (38 + 2 * k) s.1 s.2.1 s.2.2.1 s.2.2.2) (s := (0, (y : Int), (y : Int), sr N 8 S)) e]
    · rw [if_neg q]
      have hr := flt_rg M k l c y
      have e : f_X5_read_55 n0 l c (T : Int) (38 + 2 * k) 0 (y : Int) (y : Int) (sr N 8 S) = some (.inl (flt M k l c y, (y : Int), (y : Int) + 1, sr N 8 S)) := by
        unfold f_X5_read_55 f_X5_read_127
        rw [wr_id (x := (T : Int)) (by omega) (by omega), wr_id (x := (y : Int)) (by omega) (by omega), if_neg (by omega), if_pos wr_0, eF, Option.bind_some, wr_rg hr, if_neg q]
      have e2 : f_X5_read_55 n0 l c (T : Int) (38 + 2 * k) (flt M k l c y) (y : Int) ((y : Int) + 1) (sr N 8 S) = (f_X5_read_133 n0 (flt M k l c y) (y : Int) (sr N 8 S)).map Sum.inr := by
        unfold f_X5_read_55
        rw [wr_rg hr, if_neg q, ite_self]
      obtain ⟨m', rfl⟩ : ∃ m', m = m' + 1 := ⟨m - 1, by omega⟩
      refine ⟨S, ?_, ?_⟩
      · rw [lp_succ (f := fun s => f_X5_read_55 n0 l c (T : Int) (38 + 2 * k) s.1 s.2.1 s.2.2.1 s.2.2.2) (s := (0, (y : Int), (y : Int), sr N 8 S)) e]
        exact lp_map (f := fun s => f_X5_read_55 n0 l c (T : Int) (38 + 2 * k) s.1 s.2.1 s.2.2.1 s.2.2.2) (s := (flt M k l c y, (y : Int), (y : Int) + 1, sr N 8 S)) e2
      · intro p hp
        have : (flt M k l c y, S) = p := Option.some.inj hp
        rw [← this]; exact hS
