/-! read -/
/-- a court's row that the invariant allows, with the counts of M's court -/
def InvS (M : Mem) (S : Nat → Int) : Prop := OkS S ∧ S 10 ≤ S 8 ∧ (0 ≤ S 16 ∧ S 16 ≤ 255) ∧ S 4 = M 3 4 ∧ S 5 = M 3 5
theorem InvS_pt {M : Mem} {S : Nat → Int} {B : Int → Int} {f k : Int} (h : InvS M S) : InvS M (ptS S B f k).2 := by
  unfold ptS
  split
  · rename_i q
    split
    · rename_i y
      obtain ⟨a1, a2, a3, a4, a5⟩ := h
      have h8 : 0 ≤ S 8 ∧ S 8 ≤ 40 := by unfold OkS at a1; omega
      have h15 : 0 ≤ S 15 := by unfold OkS at a1; omega
      have hr := rtS_rng a1 q.2.1 (by omega)
      refine ⟨OkS_ps a1 y q.2.1 (by omega), ?_, ?_, ?_, ?_⟩
      · dsimp only; rw [psS_10, psS_i _ _ _ _ 8 (by decide)]; omega
      · have e : psS S B f k 16 = bOr (S 16) (bShl f (S 15)) := by unfold psS; simp
        dsimp only; rw [e]; exact past_rng a3 ⟨h15, y⟩ q.1
      · dsimp only; rw [psS_i _ _ _ _ 4 (by decide)]; exact a4
      · dsimp only; rw [psS_i _ _ _ _ 5 (by decide)]; exact a5
    · exact h
  · exact h
theorem ptS_1 {S : Nat → Int} {B : Int → Int} {f k : Int} (h : OkS S) (hB : OkB B) : rg (ptS S B f k).1 := by
  unfold ptS
  split
  · rename_i q
    split
    · have := hgS_rng h hB q.1; dsimp only; unfold rg; omega
    · exact rgl (-3)
  · exact rgl (-1)
/-- the page 0 of the row r is the court S, whose lands bear B -/
def PgZ (r : Nat → Int) (L : Nat) (S : Nat → Int) (B : Int → Int) : Prop := Rw (vw r 0) S ∧ RB (Bp r L 0) B
theorem goes_r {n : Nat} {N : Mem} {r S : Nat → Int} {B : Int → Int} {x y : Int} (hn : 5 ≤ n) (c46 : 0 ≤ N 46 1 ∧ N 46 1 ≤ 4) (h : PgZ r (N 46 1).toNat S B) (ok : OkS S) (okb : OkB B) (hx : rg x) (hy : rg y) : ∃ r', f_X6_goes n x y (sr N 47 r) = some ((ptS S B x y).1, sr N 47 r') ∧ PgZ r' (N 46 1).toNat (ptS S B x y).2 B ∧ ∀ k, k < 12 ∨ 25 ≤ k → r' k = r k := by
  obtain ⟨rw0, rb⟩ := h
  have h8 : 0 ≤ S 8 ∧ S 8 ≤ 40 := by unfold OkS at ok; omega
  have h15 : 0 ≤ S 15 ∧ S 15 ≤ 8 := by unfold OkS at ok; omega
  have ok' := OkS_rw rw0.symm ok
  have okb' := OkB_rb rb.symm okb
  have e21 : r 21 = S 15 := by rw [← rw0 15 (by decide) (by decide), vw_15]
  have X47 : sr N 47 r 47 = r := sr_same _ _ _
  have X46 : sr N 47 r 46 = N 46 := sr_ne _ _ (by decide)
  have cap0 : f_X6_capOn 0 (sr N 47 r) = some (S 8) := by
    have := capOn_r (p := 0) (M := sr N 47 r) (by decide)
    rw [X47, rw0 8 (by decide) (by decide)] at this; exact this
  unfold f_X6_goes ptS
  rw [isFat_r hx, Option.bind_some]
  by_cases g1 : x = 0 ∨ x = 1
  · have lf := lfS_rw rw0 rb g1
    have hl := lfS_rng ok okb g1
    have A1 := leftOn_r (n := n) (p := 0) (M := sr N 47 r) (f := x) (by omega) (by rw [X46]; exact c46) (by decide) g1 (by rw [X47]; exact ok') (by rw [X46, X47]; exact okb')
    rw [X46, X47] at A1
    rw [if_pos g1, if_neg w1n0, cap0, Option.bind_some, wr_rg hy, wr_id (x := S 8) (by omega) (by omega), in_r hy (rgl 0) (rgl _), Option.bind_some]
    by_cases g2 : 0 ≤ y ∧ y ≤ S 8
    · rw [if_pos g2, if_neg w1n0, show (0 : Int) = ((0 : Nat) : Int) from rfl, A1, Option.bind_some, lf, wr_id (x := lfS S B x) (by omega) (by omega)]
      by_cases g3 : y ≤ lfS S B x
      · rw [if_pos g3, if_pos (show (x = ((0 : Nat) : Int) ∨ x = 1) ∧ ((0 : Nat) : Int) ≤ y ∧ y ≤ S 8 ∧ y ≤ lfS S B x from ⟨g1, g2.1, g2.2, g3⟩), X47, e21, wr_id (x := S 15) (by omega) (by omega)]
        by_cases q : S 15 < 8
        · have A3 := goesOn_r (n := n) (p := 0) (M := sr N 47 r) (f := x) (k := y) (by omega) (by rw [X46]; exact c46) (by decide) g1 (by rw [X47]; exact ok') (by rw [X46, X47]; exact okb') g2.1 (by omega)
          rw [X46, X47, sr_sr] at A3
          rw [if_pos q, if_neg (by omega), A3, Option.bind_some, hgS_rw rw0 rb g1]
          refine ⟨_, rfl, ⟨Rw.trans (vw_gr (fun i hi => psS_i _ _ _ _ i hi)) (psS_rw rw0 rb g1 y), fun f hf => (Bp_cong (by omega) (fun k h1 h2 => gr_o (by omega)) f hf).trans (rb f hf)⟩, fun k hk => gr_o (by omega)⟩
        · rw [if_neg q, if_pos (by omega)]
          exact ⟨r, rfl, ⟨rw0, rb⟩, fun _ _ => rfl⟩
      · rw [if_neg g3, if_neg (fun z => g3 z.2.2.2)]
        exact ⟨r, rfl, ⟨rw0, rb⟩, fun _ _ => rfl⟩
    · rw [if_neg g2, if_pos wr_0, if_neg (fun z => g2 ⟨z.2.1, z.2.2.1⟩)]
      exact ⟨r, rfl, ⟨rw0, rb⟩, fun _ _ => rfl⟩
  · rw [if_neg g1, if_pos wr_0, if_neg (fun z => g1 z.1)]
    exact ⟨r, rfl, ⟨rw0, rb⟩, fun _ _ => rfl⟩
/-- what is wrong with the sheet for the year y, from the cell c on -/
def flt (M : Mem) (k : Nat) (l c : Int) (y : Nat) : Int := if M (38 + 2 * k) 1 < 0 then 1 else if M (38 + 2 * k) 2 = l then (if 0 ≤ c ∧ c + 2 * y + 1 ≤ M (38 + 2 * k) 1 - 1 then 0 else 2) else 3
theorem flt_rg (M : Mem) (k : Nat) (l c : Int) (y : Nat) : rg (flt M k l c y) := by
  unfold flt rg; split
  · omega
  · split
    · split <;> omega
    · omega
/-- t years read from the sheet, the first being the y-th -/
def rdS (B : Int → Int) (ft : Nat → Int) (cl : Nat → Int) : Nat → Nat → (Nat → Int) → Option (Int × (Nat → Int)) × Int
  | 0, y, S => (some (0, S), (y : Int))
  | t + 1, y, S => if ft y = 0 then (if 0 ≤ (ptS S B (cl (2 * y)) (cl (2 * y + 1))).1 then rdS B ft cl t (y + 1) (ptS S B (cl (2 * y)) (cl (2 * y + 1))).2 else (none, -20 - (y : Int))) else (some (ft y, S), (y : Int))
