/-! drift -/
theorem bv15 (x : BitVec 32) : (x >>> 16) &&& 32767#32 = (x.sshiftRight 16) &&& 32767#32 := by
  apply BitVec.eq_of_getLsbD_eq
  intro i hi
  rw [BitVec.getLsbD_and, BitVec.getLsbD_and]
  have hz : ∀ j : Fin 32, 15 ≤ j.1 → (32767#32).getLsbD j.1 = false := by decide
  by_cases h : i < 15
  · rw [BitVec.getLsbD_ushiftRight, BitVec.getLsbD_sshiftRight]
    have h1 : ¬ (32 ≤ i) := by omega
    have h2 : 16 + i < 32 := by omega
    simp [h1, h2]
  · rw [hz ⟨i, hi⟩ (show 15 ≤ i by omega), Bool.and_false, Bool.and_false]
theorem ush15 (z : Int) : bAnd (bUshr z 16) 32767 = bAnd (bShr z 16) 32767 := by
  unfold bAnd bUshr bShr
  rw [Int32.ofInt_toInt, Int32.ofInt_toInt]
  congr 1
  apply Int32.toBitVec_inj.1
  exact bv15 (Int32.ofInt z).toBitVec
theorem go100 {n : Nat} {M : Mem} {r : Nat → Int} {S : Nat → Int} {B : Int → Int} {f : Int} {α : Type} (K : Int × Mem → Option α) (hn : 5 ≤ n) (hL : 0 ≤ M 46 1 ∧ M 46 1 ≤ 4) (h : PgR r (M 46 1).toNat S B) (hS : OkS S) (hB : OkB B) (hf : isF f) : ∃ r', ((f_X6_leftOn n 100 f (sr M 47 r)).bind fun v1 => (f_X6_keepsOn 100 v1 (sr M 47 r)).bind fun v2 => (f_X6_goesOn n 100 f v2 (sr M 47 r)).bind K) = K (hgS S B f, sr M 47 r') ∧ PgR r' (M 46 1).toNat (hmS S B f) B ∧ ∀ k, k < 100 → r' k = r k := by
  have hS' : OkS (vw r 100) := OkS_rw h.1.symm hS
  have hB' : OkB (Bp r (M 46 1).toNat 100) := OkB_rb h.2.symm hB
  have hl := lfS_rng hS' hB' hf
  have hk := kpS_rng hS' hl.1 (by omega)
  have X47 : (sr M 47 r) 47 = r := sr_same _ _ _
  have X46 : (sr M 47 r) 46 = M 46 := sr_ne _ _ (by decide)
  have A1 := leftOn_r (n := n) (p := 100) (M := sr M 47 r) hn (by rw [X46]; exact hL) (by decide) hf (by rw [X47]; exact hS') (by rw [X46, X47]; exact hB')
  have A2 := keepsOn_r (p := 100) (M := sr M 47 r) (l := lfS (vw r 100) (Bp r (M 46 1).toNat 100) f) (by decide) (by rw [X47]; exact hS') hl.1 (by omega)
  have A3 := goesOn_r (n := n) (p := 100) (M := sr M 47 r) hn (by rw [X46]; exact hL) (by decide) hf (by rw [X47]; exact hS') (by rw [X46, X47]; exact hB') hk.1 hk.2.1
  rw [X46, X47] at A1
  rw [X47] at A2
  rw [X46, X47, sr_sr] at A3
  refine ⟨gr r 100 (hmS (vw r 100) (Bp r (M 46 1).toNat 100) f), ?_, ?_, fun k hk => gr_o (by omega)⟩
  · rw [show (100 : Int) = ((100 : Nat) : Int) from rfl, A1, Option.bind_some, A2, Option.bind_some, A3, Option.bind_some, ← hgS_rw h.1 h.2 hf]
    rfl
  · exact PgR_gr (by omega) h (fun i hi => hmS_i _ _ _ i hi) (hmS_rw h.1 h.2 hf)
/-- the years that a seed draws -/
def dz (z : Int) : Int := z * 1103515245 + 12345
def dfS (z x : Int) : Int := if x ≤ wr ((wr (bAnd (bShr (dz z) 16) 32767)).tmod (wr 10)) then 0 else 1
theorem dfS_F (z x : Int) : isF (dfS z x) := by unfold dfS isF; split <;> simp
def drS (B : Int → Int) (x : Int) : Nat → Int → (Nat → Int) → (Nat → Int)
  | 0, _, S => S
  | t + 1, z, S => drS B x t (dz z) (hmS S B (dfS z x))
theorem drS_rw {B C : Int → Int} (hB : RB B C) (x : Int) : ∀ (t : Nat) (z : Int) {S T : Nat → Int}, Rw S T → Rw (drS B x t z S) (drS C x t z T) := by
  intro t
  induction t with
  | zero => intro z S T h; exact h
  | succ t ih => intro z S T h; rw [drS, drS]; exact ih _ (hmS_rw h hB (dfS_F _ _))
theorem drift_c {n0 : Nat} {N : Mem} {B : Int → Int} {x w : Int} (hn0 : 1000 ≤ n0) (hL : 0 ≤ N 8 4 ∧ N 8 4 ≤ 4) (hB : OkB B) (hB8 : B2 N 8 = B) (hx : rg x) : ∀ (t n : Nat) (z : Int) (S : Nat → Int), t < n → S 15 + t = 8 → S 4 = N 8 4 → OkS S → lp (fun s => f_X5_drift_44 n0 x w s.1 s.2.1 s.2.2) n (z, S 15, sr N 8 S) = f_X5_drift_101 n0 w (sr N 8 (drS B x t z S)) := by
  intro t
  induction t with
  | zero =>
    intro n z S hn hi h4 hS
    obtain ⟨m, rfl⟩ : ∃ m, n = m + 1 := ⟨n - 1, by omega⟩
    have e : f_X5_drift_44 n0 x w z (S 15) (sr N 8 S) = (f_X5_drift_101 n0 w (sr N 8 S)).map Sum.inr := by
      unfold f_X5_drift_44
      rw [wr_id (x := S 15) (by omega) (by omega), if_pos (by omega)]
    exact lp_map (f := fun s => f_X5_drift_44 n0 x w s.1 s.2.1 s.2.2) (s := (z, S 15, sr N 8 S)) e
  | succ t ih =>
    intro n z S hn hi h4 hS
    obtain ⟨m, rfl⟩ : ∃ m, n = m + 1 := ⟨n - 1, by omega⟩
    have h15 : 0 ≤ S 15 := by unfold OkS at hS; omega
    have hf := dfS_F z x
    have hp := him_sr (n := n0) (j := 8) (M := N) (S := S) (f := dfS z x) (by omega) hL h4 hS (by rw [hB8]; exact hB) hf
    rw [hB8] at hp
    have e : f_X5_drift_44 n0 x w z (S 15) (sr N 8 S) = some (.inl (dz z, hmS S B (dfS z x) 15, sr N 8 (hmS S B (dfS z x)))) := by
      have e2 : f_X5_drift_44 n0 x w z (S 15) (sr N 8 S) = f_X5_drift_91 n0 x w (dz z) (S 15) (dfS z x) (sr N 8 S) := by
        unfold f_X5_drift_44 dfS dz
        rw [wr_id (x := S 15) (by omega) (by omega), if_neg (by omega), Option.bind_some, ush15, wr_rg hx]
        split <;> rfl
      rw [e2]
      unfold f_X5_drift_91
      rw [hp, Option.bind_some, hmS_15]
    rw [lp_succ (f := fun s => f_X5_drift_44 n0 x w s.1 s.2.1 s.2.2) (s := (z, S 15, sr N 8 S)) e, drS]
    exact ih m (dz z) _ (by omega) (by rw [hmS_15]; omega) (by rw [hmS_i _ _ _ 4 (by decide)]; exact h4) (OkS_hm hS hB hf (by omega))
theorem drift_r {n0 : Nat} {M : Mem} {B : Int → Int} {x w : Int} (hn0 : 5 ≤ n0) (hL : 0 ≤ M 46 1 ∧ M 46 1 ≤ 4) (hB : OkB B) (hx : rg x) : ∀ (t n : Nat) (z : Int) (r S : Nat → Int), t < n → S 15 + t = 8 → PgR r (M 46 1).toNat S B → OkS S → ∃ r', lp (fun s => f_X6_drift_36 n0 x w s.1 s.2) n (z, sr M 47 r) = f_X6_drift_109 n0 w (sr M 47 r') ∧ PgR r' (M 46 1).toNat (drS B x t z S) B ∧ ∀ k, k < 100 → r' k = r k := by
  intro t
  induction t with
  | zero =>
    intro n z r S hn hi h hS
    obtain ⟨m, rfl⟩ : ∃ m, n = m + 1 := ⟨n - 1, by omega⟩
    have e15 := (PgR_at h).2.2.2
    have e : f_X6_drift_36 n0 x w z (sr M 47 r) = (f_X6_drift_109 n0 w (sr M 47 r)).map Sum.inr := by
      unfold f_X6_drift_36
      rw [sr_same, e15, wr_id (x := S 15) (by omega) (by omega), if_pos (by omega)]
    exact ⟨r, lp_map (f := fun s => f_X6_drift_36 n0 x w s.1 s.2) (s := (z, sr M 47 r)) e, h, fun _ _ => rfl⟩
  | succ t ih =>
    intro n z r S hn hi h hS
    obtain ⟨m, rfl⟩ : ∃ m, n = m + 1 := ⟨n - 1, by omega⟩
    have e15 := (PgR_at h).2.2.2
    have h15 : 0 ≤ S 15 := by unfold OkS at hS; omega
    have hf := dfS_F z x
    obtain ⟨r1, a1, a2, a3⟩ := go100 (n := n0) (M := M) (fun q => some (Sum.inl (dz z, q.2) : (Int × Mem) ⊕ (Int × Mem))) hn0 hL h hS hB hf
    have e : f_X6_drift_36 n0 x w z (sr M 47 r) = some (.inl (dz z, sr M 47 r1)) := by
      have e2 : f_X6_drift_36 n0 x w z (sr M 47 r) = f_X6_drift_81 n0 x w (dz z) (dfS z x) (sr M 47 r) := by
        unfold f_X6_drift_36 dfS dz
        rw [sr_same, e15, wr_id (x := S 15) (by omega) (by omega), if_neg (by omega), wr_rg hx]
        split <;> rfl
      rw [e2]
      exact a1
    obtain ⟨r', b1, b2, b3⟩ := ih m (dz z) r1 _ (by omega) (by rw [hmS_15]; omega) a2 (OkS_hm hS hB hf (by omega))
    refine ⟨r', ?_, b2, fun k hk => (b3 k hk).trans (a3 k hk)⟩
    rw [lp_succ (f := fun s => f_X6_drift_36 n0 x w s.1 s.2) (s := (z, sr M 47 r)) e]
    exact b1
theorem op_drift {n : Nat} {M : Mem} {x y z : Int} (hn : 1000 ≤ n) (hx : rg x) (hy : rg y) (hz : rg z) (h : Rel M) : ∃ r M1 M2, f_X5_drift n x y z M = some (r, M1) ∧ f_X6_drift n x y z M1 = some (r, M2) ∧ Rel M2 := by
  obtain ⟨c1, c2, c3, c4, ok, okb, rw0, rb⟩ := Rel_c h
  obtain ⟨p1, p2, p3, p4, p5, p6, p7⟩ := cp8 h
  unfold f_X5_drift f_X6_drift
  rw [within_c hy (rgl 0) (rgl 10), Option.bind_some, ifbi, within_c hz (rgl 0) (rgl 2), Option.bind_some, ifbi]
  by_cases g2 : 0 ≤ y ∧ y ≤ 10
  · rw [if_pos g2]
    by_cases g3 : 0 ≤ z ∧ z ≤ 2
    · have h15 : 0 ≤ M 3 15 ∧ M 3 15 ≤ 8 := by unfold OkS at ok; omega
      have e15 := p1 15 (by decide) (by decide)
      have A := drift_c (n0 := n) (N := cpS M 8 3) (B := B2 M 3) (x := y) (w := z) hn (by rw [p4]; exact c1) okb p3 hy (8 - M 3 15).toNat n x (cpS M 8 3 8) (by omega) (by rw [e15]; omega) rfl p2
      rw [sr_self, e15] at A
      have hT := drS_rw (B := B2 M 3) (C := B2 M 3) (fun _ _ => rfl) y (8 - M 3 15).toNat x p1
      generalize drS (B2 M 3) y (8 - M 3 15).toNat x (cpS M 8 3 8) = T at hT A
      have X : ∀ a, a < 8 ∨ 12 < a → sr (cpS M 8 3) 8 T a = M a := fun a ha => by rw [sr_ne _ _ (by omega), p7 a ha]
      obtain ⟨r', b1, b2, b3⟩ := drift_r (n0 := n) (M := sr (cpS M 8 3) 8 T) (B := B2 M 3) (x := y) (w := z) (by omega) (by rw [X 46 (by decide), c3]; exact c1) okb hy (8 - M 3 15).toNat n x (cr (sr (cpS M 8 3) 8 T 47) 0 100 25) (M 3) (by omega) (by omega) (pg100 h (by rw [X 46 (by decide)]) (X 47 (by decide))) ok
      obtain ⟨q1, q2, q3, -⟩ := PgR_at b2
      have k23 : r' 23 = M 3 17 := by rw [b3 23 (by decide), X 47 (by decide), cr_o (by decide), ← rw0 17 (by decide) (by decide), vw_17]
      have k24 : r' 24 = M 3 18 := by rw [b3 24 (by decide), X 47 (by decide), cr_o (by decide), ← rw0 18 (by decide) (by decide), vw_18]
      refine ⟨if z = 2 then T 10 else if z = 0 then T 18 - M 3 18 else T 17 - M 3 17, sr (cpS M 8 3) 8 T, sr (sr (cpS M 8 3) 8 T) 47 r', ?_, ?_, ?_⟩
      · rw [if_pos g3, copy_c (by decide), Option.bind_some, p7 3 (by decide)]
        refine A.trans ?_
        unfold f_X5_drift_101
        rw [wr_rg hz, sr_same, X 3 (by decide)]
        split
        · rfl
        · split <;> rfl
      · rw [wr_rg hy, in_r hy (rgl 0) (rgl 10), Option.bind_some, if_pos g2, if_neg w1n0, wr_rg hz, in_r hz (rgl 0) (rgl 2), Option.bind_some, if_pos g3, if_neg w1n0, show (100 : Int) = ((100 : Nat) : Int) from rfl, copies0 (by omega) (by decide), Option.bind_some]
        refine b1.trans ?_
        unfold f_X6_drift_109
        rw [wr_rg hz, sr_same, q1, q2, q3, k23, k24, hT 10 (by decide) (by decide), hT 17 (by decide) (by decide), hT 18 (by decide) (by decide)]
        by_cases z0 : z = 0
        · rw [if_pos z0, if_neg (by omega), if_pos z0]
        · rw [if_neg z0, if_neg z0]
          by_cases z1 : z = 1
          · rw [if_pos z1, if_neg (by omega)]
          · rw [if_neg z1, if_pos (by omega)]
      · refine Rel_off ?_ h
        refine Off.trans (Off_cp8 M T) (Off_47 (fun k hk => ?_))
        rw [b3 k (by omega), cr_o (by omega)]
    · rw [if_neg g3]
      refine ⟨-1, M, M, rfl, ?_, h⟩
      rw [wr_rg hy, in_r hy (rgl 0) (rgl 10), Option.bind_some, if_pos g2, if_neg w1n0, wr_rg hz, in_r hz (rgl 0) (rgl 2), Option.bind_some, if_neg g3, if_pos wr_0]
  · rw [if_neg g2]
    refine ⟨-1, M, M, rfl, ?_, h⟩
    rw [wr_rg hy, in_r hy (rgl 0) (rgl 10), Option.bind_some, if_neg g2, if_pos wr_0]
