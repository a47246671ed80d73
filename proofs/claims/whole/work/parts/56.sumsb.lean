theorem lp_two {σ ρ : Type} {f : σ → Option (σ ⊕ ρ)} {n : Nat} {s s1 s2 : σ} {r : ρ} (hn : 3 ≤ n) (h1 : f s = some (.inl s1)) (h2 : f s1 = some (.inl s2)) (h3 : f s2 = some (.inr r)) : lp f n s = some r := by
  obtain ⟨m, rfl⟩ : ∃ m, n = m + 1 + 1 + 1 := ⟨n - 3, by omega⟩
  rw [lp_succ h1, lp_succ h2, lp_end h3]
theorem ad_vb {M N : Mem} {c d : Nat} {v : Int → Int → Int} {are f : Int} {s : Nat} (ok : OkS (M c)) (hB : OkB (B2 M c)) (hf : isF f) (hs : s ≤ 40) (hv : ∀ t : Nat, t ≤ (M c 8).toNat → N (15 + d) t = v are (t : Int)) : adS M N c d (odS (M (c + 4)) are (M c 5).toNat * prS (M c) f) (odS (M (c + 4)) are (M c 5).toNat * M c 7) f s = mxB (bkS (M c) (B2 M c) (M (c + 4)) (M c 5).toNat v are s f) (min (M c 8) (lfX (M c) (B2 M c) s f)).toNat := by
  have h8 : 0 ≤ M c 8 ∧ M c 8 ≤ 40 := by unfold OkS at ok; omega
  have hl : 0 ≤ lfX (M c) (B2 M c) s f := by unfold lfX; omega
  unfold adS
  rw [← mxB_add]
  refine mxB_cong (fun i hi => ?_)
  have hr := rtX ok (k := (i : Int)) (by omega) (by omega)
  unfold gnS bkS
  rw [hv _ (by omega), Int.toNat_of_nonneg hr.1]
  generalize odS (M (c + 4)) are (M c 5).toNat = o
  generalize prS (M c) f = p
  generalize lfX (M c) (B2 M c) s f = l
  generalize hgX (M c) (B2 M c) s f = g
  generalize v are (rtS (M c) i) = w
  have e1 : o * ((l - i) * p - g * M c 7) = o * p * l - o * p * i - o * M c 7 * g := by
    rw [Int.mul_sub, Int.sub_mul, Int.mul_sub, Int.mul_assoc, Int.mul_assoc, Int.mul_assoc, Int.mul_comm l p, Int.mul_comm (i : Int) p, Int.mul_comm g (M c 7)]
  rw [e1]
  omega
theorem gn_rg {M N : Mem} {c d : Nat} {v : Int → Int → Int} {W are f : Int} (ok : OkS (M c)) (hm : 0 ≤ M c 5 ∧ M c 5 ≤ 4) (hO : ∀ i, i < (M c 5).toNat → 1 ≤ M (c + 4) i ∧ M (c + 4) i ≤ 9) (hf : isF f) (hW : W ≤ 4000000) (hv : ∀ t : Nat, t ≤ (M c 8).toNat → N (15 + d) t = v are (t : Int)) (hr : ∀ a s, 0 ≤ s → s ≤ 40 → -W ≤ v a s ∧ v a s ≤ W) : ∀ k, k ≤ (M c 8).toNat → rg (gnS M N c d (odS (M (c + 4)) are (M c 5).toNat * prS (M c) f) k) := by
  intro k hk
  have h8 : 0 ≤ M c 8 ∧ M c 8 ≤ 40 := by unfold OkS at ok; omega
  have hp : 0 ≤ prS (M c) f ∧ prS (M c) f ≤ 9 := by unfold OkS at ok; unfold prS; split <;> omega
  have ho := odS_rng (A := are) hO
  have hr1 := rtX ok (k := (k : Int)) (by omega) (by omega)
  have a := hr are (rtS (M c) k) hr1.1 (by omega)
  have b := mul_rng (a := odS (M (c + 4)) are (M c 5).toNat) (x := prS (M c) f) (p := 36) (q := 9) (by omega) (by omega) (by omega) (by omega) (by decide)
  have b0 : 0 ≤ odS (M (c + 4)) are (M c 5).toNat * prS (M c) f := Int.mul_nonneg ho.1 hp.1
  have d2 := mul_rng (a := odS (M (c + 4)) are (M c 5).toNat * prS (M c) f) (x := (k : Int)) (p := 324) (q := 40) b0 (by omega) (by omega) (by omega) (by decide)
  unfold gnS
  rw [hv _ (by omega), Int.toNat_of_nonneg hr1.1]
  unfold rg
  omega
/-- the court's numbers that a sum needs -/
def CtS (M : Mem) (c : Nat) : Prop := (c = 3 ∨ c = 8) ∧ OkS (M c) ∧ OkB (B2 M c) ∧ (0 ≤ M c 4 ∧ M c 4 ≤ 4) ∧ (0 ≤ M c 5 ∧ M c 5 ≤ 4) ∧ (∀ i, i < (M c 5).toNat → 1 ≤ M (c + 4) i ∧ M (c + 4) i ≤ 9)
theorem sum_c {n : Nat} {M : Mem} {c : Nat} {Y : Nat} (hn : 1000 ≤ n) (hY : Y ≤ 5) (H : CtS M c) : ∀ (k fuel d : Nat) (A : Int) (N : Mem), k < fuel → d + k = Y → SmOff M N c (Y : Int) → ∃ N', f_X1_sumFrom_rec n fuel (d : Int) A N = some N' ∧ SmOff M N' c (Y : Int) ∧ (∀ e, e < d → N' (15 + e) = N (15 + e)) ∧ ∀ s : Nat, s ≤ (M c 8).toNat → N' (15 + d) s = vlS (M c) (B2 M c) (M (c + 4)) (M (c + 3)) (M c 5).toNat k (M c 15 + d) A (s : Int) := by
  obtain ⟨hc, ok, hB, hL, hm, hO⟩ := H
  have h8 : 0 ≤ M c 8 ∧ M c 8 ≤ 40 := by unfold OkS at ok; omega
  have F : ∀ (N : Mem) (d : Nat), d < 6 → SmOff M N c (Y : Int) → SmOff M (fil N (15 + d) 41 0) c (Y : Int) ∧ (∀ e, e ≠ d → fil N (15 + d) 41 0 (15 + e) = N (15 + e)) ∧ ∀ s, s < 41 → fil N (15 + d) 41 0 (15 + d) s = 0 := fun N d hd h => by
    unfold fil
    exact ⟨⟨fun a ha => by rw [sr_ne _ _ (by omega)]; exact h.1 a ha, by rw [sr_ne _ _ (by omega)]; exact h.2.1, by rw [sr_ne _ _ (by omega)]; exact h.2.2⟩, fun e he => by rw [sr_ne _ _ (by omega)], fun s hs => by rw [sr_same, if_pos hs]⟩
  intro k
  induction k with
  | zero =>
    intro fuel d A N hf hd h
    obtain ⟨g, rfl⟩ : ∃ g, fuel = g + 1 := ⟨fuel - 1, by omega⟩
    obtain ⟨f1, f2, f3⟩ := F N d (by omega) h
    refine ⟨fil N (15 + d) 41 0, ?_, f1, fun e he => f2 e (by omega), fun s hs => by rw [f3 s (by omega)]; rfl⟩
    unfold f_X1_sumFrom_rec f_X1_sumFrom
    rw [wr_id (x := (d : Int)) (by omega) (by omega), if_pos (by omega), rx_id rfl (show d < 6 by omega) (by decide), Option.bind_some, Option.bind_some, show d * 1 + 15 = 15 + d by omega, f1.2.2, wr_id (x := (Y : Int)) (by omega) (by omega), if_neg (by omega)]
  | succ k ih =>
    intro fuel d A N hf hd h
    obtain ⟨g, rfl⟩ : ∃ g, fuel = g + 1 := ⟨fuel - 1, by omega⟩
    obtain ⟨f1, f2, f3⟩ := F N d (by omega) h
    have vr := vl_rng (R := M (c + 3)) ok hB (by omega) hO k
    have Wr := Wk_rng k (by omega)
    -- one of the two kinds of year
    have step : ∀ (f : Nat) (X : Mem), f < 2 → SmOff M X c (Y : Int) → ∃ X', f_X1_sumFrom_27 n (f_X1_sumFrom_rec n g) (d : Int) A (f : Int) X = some (.inl ((f : Int) + 1, X')) ∧ SmOff M X' c (Y : Int) ∧ (∀ e, e < d → X' (15 + e) = X (15 + e)) ∧ ∀ s : Nat, s ≤ (M c 8).toNat → X' (15 + d) s = X (15 + d) s + vbS (M c) (B2 M c) (M (c + 4)) (M (c + 3)) (M c 5).toNat (vlS (M c) (B2 M c) (M (c + 4)) (M (c + 3)) (M c 5).toNat k (M c 15 + d + 1)) (M c 15 + d) A (s : Int) (f : Int) := by
      intro f X hf2 hX
      have hF : isF (f : Int) := by unfold isF; omega
      have eX := hX.at hc
      have eT := telling_c (n := n) (j := c) (M := X) (A := A) (y := M c 15 + d) (f := (f : Int)) (by omega) (by rw [eX.1]; exact hm) hF
      rw [eX.1, eX.2.1] at eT
      by_cases z : tlS (M (c + 3)) A (M c 15 + d) f (M c 5).toNat = 0
      · refine ⟨X, ?_, hX, fun e he => rfl, fun s hs => by unfold vbS; rw [if_pos z]; omega⟩
        unfold f_X1_sumFrom_27 f_X1_sumFrom_74
        rw [wr_id (x := (f : Int)) (by omega) (by omega), if_neg (by omega), hX.2.1, ck_c hc, Option.bind_some, Option.bind_some, eX.1, eT, Option.bind_some, tlS_wr, if_pos z]
      · obtain ⟨P, a1, a2, a3, a4⟩ := ih g (d + 1) (tlS (M (c + 3)) A (M c 15 + d) f (M c 5).toNat) X (by omega) (by omega) hX
        have a4' : ∀ t : Nat, t ≤ (M c 8).toNat → P (15 + (d + 1)) t = vlS (M c) (B2 M c) (M (c + 4)) (M (c + 3)) (M c 5).toNat k (M c 15 + d + 1) (tlS (M (c + 3)) A (M c 15 + d) f (M c 5).toNat) (t : Int) := fun t ht => by
          rw [a4 t ht, show M c 15 + ((d + 1 : Nat) : Int) = M c 15 + d + 1 by omega]
        have hgn := gn_rg (M := M) (N := P) (c := c) (d := d + 1) (v := vlS (M c) (B2 M c) (M (c + 4)) (M (c + 3)) (M c 5).toNat k (M c 15 + d + 1)) (W := Wk k) (are := tlS (M (c + 3)) A (M c 15 + d) f (M c 5).toNat) (f := (f : Int)) ok hm hO hF Wr.2 a4' (fun a s q1 q2 => ⟨(vr _ a s q1 q2).1, (vr _ a s q1 q2).2.1⟩)
        obtain ⟨Q, b1, b2, b3, b4⟩ := addYear_c (n := n) (M := M) (N := P) (c := c) (d := d) (Y := (Y : Int)) (are := tlS (M (c + 3)) A (M c 15 + d) f (M c 5).toNat) (f := (f : Int)) hn hc a2 ok hL hm hB hF (by omega) hgn
        refine ⟨Q, ?_, b2, fun e he => by rw [b3 e (by omega) (by omega), a3 e (by omega)], fun s hs => ?_⟩
        · unfold f_X1_sumFrom_27 f_X1_sumFrom_74
          rw [wr_id (x := (f : Int)) (by omega) (by omega), if_neg (by omega), hX.2.1, ck_c hc, Option.bind_some, Option.bind_some, eX.1, eT, Option.bind_some, tlS_wr, if_neg z, show (d : Int) + 1 = ((d + 1 : Nat) : Int) by omega, a1, Option.bind_some, b1, Option.bind_some]
        · rw [b4 s hs, a3 d (by omega), ad_vb (v := vlS (M c) (B2 M c) (M (c + 4)) (M (c + 3)) (M c 5).toNat k (M c 15 + d + 1)) ok hB hF (by omega) a4']
          unfold vbS
          rw [if_neg z]
    obtain ⟨X1, s1, s2, s3, s4⟩ := step 0 _ (by decide) f1
    obtain ⟨X2, t1, t2, t3, t4⟩ := step 1 X1 (by decide) s2
    refine ⟨X2, ?_, t2, fun e he => by rw [t3 e he, s3 e he, f2 e (by omega)], fun s hs => ?_⟩
    · unfold f_X1_sumFrom_rec f_X1_sumFrom
      rw [wr_id (x := (d : Int)) (by omega) (by omega), if_pos (by omega), rx_id rfl (show d < 6 by omega) (by decide), Option.bind_some, Option.bind_some, show d * 1 + 15 = 15 + d by omega, f1.2.2, wr_id (x := (Y : Int)) (by omega) (by omega), if_pos (by omega)]
      have s1' : f_X1_sumFrom_27 n (f_X1_sumFrom_rec n g) (d : Int) A 0 (fil N (15 + d) 41 0) = some (.inl (1, X1)) := s1
      have t1' : f_X1_sumFrom_27 n (f_X1_sumFrom_rec n g) (d : Int) A 1 X1 = some (.inl (2, X2)) := t1
      have u1 : f_X1_sumFrom_27 n (f_X1_sumFrom_rec n g) (d : Int) A 2 X2 = some (.inr X2) := by
        unfold f_X1_sumFrom_27
        rw [wr_2, if_pos (by decide)]
      exact lp_two (f := fun s => f_X1_sumFrom_27 n (f_X1_sumFrom_rec n g) (d : Int) A s.1 s.2) (s := ((0 : Int), fil N (15 + d) 41 0)) (s1 := ((1 : Int), X1)) (s2 := ((2 : Int), X2)) (by omega) s1' t1' u1
    · rw [t4 s hs, s4 s hs, f3 s (by omega), vlS, Int.zero_add]
      rfl
