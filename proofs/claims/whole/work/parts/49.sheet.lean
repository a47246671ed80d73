/-! sheet, lay -/
def zf (r : Nat → Int) (k i : Nat) : Nat → Int := fun q => if 40 * k ≤ q ∧ q < 40 * k + i then 0 else r q
theorem sheet_lp {n k : Nat} {X : Mem} (hn : 1000 ≤ n) (hk : k < 4) : lp (fun s => f_X6_sheet_56 n (k : Int) s.1 s.2) n (0, X) = some (1, sr X 59 (zf (X 59) k 40)) := by
  have h0 : sr X 59 (zf (X 59) k 0) = X := by
    have : zf (X 59) k 0 = X 59 := by funext q; unfold zf; rw [if_neg (by omega)]
    rw [this, sr_self]
  have A := lp_run0 (f := fun s => f_X6_sheet_56 n (k : Int) s.1 s.2) (r := ((1 : Int), sr X 59 (zf (X 59) k 40))) (fun i => ((i : Int), sr X 59 (zf (X 59) k i))) 40 (n := n) (by omega) (fun i hi => ?_) ?_
  · rw [h0] at A
    exact A
  · show f_X6_sheet_56 n (k : Int) (i : Int) (sr X 59 (zf (X 59) k i)) = some (Sum.inl (((i : Int) + 1), sr X 59 (zf (X 59) k (i + 1))))
    unfold f_X6_sheet_56
    rw [wr_id (by omega) (by omega), if_neg (by omega), wt_id (by omega) (by omega) (by omega), Option.bind_some, show (40 * (k : Int) + (i : Int)).toNat = 40 * k + i by omega]
    congr 3
    unfold st
    rw [sr_same, sr_sr]
    congr 1
    funext q
    unfold zf
    by_cases hq : q = 40 * k + i
    · rw [if_pos hq, if_pos (by omega)]
    · rw [if_neg hq]
      by_cases hq2 : 40 * k ≤ q ∧ q < 40 * k + i
      · rw [if_pos hq2, if_pos (by omega)]
      · rw [if_neg hq2, if_neg (by omega)]
  · show f_X6_sheet_56 n (k : Int) ((40 : Nat) : Int) _ = _
    unfold f_X6_sheet_56
    rw [wr_id (by omega) (by omega), if_pos (by omega)]
/-- only a sheet changed -/
theorem Rel_sh {M Z : Mem} {k : Nat} (g : Rel M) (e : ∀ a, a ≠ 38 + 2 * k → a ≠ 39 + 2 * k → a ≠ 57 → a ≠ 58 → a ≠ 59 → Z a = M a) (hk : k < 4) (e57 : ∀ i, i ≠ k → Z 57 i = M 57 i) (e58 : ∀ i, i ≠ k → Z 58 i = M 58 i) (e59 : ∀ i, i < 40 * k ∨ 40 * k + 40 ≤ i → Z 59 i = M 59 i) (s : ShOk Z k) : Rel Z := by
  have hL : (M 3 4).toNat ≤ 4 ∧ (M 3 5).toNat ≤ 4 := by have := g.1.1; have := g.1.2.1; omega
  obtain ⟨gA, gT, gK, gI, gH, gC⟩ := g
  have Y : ∀ a, a < 38 ∨ 45 < a → a ≠ 57 → a ≠ 58 → a ≠ 59 → Z a = M a := fun a h1 h2 h3 h4 => e a (by omega) (by omega) h2 h3 h4
  have Y46 := Y 46 (by decide) (by decide) (by decide) (by decide)
  refine ⟨?_, ?_, ?_, ?_, ⟨fun i hi => ?_, ?_⟩, ?_⟩
  · exact RelA_k gA (fun a ha => Y a (by omega) (by omega) (by omega) (by omega)) (fun i hi => by rw [Y 47 (by decide) (by decide) (by decide) (by decide)]) (by rw [Y46]) (by rw [Y46])
  · exact RelT_k gT (by rw [Y 1 (by decide) (by decide) (by decide) (by decide)]) (by rw [Y 1 (by decide) (by decide) (by decide) (by decide)]) (by rw [Y46]) (by rw [Y46]) (Y 2 (by decide) (by decide) (by decide) (by decide)) (Y 51 (by decide) (by decide) (by decide) (by decide))
  · exact RelK_k gK (Y 22 (by decide) (by decide) (by decide) (by decide)) (Y 23 (by decide) (by decide) (by decide) (by decide)) (Y 24 (by decide) (by decide) (by decide) (by decide)) (Y 55 (by decide) (by decide) (by decide) (by decide)) (by rw [Y46])
  · exact RelI_k hL gI (fun a ha => Y a (by omega) (by omega) (by omega) (by omega)) (by rw [Y 3 (by decide) (by decide) (by decide) (by decide)]) (by rw [Y 3 (by decide) (by decide) (by decide) (by decide)]) (fun i _ _ => by rw [Y 47 (by decide) (by decide) (by decide) (by decide)])
  · by_cases q : i = k
    · rw [q]; exact s
    · have := gH.1 i hi
      unfold ShOk at this ⊢
      rw [e (38 + 2 * i) (by omega) (by omega) (by omega) (by omega) (by omega), e (39 + 2 * i) (by omega) (by omega) (by omega) (by omega) (by omega), e57 i q, e58 i q]
      exact ⟨this.1, fun j hj => by rw [e59 _ (by omega)]; exact this.2 j hj⟩
  · rw [Y46, Y 0 (by decide) (by decide) (by decide) (by decide)]; exact gH.2
  · exact RelC_k gC (Y 52 (by decide) (by decide) (by decide) (by decide)) (Y 53 (by decide) (by decide) (by decide) (by decide))
theorem op_sheet {n : Nat} {M : Mem} {x y z : Int} (hn : 1000 ≤ n) (hx : rg x) (hy : rg y) (hz : rg z) (h : Rel M) : ∃ r M1 M2, f_X5_sheet x y z M = some (r, M1) ∧ f_X6_sheet n x y z M1 = some (r, M2) ∧ Rel M2 := by
  unfold f_X5_sheet f_X6_sheet
  rw [isSheet_c hx, Option.bind_some, ifbi, isLane_c hy, Option.bind_some, ifbi, wr_rg hz]
  by_cases g : 0 ≤ x ∧ x ≤ 3
  · rw [if_pos g]
    by_cases g2 : 0 ≤ y ∧ y ≤ 2
    · rw [if_pos g2]
      have e0 : ∀ N : Mem, ∀ O : Option (Int × Mem), ((f_X6_in (wr x) 0 3 N).bind fun v1 => if wr v1 = 0 then some (-1, N) else (f_X6_in (wr y) 0 2 N).bind fun v2 => if wr v2 = 0 then some (-1, N) else O) = O := fun N O => by
        rw [wr_rg hx, in_r hx (rgl 0) (rgl 3), Option.bind_some, if_pos g, if_neg w1n0, wr_rg hy, in_r hy (rgl 0) (rgl 2), Option.bind_some, if_pos g2, if_neg w1n0]
      by_cases g3 : z ≤ 40
      · by_cases g4 : 0 ≤ z
        · obtain ⟨k, rfl⟩ : ∃ k : Nat, x = (k : Int) := ⟨x.toNat, by omega⟩
          have hk : k < 4 := by omega
          refine ⟨1, fil (st (st M (38 + 2 * k) 2 y) (38 + 2 * k) 1 z) (38 + 2 * k + 1) 40 0, sr (st (st (fil (st (st M (38 + 2 * k) 2 y) (38 + 2 * k) 1 z) (38 + 2 * k + 1) 40 0) 57 k y) 58 k z) 59 (zf (st (st (fil (st (st M (38 + 2 * k) 2 y) (38 + 2 * k) 1 z) (38 + 2 * k + 1) 40 0) 57 k y) 58 k z 59) k 40), ?_, ?_, ?_⟩
          · rw [if_pos g3, if_pos g4, rx_id rfl hk (by decide), Option.bind_some, show k * 2 + 38 = 38 + 2 * k by omega]
            rfl
          · rw [e0, if_pos g3, if_pos g4, wt_id (by omega) (by omega) (by omega), Option.bind_some, wt_id (by omega) (by omega) (by omega), Option.bind_some, Int.toNat_natCast, sheet_lp hn hk]
          · have F : ∀ a i, fil (st (st M (38 + 2 * k) 2 y) (38 + 2 * k) 1 z) (38 + 2 * k + 1) 40 0 a i = if a = 39 + 2 * k ∧ i < 40 then 0 else if a = 38 + 2 * k ∧ i = 1 then z else if a = 38 + 2 * k ∧ i = 2 then y else M a i := fun a i => by
              unfold fil
              by_cases q : a = 38 + 2 * k + 1
              · subst q
                rw [sr_same]
                by_cases q2 : i < 40
                · simp [q2, show 38 + 2 * k + 1 = 39 + 2 * k by omega]
                · rw [if_neg q2, st_at, st_at, if_neg (by omega), if_neg (by omega), if_neg (by omega)]
              · rw [sr_ne _ _ q, st_at, st_at, if_neg (show ¬ (a = 39 + 2 * k ∧ i < 40) by omega)]
            have G : ∀ a i, sr (st (st (fil (st (st M (38 + 2 * k) 2 y) (38 + 2 * k) 1 z) (38 + 2 * k + 1) 40 0) 57 k y) 58 k z) 59 (zf (st (st (fil (st (st M (38 + 2 * k) 2 y) (38 + 2 * k) 1 z) (38 + 2 * k + 1) 40 0) 57 k y) 58 k z 59) k 40) a i = if a = 59 ∧ 40 * k ≤ i ∧ i < 40 * k + 40 then 0 else if a = 58 ∧ i = k then z else if a = 57 ∧ i = k then y else fil (st (st M (38 + 2 * k) 2 y) (38 + 2 * k) 1 z) (38 + 2 * k + 1) 40 0 a i := fun a i => by
              by_cases q : a = 59
              · subst q
                rw [sr_same]; unfold zf
                by_cases q2 : 40 * k ≤ i ∧ i < 40 * k + 40
                · rw [if_pos q2, if_pos ⟨rfl, q2⟩]
                · rw [if_neg q2, if_neg (by omega), st_at, st_at]
              · rw [sr_ne _ _ q, st_at, st_at, if_neg (show ¬ (a = 59 ∧ 40 * k ≤ i ∧ i < 40 * k + 40) by omega)]
            generalize sr (st (st (fil (st (st M (38 + 2 * k) 2 y) (38 + 2 * k) 1 z) (38 + 2 * k + 1) 40 0) 57 k y) 58 k z) 59 (zf (st (st (fil (st (st M (38 + 2 * k) 2 y) (38 + 2 * k) 1 z) (38 + 2 * k + 1) 40 0) 57 k y) 58 k z 59) k 40) = Z at G ⊢
            simp only [F] at G
            refine Rel_sh (k := k) h (fun a h1 h2 h3 h4 h5 => ?_) hk (fun i hi => ?_) (fun i hi => ?_) (fun i hi => ?_) ⟨Or.inr ⟨?_, ?_, ?_, ?_⟩, fun i hi => ?_⟩
            · funext i; rw [G, if_neg (by omega), if_neg (by omega), if_neg (by omega), if_neg (by omega), if_neg (by omega), if_neg (by omega)]
            · rw [G, if_neg (by omega), if_neg (by omega), if_neg (by omega), if_neg (by omega), if_neg (by omega), if_neg (by omega)]
            · rw [G, if_neg (by omega), if_neg (by omega), if_neg (by omega), if_neg (by omega), if_neg (by omega), if_neg (by omega)]
            · rw [G, if_neg (by omega), if_neg (by omega), if_neg (by omega), if_neg (by omega), if_neg (by omega), if_neg (by omega)]
            · rw [G, if_neg (by omega), if_neg (by omega), if_neg (by omega), if_neg (by omega), if_pos (by omega)]; omega
            · rw [G, G, if_neg (by omega), if_pos (by omega), if_neg (by omega), if_neg (by omega), if_neg (by omega), if_neg (by omega), if_pos (by omega)]
            · rw [G, if_neg (by omega), if_neg (by omega), if_neg (by omega), if_neg (by omega), if_neg (by omega), if_pos (by omega)]; exact g2
            · rw [G, G, if_neg (by omega), if_neg (by omega), if_pos (by omega), if_neg (by omega), if_neg (by omega), if_neg (by omega), if_neg (by omega), if_neg (by omega), if_pos (by omega)]
            · rw [G, G, if_pos (by omega), if_neg (by omega), if_neg (by omega), if_neg (by omega), if_pos (by omega)]
              exact ⟨rfl, rgl 0⟩
        · refine ⟨-14, M, M, by rw [if_pos g3, if_neg g4], ?_, h⟩
          rw [e0, if_pos g3, if_neg g4]
      · refine ⟨-1, M, M, by rw [if_neg g3], ?_, h⟩
        rw [e0, if_neg g3]
    · rw [if_neg g2]
      refine ⟨-1, M, M, rfl, ?_, h⟩
      rw [wr_rg hx, in_r hx (rgl 0) (rgl 3), Option.bind_some, if_pos g, if_neg w1n0, wr_rg hy, in_r hy (rgl 0) (rgl 2), Option.bind_some, if_neg g2, if_pos wr_0]
  · rw [if_neg g]
    refine ⟨-1, M, M, rfl, ?_, h⟩
    rw [wr_rg hx, in_r hx (rgl 0) (rgl 3), Option.bind_some, if_neg g, if_pos wr_0]
theorem bvs (x : BitVec 32) (k s : Nat) (h : k + s = 32) (h0 : 0 < k) (h1 : k < 32) : (x.signExtend k).signExtend 32 = (x <<< s).sshiftRight s := by
  apply BitVec.eq_of_getLsbD_eq
  intro i hi
  have a1 : i < 32 := hi
  rw [BitVec.getLsbD_signExtend, BitVec.getLsbD_sshiftRight]
  have e1 : decide (i < 32) = true := by simp [a1]
  have e2 : decide (32 ≤ i) = false := by simp; omega
  rw [e1, e2, Bool.true_and, Bool.not_false, Bool.true_and]
  by_cases q : i < k
  · rw [if_pos q, if_pos (by omega), BitVec.getLsbD_signExtend, BitVec.getLsbD_shiftLeft]
    have e3 : decide (i < k) = true := by simp [q]
    have e4 : decide (s + i < 32) = true := by simp; omega
    have e5 : decide (s + i < s) = false := by simp
    rw [e3, e4, e5, if_pos a1, show s + i - s = i by omega]; rfl
  · rw [if_neg q, if_neg (by omega), BitVec.msb_eq_getLsbD_last, BitVec.msb_eq_getLsbD_last, BitVec.getLsbD_signExtend, BitVec.getLsbD_shiftLeft]
    have e3 : decide (k - 1 < k) = true := by simp; omega
    have e4 : decide (32 - 1 < 32) = true := by decide
    have e5 : decide (32 - 1 < s) = false := by simp; omega
    rw [e3, e4, e5, if_pos (by omega), show 32 - 1 - s = k - 1 by omega]; rfl
theorem b8_eq (x : Int) : bShr (bShl x 24) 24 = b8 x := by
  unfold bShr bShl b8
  rw [Int32.ofInt_toInt]
  refine congrArg Int32.toInt ?_
  apply Int32.toBitVec_inj.1
  exact (bvs (Int32.ofInt x).toBitVec 8 24 rfl (by decide) (by decide)).symm
theorem b16_eq (x : Int) : bShr (bShl x 16) 16 = b16 x := by
  unfold bShr bShl b16
  rw [Int32.ofInt_toInt]
  refine congrArg Int32.toInt ?_
  apply Int32.toBitVec_inj.1
  exact (bvs (Int32.ofInt x).toBitVec 16 16 rfl (by decide) (by decide)).symm
theorem rg32 (x : Int32) : rg x.toInt := by
  unfold rg
  have := Int32.le_toInt x
  have := Int32.toInt_lt x
  omega
/-- what lies in a cell, by its lane -/
def lnS (l x : Int) : Int := if l = 0 then b8 x else if l = 1 then b16 x else x
theorem lnS_rg {l x : Int} (h : rg x) : rg (lnS l x) := by
  unfold lnS; split
  · exact rg32 _
  · split
    · exact rg32 _
    · exact h
/-- one cell laid on both sides -/
theorem Rel_lay {M : Mem} {k i : Nat} {v : Int} (h : Rel M) (hk : k < 4) (hi : i < 40) (hv : rg v) : Rel (st (st M (39 + 2 * k) i v) 59 (40 * k + i) v) := by
  obtain ⟨s1, s2⟩ := h.2.2.2.2.1.1 k hk
  refine Rel_sh (k := k) h (fun a h1 h2 h3 h4 h5 => ?_) hk (fun j hj => ?_) (fun j hj => ?_) (fun j hj => ?_) ⟨?_, fun j hj => ?_⟩
  · funext j; rw [st_at, st_at, if_neg (by omega), if_neg (by omega)]
  · rw [st_at, st_at, if_neg (by omega), if_neg (by omega)]
  · rw [st_at, st_at, if_neg (by omega), if_neg (by omega)]
  · rw [st_at, st_at, if_neg (by omega), if_neg (by omega)]
  · rw [st_ne _ _ _ (show (38 + 2 * k) ≠ 59 by omega), st_ne _ _ _ (show (38 + 2 * k) ≠ 39 + 2 * k by omega), st_ne _ _ _ (show (57 : Nat) ≠ 59 by omega), st_ne _ _ _ (show 57 ≠ 39 + 2 * k by omega), st_ne _ _ _ (show (58 : Nat) ≠ 59 by omega), st_ne _ _ _ (show 58 ≠ 39 + 2 * k by omega)]
    exact s1
  · rw [st_at, st_at, st_at, st_at, if_neg (show ¬ (39 + 2 * k = 59 ∧ j = 40 * k + i) by omega), if_neg (show ¬ (59 = 39 + 2 * k ∧ 40 * k + j = i) by omega)]
    by_cases q : j = i
    · rw [if_pos (by omega), if_pos (by omega)]; exact ⟨rfl, hv⟩
    · rw [if_neg (by omega), if_neg (by omega)]; exact s2 j hj
theorem op_lay {M : Mem} {x y z : Int} (hx : rg x) (hy : rg y) (hz : rg z) (h : Rel M) : ∃ r M1 M2, f_X5_lay x y z M = some (r, M1) ∧ f_X6_lay x y z M1 = some (r, M2) ∧ Rel M2 := by
  unfold f_X5_lay f_X6_lay
  rw [isSheet_c hx, Option.bind_some, ifbi]
  by_cases g : 0 ≤ x ∧ x ≤ 3
  · rw [if_pos g]
    obtain ⟨k, rfl⟩ : ∃ k : Nat, x = (k : Int) := ⟨x.toNat, by omega⟩
    have hk : k < 4 := by omega
    obtain ⟨s1, s2⟩ := h.2.2.2.2.1.1 k hk
    rw [rx_id rfl hk (by decide), Option.bind_some, Option.bind_some, show k * 2 + 38 = 38 + 2 * k by omega]
    unfold f_X4_faultAt f_X4_isNothing
    have e0 : ∀ N : Mem, ∀ O : Option (Int × Mem), ((f_X6_in (wr (k : Int)) 0 3 N).bind fun v1 => if wr v1 = 0 then some (-1, N) else O) = O := fun N O => by
      rw [wr_rg hx, in_r hx (rgl 0) (rgl 3), Option.bind_some, if_pos g, if_neg w1n0]
    rcases s1 with ⟨q1, q2⟩ | ⟨q1, q2, q3, q4⟩
    · refine ⟨-11, M, M, ?_, ?_, h⟩
      · rw [q1, wr_id (x := -1) (by decide) (by decide), if_neg (by decide), Option.bind_some, if_neg w1n0, Option.bind_some, if_neg w1n0]
        rfl
      · rw [e0, rd_id (by omega) (by omega) (by omega), Option.bind_some, Int.toNat_natCast, q2, wr_id (x := -4) (by decide) (by decide), if_pos rfl]
    · rw [wr_id (x := M (38 + 2 * k) 1) (by omega) (by omega), if_pos q1.1, Option.bind_some, if_pos wr_0, within_c hy (rgl 0) (rgl _), Option.bind_some, ifbi]
      by_cases g2 : 0 ≤ y ∧ y ≤ M (38 + 2 * k) 1 - 1
      · obtain ⟨i, rfl⟩ : ∃ i : Nat, y = (i : Int) := ⟨y.toNat, by omega⟩
        have hi : i < 40 := by omega
        refine ⟨1, st M (39 + 2 * k) i (lnS (M (38 + 2 * k) 2) z), st (st M (39 + 2 * k) i (lnS (M (38 + 2 * k) 2) z)) 59 (40 * k + i) (lnS (M (38 + 2 * k) 2) z), ?_, ?_, Rel_lay h hk hi (lnS_rg hz)⟩
        · have e : ∀ w : Int, f_X4_put_31 (38 + 2 * k) w (i : Int) (38 + 2 * k + 1) M = some (st M (39 + 2 * k) i w) := fun w => by
            unfold f_X4_put_31
            rw [wt_id (by omega) (by omega) (by omega), Option.bind_some, Int.toNat_natCast, show 38 + 2 * k + 1 = 39 + 2 * k by omega]
          rw [if_pos g2, Option.bind_some, if_pos wr_0]
          unfold f_X4_put lnS
          rw [e, e, e, wr_id (x := M (38 + 2 * k) 2) (by omega) (by omega)]
          split
          · rfl
          · split <;> rfl
        · have X : ∀ a, a ≠ 39 + 2 * k → st M (39 + 2 * k) i (lnS (M (38 + 2 * k) 2) z) a = M a := fun a ha => st_ne _ _ _ ha
          have e : ∀ w : Int, f_X6_lay_99 w ((40 * (k : Int)) + (i : Int)) (st M (39 + 2 * k) i (lnS (M (38 + 2 * k) 2) z)) = some (1, st (st M (39 + 2 * k) i (lnS (M (38 + 2 * k) 2) z)) 59 (40 * k + i) w) := fun w => by
            unfold f_X6_lay_99
            rw [wt_id (by omega) (by omega) (by omega), Option.bind_some, show (40 * (k : Int) + (i : Int)).toNat = 40 * k + i by omega]
          rw [e0, rd_id (by omega) (by omega) (by omega), Option.bind_some, Option.bind_some, Option.bind_some, rd_id (by omega) (by omega) (by omega), Option.bind_some, Int.toNat_natCast, X 57 (by omega), X 58 (by omega), q4, q2, wr_id (x := M (38 + 2 * k) 2) (by omega) (by omega), if_neg (by omega), wr_rg hy, wr_id (x := M (38 + 2 * k) 1 - 1) (by omega) (by omega), in_r hy (rgl 0) (rgl _), Option.bind_some, if_pos g2, if_neg w1n0, b8_eq, b16_eq, e, e, e]
          unfold lnS
          split
          · rfl
          · split <;> rfl
      · refine ⟨-12, M, M, ?_, ?_, h⟩
        · rw [if_neg g2, Option.bind_some, wr_2, if_neg (by decide)]
          rfl
        · rw [e0, rd_id (by omega) (by omega) (by omega), Option.bind_some, rd_id (by omega) (by omega) (by omega), Option.bind_some, Int.toNat_natCast, q4, q2, wr_id (x := M (38 + 2 * k) 2) (by omega) (by omega), if_neg (by omega), wr_rg hy, wr_id (x := M (38 + 2 * k) 1 - 1) (by omega) (by omega), in_r hy (rgl 0) (rgl _), Option.bind_some, if_neg g2, if_pos wr_0]
  · rw [if_neg g]
    refine ⟨-1, M, M, rfl, ?_, h⟩
    rw [wr_rg hx, in_r hx (rgl 0) (rgl 3), Option.bind_some, if_neg g, if_pos wr_0]
