/-! the calls that tell and change single numbers, and single years -/
theorem in_r {x lo hi : Int} {M : Mem} (hx : rg x) (hlo : rg lo) (hhi : rg hi) : f_X6_in x lo hi M = some (if lo ≤ x ∧ x ≤ hi then 1 else 0) := by
  unfold f_X6_in
  unfold rg at hx hlo hhi
  rw [wl_id (by omega) (by omega), wl_id (by omega) (by omega), wl_id (by omega) (by omega)]
  by_cases h1 : x < lo
  · rw [if_pos h1, if_neg (by omega)]
  · rw [if_neg h1]
    by_cases h2 : hi < x
    · rw [if_pos h2, if_neg (by omega)]
    · rw [if_neg h2, if_pos (by omega)]
theorem rgl (n : Int) (h : -2147483648 ≤ n ∧ n ≤ 2147483647 := by omega) : rg n := h
theorem isLand_r {x : Int} {M : Mem} (hx : rg x) (h : 0 ≤ M 46 1 ∧ M 46 1 ≤ 4) : f_X6_isLand x M = some (if 0 ≤ x ∧ x ≤ M 46 1 - 1 then 1 else 0) := by
  unfold f_X6_isLand
  rw [wr_rg hx, wr_id (by omega) (by omega), in_r hx (rgl 0) (rgl _), Option.bind_some, bz_bi, Option.bind_some]
theorem isReading_r {x : Int} {M : Mem} (hx : rg x) (h : 0 ≤ M 46 3 ∧ M 46 3 ≤ 4) : f_X6_isReading x M = some (if 0 ≤ x ∧ x ≤ M 46 3 - 1 then 1 else 0) := by
  unfold f_X6_isReading
  rw [wr_rg hx, wr_id (by omega) (by omega), in_r hx (rgl 0) (rgl _), Option.bind_some, bz_bi, Option.bind_some]
theorem isFat_r {x : Int} {M : Mem} (hx : rg x) : f_X6_isFat x M = some (if x = 0 ∨ x = 1 then 1 else 0) := by
  unfold f_X6_isFat
  rw [wr_rg hx, in_r hx (rgl 0) (rgl 1), Option.bind_some, bz_bi, Option.bind_some]
  congr 1
  by_cases c : x = 0 ∨ x = 1
  · rw [if_pos c, if_pos (by omega)]
  · rw [if_neg c, if_neg (by omega)]
theorem sets_r {g x v : Int} {M : Mem} {p : Nat} (hg : isF g) (hx : x = (p : Int)) (hp : p < 125) : f_X6_sets g x v M = if g = 0 then some (-1, M) else some (M 47 p, st M 47 p v) := by
  unfold f_X6_sets
  rw [wr_F hg]
  split
  · rfl
  · rw [hx, rd_id (by omega) (by omega) (by omega), Option.bind_some, wt_id (by omega) (by omega) (by omega), Option.bind_some, Int.toNat_natCast]
/-- what all but the court's own numbers rests on -/
def OffA (M M' : Mem) : Prop := ∀ a k, ¬ Scr a k → ¬ ((a = 3 ∧ k ≠ 4 ∧ k ≠ 5) ∨ a = 4 ∨ a = 5 ∨ a = 7 ∨ (a = 47 ∧ k < 25)) → M' a k = M a k
theorem Rel_A {M M' : Mem} (g : Rel M) (h : OffA M M') (c : CtOk M' 3) (q : CPg M' 3 0) : Rel M' := by
  obtain ⟨gA, gT, gK, gI, gH, gC⟩ := g
  have hL : (M 3 4).toNat ≤ 4 ∧ (M 3 5).toNat ≤ 4 := by have := gA.1; have := gA.2.1; omega
  have e : ∀ a, a = 6 ∨ (22 ≤ a ∧ a ≤ 45) ∨ a = 0 ∨ a = 2 ∨ a = 48 ∨ a = 51 ∨ a = 52 ∨ a = 53 ∨ (55 ≤ a ∧ a ≤ 59) → M' a = M a := fun a ha => funext (fun k => h a k (by unfold Scr; omega) (by omega))
  have e34 : M' 3 4 = M 3 4 := h 3 4 (by unfold Scr; omega) (by omega)
  have e35 : M' 3 5 = M 3 5 := h 3 5 (by unfold Scr; omega) (by omega)
  have e47 : ∀ k, 25 ≤ k → k < 75 → M' 47 k = M 47 k := fun k h1 h2 => h 47 k (by unfold Scr; omega) (by omega)
  refine ⟨?_, ?_, ?_, ?_, ?_, ?_⟩
  · unfold RelA at gA ⊢
    rw [e34, e35, e 48 (by omega), e 6 (by omega), h 46 1 (by unfold Scr; omega) (by omega), h 46 3 (by unfold Scr; omega) (by omega)]
    exact ⟨gA.1, gA.2.1, gA.2.2.1, gA.2.2.2.1, gA.2.2.2.2.1, c, q⟩
  · unfold RelT at gT ⊢
    rw [h 1 1 (by unfold Scr; omega) (by omega), h 1 2 (by unfold Scr; omega) (by omega), h 46 10 (by unfold Scr; omega) (by omega), h 46 11 (by unfold Scr; omega) (by omega), e 51 (by omega), e 2 (by omega)]
    exact gT
  · unfold RelK at gK ⊢
    rw [e 22 (by omega), e 23 (by omega), e 24 (by omega), e 55 (by omega), h 46 22 (by unfold Scr; omega) (by omega)]
    exact gK
  · intro k hk
    obtain ⟨a1, a2, a3⟩ := gI k hk
    rw [e 26 (by omega), e 56 (by omega)]
    refine ⟨a1, a2, fun z => ⟨?_, ?_⟩⟩
    · have b := (a3 z).1
      unfold CtOk at b ⊢
      rw [e (28 + 5 * k) (by omega), e (28 + 5 * k + 1) (by omega), e (28 + 5 * k + 2) (by omega), e (28 + 5 * k + 3) (by omega), e (28 + 5 * k + 4) (by omega), e34, e35, e 6 (by omega)]
      exact b
    · have b := (a3 z).2
      unfold CPg at b ⊢
      rw [e (28 + 5 * k) (by omega), e (28 + 5 * k + 1) (by omega), e (28 + 5 * k + 2) (by omega), e (28 + 5 * k + 4) (by omega), e34, e35]
      refine ⟨Rw.trans (vw_off (fun i h1 h2 => e47 i (by omega) (by omega))) b.1, fun i hi => ?_, fun r hr => ?_⟩
      · rw [e47 _ (by omega) (by omega), e47 _ (by omega) (by omega)]; exact b.2.1 i hi
      · rw [e47 _ (by omega) (by omega)]; exact b.2.2 r hr
  · refine ⟨fun k hk => ?_, ?_⟩
    · have g1 := gH.1 k hk
      unfold ShOk at g1 ⊢
      rw [e (38 + 2 * k) (by omega), e (39 + 2 * k) (by omega), e 57 (by omega), e 58 (by omega), e 59 (by omega)]
      exact g1
    · rw [e 0 (by omega), h 46 27 (by unfold Scr; omega) (by omega)]; exact gH.2
  · unfold RelC at gC ⊢
    rw [e 52 (by omega), e 53 (by omega)]
    exact gC
/-- the court's numbers changed, on both sides -/
theorem Rel_row {M : Mem} (g : Rel M) {row r : Nat → Int} (h4 : row 4 = M 3 4) (h5 : row 5 = M 3 5) (ok : OkS row) (sc : row 10 ≤ row 8) (pa : 0 ≤ row 16 ∧ row 16 ≤ 255) (o : ∀ k, (25 ≤ k ∧ k < 75) ∨ k < 12 → r k = M 47 k) (rw0 : Rw (vw r 0) row) : Rel (sr (sr M 3 row) 47 r) := by
  have g0 := g
  obtain ⟨⟨a1, a2, a3, a4, a5, a6, a7⟩, -⟩ := g0
  have e3 : sr (sr M 3 row) 47 r 3 = row := by rw [sr_ne _ _ (by decide), sr_same]
  have e47 : sr (sr M 3 row) 47 r 47 = r := sr_same _ _ _
  have ea : ∀ a, a ≠ 3 → a ≠ 47 → sr (sr M 3 row) 47 r a = M a := fun a h1 h2 => by rw [sr_ne _ _ h2, sr_ne _ _ h1]
  refine Rel_A g ?_ ?_ ?_
  · intro a k h1 h2
    by_cases q3 : a = 3
    · subst q3
      rw [e3]
      by_cases k4 : k = 4
      · rw [k4]; exact h4
      · by_cases k5 : k = 5
        · rw [k5]; exact h5
        · exact absurd (Or.inl ⟨rfl, k4, k5⟩) h2
    · by_cases q47 : a = 47
      · subst q47
        rw [e47]
        unfold Scr at h1
        exact o k (by omega)
      · rw [ea a q3 q47]
  · unfold CtOk at a6 ⊢
    rw [e3, ea (3 + 1) (by decide) (by decide), ea (3 + 2) (by decide) (by decide), ea (3 + 3) (by decide) (by decide), ea (3 + 4) (by decide) (by decide), h4, h5]
    exact ⟨ok, sc, pa, rfl, rfl, a6.2.2.2.2.2⟩
  · unfold CPg at a7 ⊢
    rw [e3, e47, ea (3 + 1) (by decide) (by decide), ea (3 + 2) (by decide) (by decide), ea (3 + 4) (by decide) (by decide), h4, h5]
    refine ⟨rw0, fun i hi => ?_, fun q hq => ?_⟩
    · rw [o _ (by omega), o _ (by omega)]; exact a7.2.1 i hi
    · rw [o _ (by omega)]; exact a7.2.2 q hq
def ps (k : Nat) : Nat := if k = 8 then 14 else if k = 11 then 18 else if k = 12 then 17 else k + 6
def wv (k : Nat) (v : Int) : Int := if k = 8 then 40 - v else if k = 11 then v - 1 else if k = 12 then v - 1 else v
theorem vw_ps (r : Nat → Int) (i : Nat) : vw r 0 i = if i = 8 then 40 - r (ps i) else if i = 11 then r (ps i) + 1 else if i = 12 then r (ps i) + 1 else r (ps i) := by
  unfold vw ps
  by_cases i8 : i = 8
  · simp [i8]
  · by_cases i11 : i = 11
    · simp [i11]
    · by_cases i12 : i = 12
      · simp [i12]
      · simp [i8, i11, i12]
theorem ps_inj {i k : Nat} (h1 : 6 ≤ i) (h2 : i ≤ 18) (h3 : 6 ≤ k) (h4 : k ≤ 18) (e : i ≠ k) : ps i ≠ ps k := by
  unfold ps
  split <;> (try split) <;> (try split) <;> (try split) <;> (try split) <;> (try split) <;> omega
theorem Rw_upd {r S : Nat → Int} (h : Rw (vw r 0) S) (k : Nat) (hk : 6 ≤ k ∧ k ≤ 18) (v : Int) : Rw (vw (fun i => if i = ps k then wv k v else r i) 0) (fun i => if i = k then v else S i) := by
  intro i h1 h2
  have hi := h i h1 h2
  show vw _ 0 i = if i = k then v else S i
  rw [vw_ps] at hi ⊢
  by_cases e : i = k
  · subst e
    rw [if_pos rfl, if_pos rfl]
    unfold wv
    split <;> (try split) <;> (try split) <;> omega
  · rw [if_neg e, if_neg (ps_inj h1 h2 hk.1 hk.2 e)]
    exact hi
theorem Rel_set {M : Mem} (g : Rel M) (k : Nat) (hk : 6 ≤ k ∧ k ≤ 18) (v : Int) (ok : OkS (fun i => if i = k then v else M 3 i)) (sc : (if (10 : Nat) = k then v else M 3 10) ≤ (if (8 : Nat) = k then v else M 3 8)) (hn : k ≠ 16) : Rel (st (st M 3 k v) 47 (ps k) (wv k v)) := by
  have g0 := g
  obtain ⟨⟨a1, a2, a3, a4, a5, a6, a7⟩, -⟩ := g0
  have e : st (st M 3 k v) 47 (ps k) (wv k v) = sr (sr M 3 (fun i => if i = k then v else M 3 i)) 47 (fun i => if i = ps k then wv k v else M 47 i) := by
    unfold st
    rw [sr_ne (a := 3) (b := 47) _ _ (by decide)]
  rw [e]
  refine Rel_row g (by rw [if_neg (by omega)]) (by rw [if_neg (by omega)]) ok sc (by rw [if_neg (by omega)]; exact a6.2.2.1) (fun i hi => ?_) (Rw_upd a7.1 k hk v)
  rw [if_neg (by unfold ps; split <;> (try split) <;> (try split) <;> omega)]
theorem OkS_upd {S : Nat → Int} (h : OkS S) (k : Nat) (v : Int) (hv : (k = 6 → 0 ≤ v ∧ v ≤ 40) ∧ (k = 7 → 0 ≤ v ∧ v ≤ 20) ∧ (k = 8 → 0 ≤ v ∧ v ≤ 40) ∧ (k = 9 → 0 ≤ v ∧ v ≤ 9) ∧ (k = 10 → 0 ≤ v ∧ v ≤ 40) ∧ (k = 11 → 0 ≤ v ∧ v ≤ 9) ∧ (k = 12 → 0 ≤ v ∧ v ≤ 9) ∧ (k = 13 → 0 ≤ v ∧ v ≤ 4) ∧ (k = 14 → 0 ≤ v ∧ v ≤ 9) ∧ (k = 15 → 0 ≤ v ∧ v ≤ 8)) : OkS (fun i => if i = k then v else S i) := by
  unfold OkS at h ⊢
  refine ⟨?_, ?_, ?_, ?_, ?_, ?_, ?_, ?_, ?_, ?_⟩ <;> (dsimp only; split <;> omega)
