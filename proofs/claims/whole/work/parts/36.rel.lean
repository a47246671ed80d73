/-! the invariant between the object (cells 0 .. 45) and the reference (46 .. 59) -/
def CtOk (M : Mem) (j : Nat) : Prop := OkS (M j) ∧ M j 10 ≤ M j 8 ∧ (0 ≤ M j 16 ∧ M j 16 ≤ 255) ∧ M j 4 = M 3 4 ∧ M j 5 = M 3 5 ∧ (∀ i, i < (M 3 4).toNat → (0 ≤ M (j + 1) i ∧ M (j + 1) i ≤ 9) ∧ (0 ≤ M (j + 2) i ∧ M (j + 2) i ≤ 9)) ∧ (∀ r, r < (M 3 5).toNat → (1 ≤ M (j + 4) r ∧ M (j + 4) r ≤ 9) ∧ M (j + 3) r = M 6 r)
def CPg (M : Mem) (j p : Nat) : Prop := Rw (vw (M 47) p) (M j) ∧ (∀ i, i < (M 3 4).toNat → M 47 (p + 2 * i) = M (j + 2) i ∧ M 47 (p + 2 * i + 1) = M (j + 1) i) ∧ (∀ r, r < (M 3 5).toNat → M 47 (p + 8 + r) = M (j + 4) r)
def RelA (M : Mem) : Prop := (0 ≤ M 3 4 ∧ M 3 4 ≤ 4) ∧ (0 ≤ M 3 5 ∧ M 3 5 ≤ 4) ∧ M 46 1 = M 3 4 ∧ M 46 3 = M 3 5 ∧ (∀ r, r < (M 3 5).toNat → M 48 r = M 6 r) ∧ CtOk M 3 ∧ CPg M 3 0
def RelT (M : Mem) : Prop := (0 ≤ M 1 1 ∧ M 1 1 ≤ 160) ∧ M 46 10 = M 1 1 ∧ (∀ i, i < (M 1 1).toNat → M 51 i = M 2 i ∧ 0 ≤ M 2 i ∧ M 2 i ≤ 127) ∧ M 46 11 = M 1 2
def RelK (M : Mem) : Prop := (0 ≤ M 22 2 ∧ M 22 2 ≤ 6) ∧ M 46 22 = M 22 2 ∧ (∀ i, i < (M 22 2).toNat → M 55 (2 * i) = M 23 i ∧ M 55 (2 * i + 1) = M 24 i ∧ rg (M 23 i) ∧ rg (M 24 i))
def RelI (M : Mem) : Prop := ∀ k, k < 2 → isF (M 26 k) ∧ M 56 k = M 26 k ∧ (M 26 k = 1 → CtOk M (28 + 5 * k) ∧ CPg M (28 + 5 * k) (25 * (k + 1)))
def ShOk (M : Mem) (k : Nat) : Prop := ((M (38 + 2 * k) 1 = -1 ∧ M 57 k = -4) ∨ ((0 ≤ M (38 + 2 * k) 1 ∧ M (38 + 2 * k) 1 ≤ 40) ∧ M 58 k = M (38 + 2 * k) 1 ∧ (0 ≤ M (38 + 2 * k) 2 ∧ M (38 + 2 * k) 2 ≤ 2) ∧ M 57 k = M (38 + 2 * k) 2)) ∧ ∀ i, i < 40 → M 59 (40 * k + i) = M (39 + 2 * k) i ∧ rg (M (39 + 2 * k) i)
def RelH (M : Mem) : Prop := (∀ k, k < 4 → ShOk M k) ∧ M 46 27 = M 0 8
def cutL : List Int := [0, 4, 9, 15, 22, 27, 34, 37, 41, 46, 50, 54]
def letL : List Int := [108, 97, 110, 100, 100, 114, 101, 97, 109, 112, 101, 111, 112, 108, 101, 103, 114, 97, 110, 97, 114, 121, 112, 114, 105, 99, 101, 115, 116, 101, 119, 97, 114, 100, 97, 108, 108, 112, 97, 114, 116, 108, 101, 118, 101, 108, 110, 111, 110, 101, 110, 101, 101, 100]
def RelC (M : Mem) : Prop := (∀ i, i < 12 → M 52 i = cutL.getD i 0) ∧ ∀ i, i < 54 → M 53 i = letL.getD i 0
def Rel (M : Mem) : Prop := RelA M ∧ RelT M ∧ RelK M ∧ RelI M ∧ RelH M ∧ RelC M
/-- what the invariant doesn't look at -/
def Scr (a k : Nat) : Prop := (8 ≤ a ∧ a ≤ 21) ∨ a = 54 ∨ a = 49 ∨ a = 50 ∨ (a = 47 ∧ 75 ≤ k) ∨ (a = 1 ∧ 3 ≤ k) ∨ (a = 46 ∧ k ≠ 1 ∧ k ≠ 3 ∧ k ≠ 10 ∧ k ≠ 11 ∧ k ≠ 22 ∧ k ≠ 27)
def Off (M M' : Mem) : Prop := ∀ a k, ¬ Scr a k → M' a k = M a k
theorem Off.refl (M : Mem) : Off M M := fun _ _ _ => rfl
theorem Off.trans {M N K : Mem} (h : Off M N) (g : Off N K) : Off M K := fun a k q => (g a k q).trans (h a k q)
theorem Off_sr {M : Mem} {a : Nat} {r : Nat → Int} (h : ∀ k, ¬ Scr a k → r k = M a k) : Off M (sr M a r) := by
  intro b k q
  by_cases e : b = a
  · subst e; rw [sr_same]; exact h k q
  · rw [sr_ne _ _ e]
theorem Off_st {M : Mem} {a k : Nat} {v : Int} (h : Scr a k) : Off M (st M a k v) := by
  intro b i q
  rw [st_at, if_neg (fun e => q (by rw [e.1, e.2]; exact h))]
theorem CtOk_off {M M' : Mem} {j : Nat} (h : Off M M') (hj : j = 3 ∨ j = 28 ∨ j = 33) (g : CtOk M j) : CtOk M' j := by
  have e : ∀ a, (3 ≤ a ∧ a ≤ 7) ∨ (28 ≤ a ∧ a ≤ 37) → M' a = M a := fun a ha => funext (fun k => h a k (by unfold Scr; omega))
  unfold CtOk at g ⊢
  rw [e j (by omega), e (j + 1) (by omega), e (j + 2) (by omega), e (j + 3) (by omega), e (j + 4) (by omega), e 3 (by omega), e 6 (by omega)]
  exact g
theorem vw_off {r r' : Nat → Int} {p : Nat} (h : ∀ k, p ≤ k → k < p + 25 → r' k = r k) : Rw (vw r' p) (vw r p) := by
  intro k h1 h2
  unfold vw
  rw [h (p + 14) (by omega) (by omega), h (p + 18) (by omega) (by omega), h (p + 17) (by omega) (by omega), h (p + k + 6) (by omega) (by omega)]
theorem CPg_off {M M' : Mem} {j p : Nat} (h : Off M M') (hj : j = 3 ∨ j = 28 ∨ j = 33) (hp : p ≤ 50) (hL : (M 3 4).toNat ≤ 4 ∧ (M 3 5).toNat ≤ 4) (g : CPg M j p) : CPg M' j p := by
  have e : ∀ a, (3 ≤ a ∧ a ≤ 7) ∨ (28 ≤ a ∧ a ≤ 37) → M' a = M a := fun a ha => funext (fun k => h a k (by unfold Scr; omega))
  have e47 : ∀ k, k < 75 → M' 47 k = M 47 k := fun k hk => h 47 k (by unfold Scr; omega)
  unfold CPg at g ⊢
  rw [e j (by omega), e (j + 1) (by omega), e (j + 2) (by omega), e (j + 4) (by omega), e 3 (by omega)]
  refine ⟨Rw.trans (vw_off (fun k h1 h2 => e47 k (by omega))) g.1, fun i hi => ?_, fun r hr => ?_⟩
  · rw [e47 _ (by omega), e47 _ (by omega)]; exact g.2.1 i hi
  · rw [e47 _ (by omega)]; exact g.2.2 r hr
theorem Rel_off {M M' : Mem} (h : Off M M') (g : Rel M) : Rel M' := by
  obtain ⟨gA, gT, gK, gI, gH, gC⟩ := g
  have hL : (M 3 4).toNat ≤ 4 ∧ (M 3 5).toNat ≤ 4 := by have := gA.1; have := gA.2.1; omega
  have e : ∀ a, (3 ≤ a ∧ a ≤ 7) ∨ (22 ≤ a ∧ a ≤ 45) ∨ a = 0 ∨ a = 2 ∨ a = 48 ∨ a = 51 ∨ a = 52 ∨ a = 53 ∨ (55 ≤ a ∧ a ≤ 59) → M' a = M a := fun a ha => funext (fun k => h a k (by unfold Scr; omega))
  refine ⟨?_, ?_, ?_, ?_, ?_, ?_⟩
  · unfold RelA at gA ⊢
    rw [e 3 (by omega), e 48 (by omega), e 6 (by omega), h 46 1 (by unfold Scr; omega), h 46 3 (by unfold Scr; omega)]
    exact ⟨gA.1, gA.2.1, gA.2.2.1, gA.2.2.2.1, gA.2.2.2.2.1, CtOk_off h (Or.inl rfl) gA.2.2.2.2.2.1, CPg_off h (Or.inl rfl) (by decide) hL gA.2.2.2.2.2.2⟩
  · unfold RelT at gT ⊢
    rw [h 1 1 (by unfold Scr; omega), h 1 2 (by unfold Scr; omega), h 46 10 (by unfold Scr; omega), h 46 11 (by unfold Scr; omega), e 51 (by omega), e 2 (by omega)]
    exact gT
  · unfold RelK at gK ⊢
    rw [e 22 (by omega), e 23 (by omega), e 24 (by omega), e 55 (by omega), h 46 22 (by unfold Scr; omega)]
    exact gK
  · intro k hk
    obtain ⟨a1, a2, a3⟩ := gI k hk
    rw [e 26 (by omega), e 56 (by omega)]
    refine ⟨a1, a2, fun q => ⟨CtOk_off h (by omega) (a3 q).1, CPg_off h (by omega) (by omega) hL (a3 q).2⟩⟩
  · refine ⟨fun k hk => ?_, ?_⟩
    · have g1 := gH.1 k hk
      unfold ShOk at g1 ⊢
      rw [e (38 + 2 * k) (by omega), e (39 + 2 * k) (by omega), e 57 (by omega), e 58 (by omega), e 59 (by omega)]
      exact g1
    · rw [e 0 (by omega), h 46 27 (by unfold Scr; omega)]; exact gH.2
  · unfold RelC at gC ⊢
    rw [e 52 (by omega), e 53 (by omega)]
    exact gC
/-- what the invariant gives of the court, for both sides -/
theorem OkB_c {M : Mem} {j : Nat} (hL : 0 ≤ M j 4 ∧ M j 4 ≤ 4) (h : ∀ i, i < (M j 4).toNat → (0 ≤ M (j + 1) i ∧ M (j + 1) i ≤ 9) ∧ (0 ≤ M (j + 2) i ∧ M (j + 2) i ≤ 9)) : OkB (B2 M j) := by
  intro f hf
  have a := hv_rng (c := 9) (n := (M j 4).toNat) (fun i hi => (h i hi).1)
  have b := hv_rng (c := 9) (n := (M j 4).toNat) (fun i hi => (h i hi).2)
  unfold B2
  split <;> omega
theorem RB_pg {M : Mem} {j p : Nat} (h4 : M j 4 = M 3 4) (h1 : M 46 1 = M 3 4) (g : CPg M j p) : RB (Bp (M 47) (M 46 1).toNat p) (B2 M j) := by
  intro f hf
  unfold Bp B2
  rw [h4, h1]
  rcases hf with rfl | rfl
  · rw [if_neg (by decide)]
    exact hv_cong (fun i hi => (g.2.1 i hi).1)
  · rw [if_pos rfl]
    exact hv_cong (fun i hi => (g.2.1 i hi).2)
/-- the court's facts in one row -/
theorem Rel_c {M : Mem} (h : Rel M) : (0 ≤ M 3 4 ∧ M 3 4 ≤ 4) ∧ (0 ≤ M 3 5 ∧ M 3 5 ≤ 4) ∧ M 46 1 = M 3 4 ∧ M 46 3 = M 3 5 ∧ OkS (M 3) ∧ OkB (B2 M 3) ∧ Rw (vw (M 47) 0) (M 3) ∧ RB (Bp (M 47) (M 46 1).toNat 0) (B2 M 3) := by
  obtain ⟨⟨a1, a2, a3, a4, a5, a6, a7⟩, -⟩ := h
  exact ⟨a1, a2, a3, a4, a6.1, OkB_c a1 a6.2.2.2.2.2.1, a7.1, RB_pg rfl a3 a7⟩
