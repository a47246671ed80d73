/-! the object and the reference at the same token -/
theorem skF_cong {p : Int → Bool} {t u : Nat → Int} {len : Nat} (h : ∀ i, i < len → t i = u i) : ∀ f i, skF p t len f i = skF p u len f i
  | 0, _ => rfl
  | f + 1, i => by
    rw [skF, skF, skF_cong h f (i + 1)]
    by_cases q : i < len
    · rw [h i q]
    · rw [if_neg (fun z => q z.1), if_neg (fun z => q z.1)]
theorem d1S_cong {t u : Nat → Int} {len s : Nat} (h : ∀ i, i < len → t i = u i) : d1S t len s = d1S u len s := by
  unfold d1S; by_cases q : s + 1 < len
  · rw [h _ q]
  · simp [q]
theorem d2S_cong {t u : Nat → Int} {len s : Nat} (h : ∀ i, i < len → t i = u i) : d2S t len s = d2S u len s := by
  unfold d2S; by_cases q : s + 2 < len
  · rw [h _ q]
  · simp [q]
theorem tKd_cong {t u : Nat → Int} {len s : Nat} (h : ∀ i, i < len → t i = u i) : tKd t len s = tKd u len s := by
  unfold tKd; by_cases q : s < len
  · rw [h _ q]
  · rw [if_neg q, if_neg q]
theorem tBd_cong {t u : Nat → Int} {len s : Nat} (h : ∀ i, i < len → t i = u i) : tBd t len s = tBd u len s := by
  unfold tBd nuB; rw [tKd_cong h, d1S_cong h, d2S_cong h]
theorem tNx_cong {t u : Nat → Int} {len s : Nat} (h : ∀ i, i < len → t i = u i) : tNx t len s = tNx u len s := by
  unfold tNx nuE; rw [tKd_cong h, d1S_cong h, skF_cong h]
theorem tSt_cong {t u : Nat → Int} {len i : Nat} (h : ∀ i, i < len → t i = u i) : tSt t len i = tSt u len i := skF_cong h _ _
theorem tKd_rng (t : Nat → Int) (len s : Nat) : 0 ≤ tKd t len s ∧ tKd t len s ≤ 4 := by
  unfold tKd; split
  · split
    · omega
    · split
      · omega
      · split <;> omega
  · omega
theorem tKd_1 {t : Nat → Int} {len s : Nat} (h : tKd t len s = 1) : s < len ∧ pFg (t s) = true := by
  unfold tKd at h
  split at h
  · rename_i q
    refine ⟨q, ?_⟩
    split at h
    · omega
    · split at h
      · omega
      · split at h
        · assumption
        · omega
  · omega
theorem nuV_cong {t u : Nat → Int} {len s : Nat} (h : ∀ i, i < len → t i = u i) (hs : s < len) : nuV t len s = nuV u len s := by
  unfold nuV; rw [d1S_cong h, h s hs]
  by_cases q : d1S u len s = true
  · have : s + 1 < len ∧ pFg (u (s + 1)) = true := by simpa [d1S] using q
    rw [if_pos q, if_pos q, h _ this.1]
  · rw [if_neg q, if_neg q]
theorem nuV_rng {t : Nat → Int} {len s : Nat} (hf : pFg (t s) = true) : 0 ≤ nuV t len s ∧ nuV t len s ≤ 99 := by
  have a : 48 ≤ t s ∧ t s ≤ 57 := by simpa [pFg] using hf
  unfold nuV
  by_cases q : d1S t len s = true
  · have b : s + 1 < len ∧ pFg (t (s + 1)) = true := by simpa [d1S] using q
    have c : 48 ≤ t (s + 1) ∧ t (s + 1) ≤ 57 := by simpa [pFg] using b.2
    rw [if_pos q]; omega
  · rw [if_neg q]; omega
theorem tNx_rng {t : Nat → Int} {len s : Nat} (hs : s ≤ len) (hb : ¬ tBd t len s = true) : s ≤ tNx t len s ∧ tNx t len s ≤ len := by
  have k := tKd_rng t len s
  unfold tNx
  by_cases k3 : tKd t len s = 3
  · rw [if_pos k3]; omega
  · have hlt : s < len := by
      by_cases q : s < len
      · exact q
      · exact absurd (by unfold tKd; rw [if_neg q]) k3
    rw [if_neg k3]
    split
    · omega
    · split
      · exact skF_rng pLt t len (len - s) s hs
      · unfold nuE
        by_cases q : d1S t len s = true
        · have b : s + 1 < len ∧ pFg (t (s + 1)) = true := by simpa [d1S] using q
          rw [if_pos q]; omega
        · rw [if_neg q]; omega
theorem tNx_lt {t : Nat → Int} {len s : Nat} (h : tKd t len s ≠ 3) : s < tNx t len s := by
  have hlt : s < len := by
    by_cases q : s < len
    · exact q
    · exact absurd (by unfold tKd; rw [if_neg q]) h
  unfold tNx
  rw [if_neg h]
  split
  · omega
  · split
    · rename_i k0
      have hl : pLt (t s) = true := by
        unfold tKd at k0
        rw [if_pos hlt] at k0
        split at k0
        · omega
        · split at k0
          · assumption
          · split at k0 <;> omega
      obtain ⟨w, hw⟩ : ∃ w, len - s = w + 1 := ⟨len - s - 1, by omega⟩
      rw [hw, skF, if_pos ⟨hlt, hl⟩]
      have := (skF_rng pLt t len w (s + 1) (by omega)).1
      omega
    · unfold nuE
      split <;> omega
/-- the scribe's token lies on the tape -/
def ShR (len : Nat) (r : Nat → Int) : Prop := ∃ s e : Nat, r 7 = (s : Int) ∧ r 8 = (e : Int) ∧ s ≤ e ∧ e ≤ len
def Aq (len : Nat) (r q : Nat → Int) : Prop := (r 2 = 0 ∧ q 12 = 0 ∧ q 16 = rkS (r 6) ∧ (0 ≤ r 6 ∧ r 6 ≤ 3) ∧ (∃ s e : Nat, r 7 = (s : Int) ∧ r 8 = (e : Int) ∧ q 15 = (s : Int) ∧ q 14 = (e : Int) ∧ s ≤ e ∧ e ≤ len) ∧ (r 6 = 1 → q 17 = r 9 ∧ 0 ≤ r 9 ∧ r 9 ≤ 99)) ∨ ((1 ≤ r 2 ∧ r 2 ≤ 5) ∧ q 12 = r 2 ∧ q 13 = r 3 ∧ ShR len r)
def Bq (t : Nat → Int) (len : Nat) (r q : Nat → Int) : Prop := (r 2 = 0 ∧ ∃ i : Nat, i ≤ len ∧ r 8 = (i : Int) ∧ (tBd t len (tSt t len i) = true → q 12 = 1 ∧ q 13 = (tSt t len i : Int)) ∧ (¬ tBd t len (tSt t len i) = true → q 12 = 0 ∧ q 16 = rkS (tKd t len (tSt t len i)) ∧ q 15 = (tSt t len i : Int) ∧ q 14 = (tNx t len (tSt t len i) : Int) ∧ (tKd t len (tSt t len i) = 1 → q 17 = nuV t len (tSt t len i)))) ∨ ((1 ≤ r 2 ∧ r 2 ≤ 5) ∧ q 12 = r 2 ∧ q 13 = r 3 ∧ ShR len r)
theorem A_step {n len : Nat} {N : Mem} {r q : Nat → Int} (hn : 1000 ≤ n) (ht : TpOk (N 51) len) (h10 : q 10 = (len : Int)) (h : Aq len r q) : ∃ q', f_X6_step n (sr N 46 q) = some (sr N 46 q') ∧ Bq (N 51) len r q' ∧ ∀ j, j < 12 ∨ 17 < j → q' j = q j := by
  rcases h with ⟨a1, a2, a3, a4, ⟨s, e, b1, b2, b3, b4, b5, b6⟩, a6⟩ | ⟨a1, a2, a3⟩
  · obtain ⟨q', c1, c2, c3, c4⟩ := step_r (n := n) (N := N) (r := q) hn ht h10 a2 b4 b6
    exact ⟨q', c1, Or.inl ⟨a1, e, b6, b2, c3, c4⟩, fun j hj => c2 j (by omega) (by omega) (by omega) (by omega) (by omega) (by omega)⟩
  · exact ⟨q, step_f (by omega), Or.inr ⟨a1, a2, a3⟩, fun _ _ => rfl⟩
theorem B_take {n len : Nat} {N : Mem} {t r q : Nat → Int} (hn : 1000 ≤ n) (ht : TpOk (N 2) len) (et : ∀ i, i < len → N 2 i = t i) (h1 : r 1 = (len : Int)) (h : Bq t len r q) : ∃ r', f_X3_take n (sr N 1 r) = some (sr N 1 r') ∧ Aq len r' q ∧ (∀ j, j < 2 ∨ j = 4 ∨ j = 5 ∨ 9 < j → r' j = r j) ∧ (r' 2 = 0 → r 2 = 0 ∧ r 8 ≤ r' 8 ∧ (r' 6 ≠ 3 → r 8 < r' 8)) := by
  rcases h with ⟨a1, i, a2, a3, a4, a5⟩ | ⟨a1, a2, a3⟩
  · obtain ⟨r', c1, c2, c3, c4⟩ := take_c (n := n) (N := N) (r := r) hn ht h1 a1 a3 a2
    have hs := (skF_rng pSp t len (len - i) i a2).2
    rw [tSt_cong et, tBd_cong et] at c3 c4
    have hs0 := (skF_rng pSp t len (len - i) i a2).1
    have mo : r' 2 = 0 → r 2 = 0 ∧ r 8 ≤ r' 8 ∧ (r' 6 ≠ 3 → r 8 < r' 8) := fun z => by
      by_cases b : tBd t len (tSt t len i) = true
      · have := (c3 b).1; omega
      · have d4 := (c4 b).2.2.2.1
        have d6 := (c4 b).2.1
        rw [tNx_cong et] at d4
        rw [tKd_cong et] at d6
        have nx : tSt t len i ≤ tNx t len (tSt t len i) ∧ tNx t len (tSt t len i) ≤ len := tNx_rng hs b
        have : i ≤ tSt t len i := hs0
        refine ⟨a1, by rw [a3, d4]; omega, fun k => ?_⟩
        have := tNx_lt (t := t) (len := len) (s := tSt t len i) (by rw [← d6]; exact k)
        rw [a3, d4]; omega
    refine ⟨r', c1, ?_, fun j hj => c2 j (by omega) (by omega) (by omega) (by omega) (by omega) (by omega), mo⟩
    by_cases b : tBd t len (tSt t len i) = true
    · obtain ⟨d1, d2, d3, e0, f1, f2, f3⟩ := c3 b
      obtain ⟨e1, e2⟩ := a4 b
      exact Or.inr ⟨by omega, by rw [e1, d1], by rw [e2, d2], tSt t len i, e0, d3, f1, f2, f3⟩
    · obtain ⟨d1, d2, d3, d4, d5⟩ := c4 b
      obtain ⟨e1, e2, e3, e4, e5⟩ := a5 b
      rw [tKd_cong et] at d2 d5
      rw [tNx_cong et] at d4
      have k := tKd_rng t len (tSt t len i)
      have k4 : tKd t len (tSt t len i) ≠ 4 := fun z => b (by unfold tBd; rw [z]; simp)
      have nx := tNx_rng hs b
      refine Or.inl ⟨d1, e1, by rw [e2, d2], by omega, ⟨tSt t len i, tNx t len (tSt t len i), d3, d4, e3, e4, nx.1, nx.2⟩, fun z => ?_⟩
      rw [d2] at z
      have kk := tKd_1 z
      rw [e5 z, d5 z, nuV_cong et kk.1]
      exact ⟨rfl, nuV_rng kk.2⟩
  · exact ⟨r, take_f (by omega), Or.inr ⟨a1, a2, a3⟩, fun _ _ => rfl, fun z => by omega⟩
