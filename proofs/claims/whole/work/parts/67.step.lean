/-! one token of the tape: the reference -/
def tb (t : Nat → Int) (len i : Nat) : Int := if i < len then t i else -4
theorem tb_rng {t : Nat → Int} {len : Nat} (h : TpOk t len) (i : Nat) : -4 ≤ tb t len i ∧ tb t len i ≤ 127 := by
  unfold tb; split
  · rename_i q; have := h.2 i q; omega
  · omega
theorem byteAt_r {N : Mem} {r : Nat → Int} {len i : Nat} (ht : TpOk (N 51) len) (h10 : r 10 = (len : Int)) (hi : i ≤ 1000) : f_X6_byteAt (i : Int) (sr N 46 r) = some (tb (N 51) len i) := by
  have hl := ht.1
  unfold f_X6_byteAt tb
  rw [sr_same, h10, wr_id (x := (len : Int)) (by omega) (by omega), wr_id (x := (i : Int)) (by omega) (by omega)]
  by_cases q : i < len
  · rw [if_neg (by omega), if_pos q, rd_id (by omega) (by omega) (by omega), Option.bind_some, sr_ne _ _ (by decide), Int.toNat_natCast]
  · rw [if_pos (by omega), if_neg q]
theorem inLt_r {b : Int} {M : Mem} (h : -4 ≤ b ∧ b ≤ 127) : f_X6_in (wr b) 97 122 M = some (if pLt b = true then 1 else 0) := by
  rw [wr_id (by omega) (by omega), in_r (by unfold rg; omega) (rgl 97) (rgl 122)]
  unfold pLt
  simp
theorem inFg_r {b : Int} {M : Mem} (h : -4 ≤ b ∧ b ≤ 127) : f_X6_in (wr b) 48 57 M = some (if pFg b = true then 1 else 0) := by
  rw [wr_id (by omega) (by omega), in_r (by unfold rg; omega) (rgl 48) (rgl 57)]
  unfold pFg
  simp
theorem fails_r {N : Mem} {r : Nat → Int} {x : Int} (h : r 12 = 0) : f_X6_fails x (sr N 46 r) = some (sr N 46 (rs (rs r 12 x) 13 (r 15))) := by
  unfold f_X6_fails
  rw [sr_same, h, if_pos wr_0, Option.bind_some, st_rs, Option.bind_some, st_rs, sr_same, rs_n (by decide)]
theorem skipr_r {n0 len : Nat} {N : Mem} (ht : TpOk (N 51) len) : ∀ (f n i : Nat) (r : Nat → Int), f < n → i + f = len → r 10 = (len : Int) → r 14 = (i : Int) → lp (fun s => f_X6_step_8 n0 s) n (sr N 46 r) = f_X6_step_34 n0 (sr N 46 (rs r 14 (skF pSp (N 51) len f i : Int))) := by
  have hl := ht.1
  have fin : ∀ (m i : Nat) (r : Nat → Int), i ≤ len → r 10 = (len : Int) → r 14 = (i : Int) → tb (N 51) len i ≠ 32 → lp (fun s => f_X6_step_8 n0 s) (m + 1) (sr N 46 r) = f_X6_step_34 n0 (sr N 46 (rs r 14 (i : Int))) := by
    intro m i r hi h10 h14 q
    have er : rs r 14 (i : Int) = r := by funext j; unfold rs; split; rename_i q; rw [q, h14]; rfl
    have br := tb_rng ht i
    rw [er]
    refine lp_map (f := fun s => f_X6_step_8 n0 s) (s := sr N 46 r) ?_
    show f_X6_step_8 n0 (sr N 46 r) = _
    unfold f_X6_step_8
    rw [sr_same, h14, byteAt_r ht h10 (by omega), Option.bind_some, wr_id (by omega) (by omega), if_neg q]
  intro f
  induction f with
  | zero =>
    intro n i r hn hi h10 h14
    obtain ⟨m, rfl⟩ : ∃ m, n = m + 1 := ⟨n - 1, by omega⟩
    exact fin m i r (by omega) h10 h14 (by unfold tb; rw [if_neg (by omega)]; decide)
  | succ f ih =>
    intro n i r hn hi h10 h14
    obtain ⟨m, rfl⟩ : ∃ m, n = m + 1 := ⟨n - 1, by omega⟩
    have br := tb_rng ht i
    have et : tb (N 51) len i = N 51 i := by unfold tb; rw [if_pos (by omega)]
    rw [skF]
    by_cases q : N 51 i = 32
    · have e : f_X6_step_8 n0 (sr N 46 r) = some (.inl (sr N 46 (rs r 14 ((i + 1 : Nat) : Int)))) := by
        unfold f_X6_step_8
        rw [sr_same, h14, byteAt_r ht h10 (by omega), Option.bind_some, wr_id (by omega) (by omega), if_pos (by rw [et]; exact q), Option.bind_some, st_rs]
        rfl
      rw [lp_succ (f := fun s => f_X6_step_8 n0 s) (s := sr N 46 r) e, ih m (i + 1) _ (by omega) (by omega) (by rw [rs_n (by decide)]; exact h10) (rs_s _ _ _), rs_rs, if_pos ⟨by omega, by simp [pSp, q]⟩]
    · rw [if_neg (fun z => q (by simpa [pSp] using z.2))]
      exact fin m i r (by omega) h10 h14 (by rw [et]; exact q)
theorem wordr_r {n0 len : Nat} {N : Mem} (ht : TpOk (N 51) len) : ∀ (f n i : Nat) (r : Nat → Int), f < n → i + f = len → r 10 = (len : Int) → r 14 = (i : Int) → lp (fun s => f_X6_step_84 n0 s) n (sr N 46 r) = some (sr N 46 (rs (rs r 14 (skF pLt (N 51) len f i : Int)) 16 1)) := by
  have hl := ht.1
  have fin : ∀ (m i : Nat) (r : Nat → Int), i ≤ len → r 10 = (len : Int) → r 14 = (i : Int) → ¬ pLt (tb (N 51) len i) = true → lp (fun s => f_X6_step_84 n0 s) (m + 1) (sr N 46 r) = some (sr N 46 (rs (rs r 14 (i : Int)) 16 1)) := by
    intro m i r hi h10 h14 q
    have er : rs r 14 (i : Int) = r := by funext j; unfold rs; split; rename_i q; rw [q, h14]; rfl
    have br := tb_rng ht i
    rw [er]
    refine lp_map (f := fun s => f_X6_step_84 n0 s) (s := sr N 46 r) ?_
    show f_X6_step_84 n0 (sr N 46 r) = _
    unfold f_X6_step_84 f_X6_step_118
    rw [sr_same, h14, byteAt_r ht h10 (by omega), Option.bind_some, inLt_r br, Option.bind_some, ifbi, if_neg q, Option.bind_some, st_rs]
  intro f
  induction f with
  | zero =>
    intro n i r hn hi h10 h14
    obtain ⟨m, rfl⟩ : ∃ m, n = m + 1 := ⟨n - 1, by omega⟩
    exact fin m i r (by omega) h10 h14 (by unfold tb; rw [if_neg (by omega)]; decide)
  | succ f ih =>
    intro n i r hn hi h10 h14
    obtain ⟨m, rfl⟩ : ∃ m, n = m + 1 := ⟨n - 1, by omega⟩
    have br := tb_rng ht i
    have et : tb (N 51) len i = N 51 i := by unfold tb; rw [if_pos (by omega)]
    rw [skF]
    by_cases q : pLt (N 51 i) = true
    · have e : f_X6_step_84 n0 (sr N 46 r) = some (.inl (sr N 46 (rs r 14 ((i + 1 : Nat) : Int)))) := by
        unfold f_X6_step_84
        rw [sr_same, h14, byteAt_r ht h10 (by omega), Option.bind_some, inLt_r br, Option.bind_some, ifbi, if_pos (by rw [et]; exact q), Option.bind_some, st_rs]
        rfl
      rw [lp_succ (f := fun s => f_X6_step_84 n0 s) (s := sr N 46 r) e, ih m (i + 1) _ (by omega) (by omega) (by rw [rs_n (by decide)]; exact h10) (rs_s _ _ _), rs_rs, if_pos ⟨by omega, q⟩]
    · rw [if_neg (fun z => q z.2)]
      exact fin m i r (by omega) h10 h14 (by rw [et]; exact q)
/-- one figure of a number -/
theorem fig_r {n0 len s i : Nat} {N : Mem} {r : Nat → Int} (ht : TpOk (N 51) len) (h10 : r 10 = (len : Int)) (h15 : r 15 = (s : Int)) (h14 : r 14 = (i : Int)) (hi : s ≤ i) (hi2 : i ≤ len) : f_X6_step_140 n0 (sr N 46 r) = if i < len ∧ pFg (N 51 i) = true then some (.inl (sr N 46 (rs (rs r 17 (if s + 2 ≤ i then r 17 else 10 * r 17 + N 51 i - 48)) 14 ((i + 1 : Nat) : Int)))) else (f_X6_step_217 n0 (sr N 46 r)).map Sum.inr := by
  have hl := ht.1
  have br := tb_rng ht i
  unfold f_X6_step_140 f_X6_step_201
  rw [sr_same, h14, h15, byteAt_r ht h10 (by omega), Option.bind_some, inFg_r br, Option.bind_some, ifbi, wr_id (x := (i : Int) - (s : Int)) (by omega) (by omega), Option.bind_some]
  by_cases q : i < len
  · have et : tb (N 51) len i = N 51 i := by unfold tb; rw [if_pos q]
    rw [et]
    by_cases q2 : pFg (N 51 i) = true
    · rw [if_pos q2, if_pos (show i < len ∧ pFg (N 51 i) = true from ⟨q, q2⟩)]
      by_cases q3 : s + 2 ≤ i
      · rw [if_pos (show (2 : Int) ≤ (i : Int) - (s : Int) by omega), if_pos q3, Option.bind_some, st_rs, sr_same, st_rs, rs_n (by decide), h14]
        rfl
      · rw [if_neg (show ¬ ((2 : Int) ≤ (i : Int) - (s : Int)) by omega), if_neg q3, Option.bind_some, st_rs, Option.bind_some, sr_same, st_rs, rs_n (by decide), h14]
        rfl
    · rw [if_neg q2, if_neg (fun z => q2 z.2)]
  · have et : ¬ pFg (tb (N 51) len i) = true := by unfold tb; rw [if_neg q]; decide
    rw [if_neg et, if_neg (fun z => q z.1)]
/-- further figures change nothing but the place -/
theorem figs_r {n0 len s : Nat} {N : Mem} (ht : TpOk (N 51) len) : ∀ (f n i : Nat) (r : Nat → Int), f < n → i + f = len → s + 2 ≤ i → r 10 = (len : Int) → r 15 = (s : Int) → r 14 = (i : Int) → lp (fun z => f_X6_step_140 n0 z) n (sr N 46 r) = f_X6_step_217 n0 (sr N 46 (rs r 14 (skF pFg (N 51) len f i : Int))) := by
  have hl := ht.1
  have fin : ∀ (m i : Nat) (r : Nat → Int), s ≤ i → i ≤ len → r 10 = (len : Int) → r 15 = (s : Int) → r 14 = (i : Int) → ¬ (i < len ∧ pFg (N 51 i) = true) → lp (fun z => f_X6_step_140 n0 z) (m + 1) (sr N 46 r) = f_X6_step_217 n0 (sr N 46 (rs r 14 (i : Int))) := by
    intro m i r h1 h2 h10 h15 h14 q
    have er : rs r 14 (i : Int) = r := by funext j; unfold rs; split; rename_i q; rw [q, h14]; rfl
    rw [er]
    refine lp_map (f := fun z => f_X6_step_140 n0 z) (s := sr N 46 r) ?_
    show f_X6_step_140 n0 (sr N 46 r) = _
    rw [fig_r ht h10 h15 h14 h1 h2, if_neg q]
  intro f
  induction f with
  | zero =>
    intro n i r hn hi hs h10 h15 h14
    obtain ⟨m, rfl⟩ : ∃ m, n = m + 1 := ⟨n - 1, by omega⟩
    exact fin m i r (by omega) (by omega) h10 h15 h14 (fun z => by omega)
  | succ f ih =>
    intro n i r hn hi hs h10 h15 h14
    obtain ⟨m, rfl⟩ : ∃ m, n = m + 1 := ⟨n - 1, by omega⟩
    rw [skF]
    by_cases q : i < len ∧ pFg (N 51 i) = true
    · have e := fig_r (n0 := n0) ht h10 h15 h14 (by omega) (by omega)
      have er : rs (rs r 17 (r 17)) 14 ((i + 1 : Nat) : Int) = rs r 14 ((i + 1 : Nat) : Int) := by
        funext j; unfold rs; by_cases a : j = 14
        · rw [if_pos a, if_pos a]
        · rw [if_neg a, if_neg a]; split; rename_i b; rw [b]; rfl
      rw [if_pos q, if_pos hs, er] at e
      rw [lp_succ (f := fun z => f_X6_step_140 n0 z) (s := sr N 46 r) e, ih m (i + 1) _ (by omega) (by omega) (by omega) (by rw [rs_n (by decide)]; exact h10) (by rw [rs_n (by decide)]; exact h15) (rs_s _ _ _), rs_rs, if_pos q]
    · rw [if_neg q]
      exact fin m i r (by omega) (by omega) h10 h15 h14 q
theorem s217_r {n0 len s e : Nat} {N : Mem} {r : Nat → Int} (h12 : r 12 = 0) (h15 : r 15 = (s : Int)) (h14 : r 14 = (e : Int)) (h : s ≤ e ∧ e ≤ 160) : f_X6_step_217 n0 (sr N 46 r) = some (if e ≤ s + 2 then sr N 46 (rs r 16 2) else sr N 46 (rs (rs (rs r 16 2) 12 1) 13 (s : Int))) := by
  unfold f_X6_step_217
  rw [Option.bind_some, st_rs, sr_same, rs_n (by decide), rs_n (by decide), h14, h15, wr_id (x := (e : Int) - (s : Int)) (by omega) (by omega), fails_r (by rw [rs_n (by decide)]; exact h12), rs_n (by decide), h15]
  by_cases q : e ≤ s + 2
  · rw [if_pos (by omega), if_pos q]
  · rw [if_neg (by omega), if_neg q]; rfl
theorem numr_r {n0 len s : Nat} {N : Mem} {r : Nat → Int} (hn : 1000 ≤ n0) (ht : TpOk (N 51) len) (h10 : r 10 = (len : Int)) (h12 : r 12 = 0) (h15 : r 15 = (s : Int)) (h14 : r 14 = (s : Int)) (h17 : r 17 = 0) (hs : s < len) (hf : pFg (N 51 s) = true) : ∃ r', lp (fun z => f_X6_step_140 n0 z) n0 (sr N 46 r) = some (sr N 46 r') ∧ (∀ j, j ≠ 12 → j ≠ 13 → j ≠ 14 → j ≠ 16 → j ≠ 17 → r' j = r j) ∧ (nuB (N 51) len s = true → r' 12 = 1 ∧ r' 13 = (s : Int)) ∧ (¬ nuB (N 51) len s = true → r' 12 = 0 ∧ r' 16 = 2 ∧ r' 14 = (nuE (N 51) len s : Int) ∧ r' 17 = nuV (N 51) len s) := by
  have hl := ht.1
  obtain ⟨m, hm⟩ : ∃ m, n0 = m + 2 := ⟨n0 - 2, by omega⟩
  have s1 := fig_r (n0 := n0) ht h10 h15 h14 (Nat.le_refl _) (by omega)
  rw [if_pos ⟨hs, hf⟩, if_neg (by omega), h17] at s1
  generalize hq1 : rs (rs r 17 (10 * 0 + N 51 s - 48)) 14 ((s + 1 : Nat) : Int) = q1 at s1
  have e1 : ∀ j, j ≠ 14 → j ≠ 17 → q1 j = r j := fun j a b => by rw [← hq1, rs_n a, rs_n b]
  have k14 : q1 14 = ((s + 1 : Nat) : Int) := by rw [← hq1, rs_s]
  have k17 : q1 17 = N 51 s - 48 := by rw [← hq1, rs_n (by decide), rs_s]; omega
  have k10 : q1 10 = (len : Int) := by rw [e1 10 (by decide) (by decide)]; exact h10
  have k12 : q1 12 = 0 := by rw [e1 12 (by decide) (by decide)]; exact h12
  have k15 : q1 15 = (s : Int) := by rw [e1 15 (by decide) (by decide)]; exact h15
  have L1 : lp (fun z => f_X6_step_140 n0 z) (m + 2) (sr N 46 r) = lp (fun z => f_X6_step_140 n0 z) (m + 1) (sr N 46 q1) := lp_succ (f := fun z => f_X6_step_140 n0 z) (n := m + 1) (s := sr N 46 r) s1
  have s2 := fig_r (n0 := n0) ht k10 k15 k14 (by omega) (by omega)
  have L0 : lp (fun z => f_X6_step_140 n0 z) n0 (sr N 46 r) = lp (fun z => f_X6_step_140 n0 z) (m + 1) (sr N 46 q1) := by
    have : lp (fun z => f_X6_step_140 n0 z) n0 (sr N 46 r) = lp (fun z => f_X6_step_140 n0 z) (m + 2) (sr N 46 r) := by rw [← hm]
    rw [this, L1]
  rw [L0]
  by_cases d1 : d1S (N 51) len s = true
  · have d1' : s + 1 < len ∧ pFg (N 51 (s + 1)) = true := by simpa [d1S] using d1
    rw [if_pos d1', if_neg (by omega), k17] at s2
    generalize hq2 : rs (rs q1 17 (10 * (N 51 s - 48) + N 51 (s + 1) - 48)) 14 ((s + 1 + 1 : Nat) : Int) = q2 at s2
    have e2 : ∀ j, j ≠ 14 → j ≠ 17 → q2 j = r j := fun j a b => by rw [← hq2, rs_n a, rs_n b, e1 j a b]
    have l14 : q2 14 = ((s + 2 : Nat) : Int) := by rw [← hq2, rs_s]
    have l17 : q2 17 = (N 51 s - 48) * 10 + N 51 (s + 1) - 48 := by rw [← hq2, rs_n (by decide), rs_s]; omega
    have hk := skF_rng pFg (N 51) len (len - (s + 2)) (s + 2) (by omega)
    have L2 := figs_r (n0 := n0) (s := s) ht (len - (s + 2)) m (s + 2) q2 (by omega) (by omega) (by omega) (by rw [e2 10 (by decide) (by decide)]; exact h10) (by rw [e2 15 (by decide) (by decide)]; exact h15) l14
    have L3 := s217_r (n0 := n0) (len := len) (N := N) (s := s) (e := skF pFg (N 51) len (len - (s + 2)) (s + 2)) (r := rs q2 14 (skF pFg (N 51) len (len - (s + 2)) (s + 2) : Int)) (by rw [rs_n (by decide), e2 12 (by decide) (by decide)]; exact h12) (by rw [rs_n (by decide), e2 15 (by decide) (by decide)]; exact h15) (rs_s _ _ _) (by omega)
    have L : lp (fun z => f_X6_step_140 n0 z) (m + 1) (sr N 46 q1) = _ := (lp_succ (f := fun z => f_X6_step_140 n0 z) (n := m) (s := sr N 46 q1) s2).trans (L2.trans L3)
    rw [L]
    by_cases d2 : d2S (N 51) len s = true
    · have d2' : s + 2 < len ∧ pFg (N 51 (s + 2)) = true := by simpa [d2S] using d2
      have hgt : s + 3 ≤ skF pFg (N 51) len (len - (s + 2)) (s + 2) := by
        obtain ⟨w, hw⟩ : ∃ w, len - (s + 2) = w + 1 := ⟨len - (s + 2) - 1, by omega⟩
        rw [hw, skF, if_pos d2']
        exact (skF_rng pFg (N 51) len w (s + 2 + 1) (by omega)).1
      rw [if_neg (by omega)]
      refine ⟨rs (rs (rs (rs q2 14 (skF pFg (N 51) len (len - (s + 2)) (s + 2) : Int)) 16 2) 12 1) 13 (s : Int), rfl, fun j a b c d e => by rw [rs_n b, rs_n a, rs_n d, rs_n c, e2 j c e], fun _ => ⟨by rw [rs_n (by decide), rs_s], rs_s _ _ _⟩, fun z => absurd (by simp [nuB, d1, d2]) z⟩
    · have d2' : ¬ (s + 2 < len ∧ pFg (N 51 (s + 2)) = true) := by simpa [d2S] using d2
      have heq : skF pFg (N 51) len (len - (s + 2)) (s + 2) = s + 2 := by
        cases hw : len - (s + 2) with
        | zero => rfl
        | succ w => rw [skF, if_neg d2']
      rw [heq, if_pos (by omega)]
      refine ⟨rs (rs q2 14 ((s + 2 : Nat) : Int)) 16 2, rfl, fun j a b c d e => by rw [rs_n d, rs_n c, e2 j c e], fun z => absurd z (by simp [nuB, d2]), fun _ => ⟨?_, rs_s _ _ _, ?_, ?_⟩⟩
      · rw [rs_n (by decide), rs_n (by decide), e2 12 (by decide) (by decide)]; exact h12
      · rw [rs_n (by decide), rs_s]; unfold nuE; rw [if_pos d1]
      · rw [rs_n (by decide), rs_n (by decide), l17]; unfold nuV; rw [if_pos d1]
  · have d1' : ¬ (s + 1 < len ∧ pFg (N 51 (s + 1)) = true) := by simpa [d1S] using d1
    rw [if_neg d1'] at s2
    have L3 := s217_r (n0 := n0) (len := len) (N := N) (s := s) (e := s + 1) (r := q1) k12 k15 k14 (by omega)
    rw [if_pos (by omega)] at L3
    have L := (lp_map (f := fun z => f_X6_step_140 n0 z) (n := m) (s := sr N 46 q1) s2).trans L3
    rw [L]
    refine ⟨rs q1 16 2, rfl, fun j a b c d e => by rw [rs_n d, e1 j c e], fun z => absurd z (by simp [nuB, d1]), fun _ => ⟨?_, rs_s _ _ _, ?_, ?_⟩⟩
    · rw [rs_n (by decide)]; exact k12
    · rw [rs_n (by decide), k14]; unfold nuE; rw [if_neg d1]
    · rw [rs_n (by decide), k17]; unfold nuV; rw [if_neg d1]
