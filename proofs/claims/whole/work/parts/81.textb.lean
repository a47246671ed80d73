/-! text: the whole call -/
theorem text43_f {n : Nat} {x : Int} {X : Mem} (h : 1 ≤ X 1 2 ∧ X 1 2 ≤ 5) : f_X5_text_43 n x X = some (-10 - X 1 3, st X 1 1 0) := by
  unfold f_X5_text_43
  rw [Option.bind_some, st_nk _ _ _ (by decide), wr_id (by omega) (by omega), if_neg (by omega), st_nk _ _ _ (by decide)]
theorem text76_f {n : Nat} {x : Int} {Y : Mem} (h : 1 ≤ Y 46 12 ∧ Y 46 12 ≤ 5) : f_X6_text_76 n x Y = some (-10 - Y 46 13, st (st Y 46 10 0) 46 11 (Y 46 12)) := by
  unfold f_X6_text_76
  rw [Option.bind_some, Option.bind_some, st_nk _ _ _ (by decide), st_nk _ _ _ (by decide), wr_id (by omega) (by omega), if_neg (by omega), st_nk _ _ _ (by decide), st_nk _ _ _ (by decide)]
theorem text43_c {n : Nat} {x : Int} {X : Mem} (hn : 1000 ≤ n) (h : X 1 2 = 0) : f_X5_text_43 n x X = some (x, st (st (st (cpS (st X 1 1 0) 3 8) 22 2 0) 26 0 0) 26 1 0) := by
  obtain ⟨m, rfl⟩ : ∃ m, n = m + 3 := ⟨n - 3, by omega⟩
  unfold f_X5_text_43
  rw [Option.bind_some, st_nk _ _ _ (by decide), h, if_pos wr_0, copy_c (by decide), Option.bind_some, Option.bind_some]
  generalize st (cpS (st X 1 1 0) 3 8) 22 2 0 = Z
  have s0 : f_X5_text_93 (m + 3) x 0 Z = some (.inl (1, st Z 26 0 0)) := by
    unfold f_X5_text_93
    rw [if_neg (by decide), wt_id (by decide) (by decide) (by decide), Option.bind_some]; rfl
  have s1 : f_X5_text_93 (m + 3) x 1 (st Z 26 0 0) = some (.inl (2, st (st Z 26 0 0) 26 1 0)) := by
    unfold f_X5_text_93
    rw [if_neg (by decide), wt_id (by decide) (by decide) (by decide), Option.bind_some]; rfl
  have s2 : f_X5_text_93 (m + 3) x 2 (st (st Z 26 0 0) 26 1 0) = some (.inr (x, st (st Z 26 0 0) 26 1 0)) := by
    unfold f_X5_text_93
    rw [if_pos (by decide)]
  have t0 : lp (fun s => f_X5_text_93 (m + 3) x s.1 s.2) (m + 2 + 1) ((0 : Int), Z) = _ := lp_succ (f := fun s => f_X5_text_93 (m + 3) x s.1 s.2) (s := ((0 : Int), Z)) s0
  have t1 : lp (fun s => f_X5_text_93 (m + 3) x s.1 s.2) (m + 1 + 1) ((1 : Int), st Z 26 0 0) = _ := lp_succ (f := fun s => f_X5_text_93 (m + 3) x s.1 s.2) (s := ((1 : Int), st Z 26 0 0)) s1
  have t2 : lp (fun s => f_X5_text_93 (m + 3) x s.1 s.2) (m + 1) ((2 : Int), st (st Z 26 0 0) 26 1 0) = _ := lp_end (f := fun s => f_X5_text_93 (m + 3) x s.1 s.2) (s := ((2 : Int), st (st Z 26 0 0) 26 1 0)) s2
  exact t0.trans (t1.trans t2)
theorem text76_r {n : Nat} {x : Int} {Y : Mem} (hn : 1000 ≤ n) (h : Y 46 12 = 0) : f_X6_text_76 n x Y = f_X6_text_146 n x (cpR (st (st Y 46 10 0) 46 11 0) 25) := by
  unfold f_X6_text_76
  rw [Option.bind_some, Option.bind_some, st_nk _ _ _ (by decide), st_nk _ _ _ (by decide), h, if_pos (by decide), copyT_r hn]
theorem text_both {n : Nat} {M K : Mem} (hn : 1000 ≤ n) (h : Rel M) (hk : ∀ a, 46 ≤ a → K a = M a) : ∃ r M1 K2, f_X5_text n M = some (r, M1) ∧ f_X6_text n K = some (r, K2) ∧ (∀ a, 46 ≤ a → M1 a = M a) ∧ (∀ a, a < 46 → K2 a = K a) ∧ ∀ G : Mem, (∀ a, a < 46 → G a = M1 a) → (∀ a, 46 ≤ a → G a = K2 a) → Rel G := by
  obtain ⟨gA, gT, gK, gI, gH, gC⟩ := h
  have hL : (M 3 4).toNat ≤ 4 ∧ (M 3 5).toNat ≤ 4 := by have := gA.1; have := gA.2.1; omega
  obtain ⟨t1, t2, t3, t4⟩ := gT
  obtain ⟨len, el⟩ : ∃ l : Nat, M 1 1 = (l : Int) := ⟨(M 1 1).toNat, by omega⟩
  obtain ⟨X, b1, b2, b3, b4, b5, b6, b7, c4, c5, c6, c7, c8, c9, c10, c11, c12, c13, c14, c15, c16, c17, c18⟩ := begin_c M
  -- the reference's beginning
  have r0 : f_X6_text n K = f_X6_text_48 n 0 (sr (st (st (st (st (st K 46 12 0) 46 14 0) 46 6 0) 46 7 0) 46 8 0) 49 (fun i => if i < 25 then 0 else K 49 i)) := by
    unfold f_X6_text
    rw [Option.bind_some, Option.bind_some, Option.bind_some, Option.bind_some, Option.bind_some, clear_r hn, st_ne (b := 49) _ _ _ (by decide), st_ne (b := 49) _ _ _ (by decide), st_ne (b := 49) _ _ _ (by decide), st_ne (b := 49) _ _ _ (by decide), st_ne (b := 49) _ _ _ (by decide)]
  generalize hY : sr (st (st (st (st (st K 46 12 0) 46 14 0) 46 6 0) 46 7 0) 46 8 0) 49 (fun i => if i < 25 then 0 else K 49 i) = Y at r0
  have y0 : ∀ a, a ≠ 46 → a ≠ 49 → Y a = K a := fun a h1 h2 => by rw [← hY, sr_ne _ _ h2, st_ne _ _ _ h1, st_ne _ _ _ h1, st_ne _ _ _ h1, st_ne _ _ _ h1, st_ne _ _ _ h1]
  have y46 : ∀ j, j ≠ 6 → j ≠ 7 → j ≠ 8 → j ≠ 12 → j ≠ 14 → Y 46 j = K 46 j := fun j h6 h7 h8 h12 h14 => by rw [← hY, sr_ne _ _ (by decide), st_nk _ _ _ h8, st_nk _ _ _ h7, st_nk _ _ _ h6, st_nk _ _ _ h14, st_nk _ _ _ h12]
  have y6 : Y 46 6 = 0 := by rw [← hY, sr_ne _ _ (by decide), st_nk _ _ _ (by decide), st_nk _ _ _ (by decide), st_same]
  have y7 : Y 46 7 = 0 := by rw [← hY, sr_ne _ _ (by decide), st_nk _ _ _ (by decide), st_same]
  have y8 : Y 46 8 = 0 := by rw [← hY, sr_ne _ _ (by decide), st_same]
  have y12 : Y 46 12 = 0 := by rw [← hY, sr_ne _ _ (by decide), st_nk _ _ _ (by decide), st_nk _ _ _ (by decide), st_nk _ _ _ (by decide), st_nk _ _ _ (by decide), st_same]
  have y14 : Y 46 14 = 0 := by rw [← hY, sr_ne _ _ (by decide), st_nk _ _ _ (by decide), st_nk _ _ _ (by decide), st_nk _ _ _ (by decide), st_same]
  have y49 : ∀ i, i < 25 → Y 49 i = 0 := fun i hi => by rw [← hY, sr_same]; exact if_pos hi
  have y51 : Y 51 = M 51 := by rw [y0 51 (by decide) (by decide), hk 51 (by decide)]
  have y10 : Y 46 10 = (len : Int) := by rw [y46 10 (by decide) (by decide) (by decide) (by decide) (by decide), hk 46 (by decide), t2, el]
  have hT : TpOk (M 2) len := ⟨by omega, fun i hi => (t3 i (by omega)).2⟩
  have e2 : X 2 = M 2 := b2 2 (by decide) (by decide)
  have g : Gd len X Y := by
    refine ⟨by rw [e2]; exact hT, ?_, fun i hi => ?_, by rw [b3 1 (by decide)]; exact el, b5, y10, ?_⟩
    · rw [y51]; exact ⟨hT.1, fun i hi => by rw [(t3 i (by omega)).1]; exact hT.2 i hi⟩
    · rw [e2, y51, (t3 i (by omega)).1]
    · exact RelC_k gC (by rw [y0 52 (by decide) (by decide), hk 52 (by decide)]) (by rw [y0 53 (by decide) (by decide), hk 53 (by decide)])
  obtain ⟨q', s1, s2, s3, s4⟩ := step_r (n := n) (N := Y) (r := Y 46) (i := 0) hn g.2.1 y10 y12 y14 (Nat.zero_le _)
  rw [sr_self] at s1
  have Kq1 : Kq Y (sr Y 46 q') := ⟨fun a ha => sr_ne _ _ ha, fun j hj => by rw [sr_same]; exact s2 j (by omega) (by omega) (by omega) (by omega) (by omega) (by omega)⟩
  generalize hY1 : sr Y 46 q' = Y1 at s1 Kq1
  have eq1 : q' = Y1 46 := by rw [← hY1, sr_same]
  have e151 : Y1 51 = Y 51 := Kq1.1 51 (by decide)
  have bq : Bq (Y1 51) len (X 1) (Y1 46) := by
    rw [e151, ← eq1]
    exact Or.inl ⟨b4, 0, Nat.zero_le _, b7, s3, s4⟩
  have g1 : Gd len X Y1 := Gd_k g (Kd.refl _) Kq1.e
  have dr0 : DR X Y1 := by
    refine ⟨by omega, by omega, by rw [Kq1.2 6 (by decide), y6, c4], by rw [Kq1.2 7 (by decide), y7, c5], ⟨by omega, by omega, by omega, by omega, by omega, by omega, by omega, by omega, by omega, by omega⟩, by omega, c16, fun k h1 h2 => ?_, fun i hi => ?_, fun r hr => ?_⟩
    · rw [Kq1.1 49 (by decide)]
      unfold vw
      rw [y49 _ (by decide), y49 _ (by decide), y49 _ (by decide), y49 _ (by omega)]
      have kk : k = 6 ∨ k = 7 ∨ k = 8 ∨ k = 9 ∨ k = 10 ∨ k = 11 ∨ k = 12 ∨ k = 13 ∨ k = 14 ∨ k = 15 ∨ k = 16 ∨ k = 17 ∨ k = 18 := by omega
      rcases kk with e | e | e | e | e | e | e | e | e | e | e | e | e <;> subst e
      · exact c6.symm
      · exact c7.symm
      · exact c8.symm
      · exact c9.symm
      · exact c10.symm
      · exact c11.symm
      · exact c12.symm
      · exact c13.symm
      · exact c14.symm
      · exact c15.symm
      · exact c16.symm
      · exact c17.symm
      · exact c18.symm
    · rw [c4] at hi; exact absurd hi (Nat.not_lt_zero _)
    · rw [c5] at hr; exact absurd hr (Nat.not_lt_zero _)
  have on0 : On X Y1 := by
    unfold On
    rw [Kq1.2 8 (by decide), y8, b6]
    decide
  obtain ⟨x', X', Y', l1, l2, kd, ke, fin⟩ := lines_b (n := n) (len := len) hn (len + 1) n n 0 X Y1 (by have := hT.1; omega) (by have := hT.1; omega) g1 bq (fun _ => ⟨dr0, on0, by rw [b7]; exact Int.le_refl _, by rw [b7]; omega⟩)
  have R1 : f_X5_text n M = f_X5_text_43 n (x' : Int) X' := by
    unfold f_X5_text
    rw [b1, Option.bind_some]
    exact l1
  have R2 : f_X6_text n K = f_X6_text_76 n (x' : Int) Y' := by
    rw [r0]
    unfold f_X6_text_48
    rw [s1, Option.bind_some]
    exact l2
  -- what is kept
  have kx : ∀ a, a ≠ 1 → (a < 8 ∨ 12 < a) → X' a = M a := fun a h1 h2 => by rw [kd.1 a h1 h2, b2 a h1 (by omega)]
  have ky : ∀ a, a ≠ 46 → a ≠ 49 → a ≠ 50 → Y' a = K a := fun a h1 h2 h3 => by rw [ke.1 a h1 h2 h3, Kq1.1 a h1, y0 a h1 h2]
  have ky46 : ∀ j, j < 6 ∨ j = 9 ∨ j = 10 ∨ j = 11 ∨ 17 < j → Y' 46 j = K 46 j := fun j hj => by rw [ke.2 j hj, Kq1.2 j (by omega), y46 j (by omega) (by omega) (by omega) (by omega) (by omega)]
  have kx1 : ∀ j, j < 2 ∨ 9 < j → X' 1 j = M 1 j := fun j hj => by rw [kd.2 j (by omega), b3 j hj]
  rcases fin with ⟨f1, f2, f3⟩ | f
  · -- told
    have U : f_X6_text_146 n (x' : Int) (cpR (st (st Y' 46 10 0) 46 11 0) 25) = some ((x' : Int), st (st (st (st (st (cpR (st (st Y' 46 10 0) 46 11 0) 25) 46 1 (Y' 46 6)) 46 3 (Y' 46 7)) 46 22 0) 56 0 0) 56 1 0) := by
      have e46 : cpR (st (st Y' 46 10 0) 46 11 0) 25 46 = st (st Y' 46 10 0) 46 11 0 46 := by unfold cpR; rw [sr_ne _ _ (by decide), sr_ne _ _ (by decide)]
      unfold f_X6_text_146
      rw [Option.bind_some, Option.bind_some, Option.bind_some, Option.bind_some, Option.bind_some, st_nk _ _ _ (show (7 : Nat) ≠ 1 by decide), e46, st_nk _ _ _ (by decide), st_nk _ _ _ (by decide), st_nk _ _ _ (by decide), st_nk _ _ _ (by decide)]
    refine ⟨(x' : Int), _, _, by rw [R1, text43_c hn f1], by rw [R2, text76_r hn f2, U], fun a ha => ?_, fun a ha => ?_, fun G hG1 hG2 => ?_⟩
    · rw [st_ne _ _ _ (by omega), st_ne _ _ _ (by omega), st_ne _ _ _ (by omega), cpS_o (by omega), st_ne _ _ _ (by omega), kx a (by omega) (by omega)]
    · rw [st_ne _ _ _ (by omega), st_ne _ _ _ (by omega), st_ne _ _ _ (by omega), st_ne _ _ _ (by omega), st_ne _ _ _ (by omega)]
      unfold cpR
      rw [sr_ne _ _ (by omega), sr_ne _ _ (by omega), st_ne _ _ _ (by omega), st_ne _ _ _ (by omega), ky a (by omega) (by omega) (by omega)]
    · -- the object's cells
      have x0 : ∀ a, a < 46 → a ≠ 1 → (a < 3 ∨ 12 < a) → a ≠ 22 → a ≠ 26 → G a = M a := fun a h1 h2 h3 h4 h5 => by
        rw [hG1 a h1, st_ne _ _ _ h5, st_ne _ _ _ h5, st_ne _ _ _ h4, cpS_o (by omega), st_ne _ _ _ h2, kx a h2 (by omega)]
      have x1 : G 1 = st X' 1 1 0 1 := by rw [hG1 1 (by decide), st_ne _ _ _ (by decide), st_ne _ _ _ (by decide), st_ne _ _ _ (by decide), cpS_o (by decide)]
      have x3 : ∀ k, 4 ≤ k → k ≤ 18 → G 3 k = X' 8 k := fun k h1 h2 => by
        rw [hG1 3 (by decide), st_ne _ _ _ (by decide), st_ne _ _ _ (by decide), st_ne _ _ _ (by decide), cpS_s _ _ _ _ ⟨h1, h2⟩, st_ne _ _ _ (by decide)]
      have x4 : ∀ i k, 1 ≤ i → i ≤ 4 → k < 4 → G (3 + i) k = X' (8 + i) k := fun i k h1 h2 h3 => by
        rw [hG1 (3 + i) (by omega), st_ne _ _ _ (by omega), st_ne _ _ _ (by omega), st_ne _ _ _ (by omega), cpS_a ⟨h1, h2⟩ h3, st_ne _ _ _ (by omega)]
      have x22 : G 22 2 = 0 := by rw [hG1 22 (by decide), st_ne _ _ _ (by decide), st_ne _ _ _ (by decide), st_same]
      have x26 : ∀ k, k < 2 → G 26 k = 0 := fun k hk => by
        rw [hG1 26 (by decide), st_at, st_at]
        have : k = 0 ∨ k = 1 := by omega
        rcases this with e | e <;> subst e <;> rfl
      -- the reference's
      have z0 : ∀ a, 46 ≤ a → a ≠ 46 → a ≠ 47 → a ≠ 48 → a ≠ 49 → a ≠ 50 → a ≠ 56 → G a = M a := fun a h1 h2 h3 h4 h5 h6 h7 => by
        rw [hG2 a h1, st_ne _ _ _ h7, st_ne _ _ _ h7, st_ne _ _ _ h2, st_ne _ _ _ h2, st_ne _ _ _ h2]
        unfold cpR
        rw [sr_ne _ _ h4, sr_ne _ _ h3, st_ne _ _ _ h2, st_ne _ _ _ h2, ky a h2 h5 h6, hk a h1]
      have z46 : ∀ j, G 46 j = if j = 22 then 0 else if j = 3 then Y' 46 7 else if j = 1 then Y' 46 6 else if j = 11 then 0 else if j = 10 then 0 else Y' 46 j := fun j => by
        rw [hG2 46 (by decide), st_ne _ _ _ (by decide), st_ne _ _ _ (by decide)]
        simp only [st_at, true_and]
        unfold cpR
        rw [sr_ne _ _ (by decide), sr_ne _ _ (by decide)]
        simp only [st_at, true_and]
      have z47 : ∀ k, k < 25 → G 47 k = Y' 49 k := fun k hk2 => by
        rw [hG2 47 (by decide), st_ne _ _ _ (by decide), st_ne _ _ _ (by decide), st_ne _ _ _ (by decide), st_ne _ _ _ (by decide), st_ne _ _ _ (by decide)]
        unfold cpR
        rw [sr_ne _ _ (by decide), sr_same]
        show (if k < 25 then _ else _) = _
        rw [if_pos hk2, st_ne _ _ _ (by decide), st_ne _ _ _ (by decide)]
      have z48 : ∀ k, k < 4 → G 48 k = Y' 50 k := fun k hk2 => by
        rw [hG2 48 (by decide), st_ne _ _ _ (by decide), st_ne _ _ _ (by decide), st_ne _ _ _ (by decide), st_ne _ _ _ (by decide), st_ne _ _ _ (by decide)]
        unfold cpR
        rw [sr_same]
        show (if k < 4 ∧ k < 25 then _ else _) = _
        rw [if_pos (by omega), st_ne _ _ _ (by decide), st_ne _ _ _ (by decide)]
      have z56 : ∀ k, k < 2 → G 56 k = 0 := fun k hk2 => by
        rw [hG2 56 (by decide), st_at, st_at]
        have : k = 0 ∨ k = 1 := by omega
        rcases this with e | e <;> subst e <;> rfl
      obtain ⟨d1, d2, d3, d4, d5, d6, d7, d8, d9, d10⟩ := f3
      have G4 := x3 4 (by decide) (by decide)
      have G5 := x3 5 (by decide) (by decide)
      refine ⟨⟨by rw [G4]; exact d1, by rw [G5]; exact d2, ?_, ?_, fun r hr => ?_, ?_, ?_⟩, ⟨?_, ?_, fun i hi => ?_, ?_⟩, ⟨by rw [x22]; decide, ?_, fun i hi => ?_⟩, fun k hk2 => ?_, ?_, ?_⟩
      · rw [z46, G4]; exact d3
      · rw [z46, G5]; exact d4
      · rw [G5] at hr
        rw [z48 r (by omega), show (6 : Nat) = 3 + 3 from rfl, x4 3 r (by decide) (by decide) (by omega)]
        exact (d10 r hr).2.1
      · refine ⟨OkS_rw (fun k h1 h2 => (x3 k (by omega) h2).symm) d5, by rw [x3 10 (by decide) (by decide), x3 8 (by decide) (by decide)]; exact d6, by rw [x3 16 (by decide) (by decide), d7]; decide, rfl, rfl, fun i hi => ?_, fun r hr => ?_⟩
        · rw [G4] at hi
          rw [x4 1 i (by decide) (by decide) (by omega), x4 2 i (by decide) (by decide) (by omega)]
          exact ⟨(d9 i hi).1, (d9 i hi).2.1⟩
        · rw [G5] at hr
          rw [x4 4 r (by decide) (by decide) (by omega)]
          exact ⟨(d10 r hr).1, rfl⟩
      · refine ⟨fun k h1 h2 => ?_, fun i hi => ?_, fun r hr => ?_⟩
        · rw [x3 k (by omega) h2, ← d8 k h1 h2]
          unfold vw
          rw [z47 _ (by decide), z47 _ (by decide), z47 _ (by decide), z47 _ (by omega)]
        · rw [G4] at hi
          rw [x4 1 i (by decide) (by decide) (by omega), x4 2 i (by decide) (by decide) (by omega), Nat.zero_add, z47 _ (by omega), z47 _ (by omega)]
          exact ⟨(d9 i hi).2.2.1, (d9 i hi).2.2.2⟩
        · rw [G5] at hr
          rw [x4 4 r (by decide) (by decide) (by omega), Nat.zero_add, z47 _ (by omega)]
          exact (d10 r hr).2.2
      · rw [x1, st_same]; decide
      · rw [z46, x1, st_same]; rfl
      · rw [x1, st_same] at hi; exact absurd hi (Nat.not_lt_zero _)
      · rw [z46, x1, st_nk _ _ _ (by decide), f1]; rfl
      · rw [z46, x22]; rfl
      · rw [x22] at hi; exact absurd hi (Nat.not_lt_zero _)
      · rw [x26 k hk2, z56 k hk2]
        exact ⟨Or.inl rfl, rfl, fun q => absurd q (by decide)⟩
      · refine RelH_k gH (fun a ha => ?_) (by rw [x0 0 (by decide) (by decide) (by decide) (by decide) (by decide)]) (by rw [z46]; exact (ky46 27 (by decide)).trans (by rw [hk 46 (by decide)]))
        by_cases q : a < 46
        · exact x0 a q (by omega) (by omega) (by omega) (by omega)
        · exact z0 a (by omega) (by omega) (by omega) (by omega) (by omega) (by omega) (by omega)
      · exact RelC_k gC (z0 52 (by decide) (by decide) (by decide) (by decide) (by decide) (by decide) (by decide)) (z0 53 (by decide) (by decide) (by decide) (by decide) (by decide) (by decide) (by decide))
  · -- broken
    refine ⟨-10 - X' 1 3, _, _, by rw [R1, text43_f f.1], by rw [R2, text76_f (by have := f.1; have := f.2.1; omega), f.2.2.1], fun a ha => ?_, fun a ha => ?_, fun G hG1 hG2 => ?_⟩
    · rw [st_ne _ _ _ (by omega), kx a (by omega) (by omega)]
    · rw [st_ne _ _ _ (by omega), st_ne _ _ _ (by omega), ky a (by omega) (by omega) (by omega)]
    · have x0 : ∀ a, a < 46 → a ≠ 1 → (a < 8 ∨ 12 < a) → G a = M a := fun a h1 h2 h3 => by rw [hG1 a h1, st_ne _ _ _ h2, kx a h2 h3]
      have x1 : G 1 = st X' 1 1 0 1 := hG1 1 (by decide)
      have z0 : ∀ a, 46 ≤ a → a ≠ 46 → a ≠ 49 → a ≠ 50 → G a = M a := fun a h1 h2 h3 h4 => by rw [hG2 a h1, st_ne _ _ _ h2, st_ne _ _ _ h2, ky a h2 h3 h4, hk a h1]
      have z46 : ∀ j, j = 1 ∨ j = 3 ∨ j = 22 ∨ j = 27 → G 46 j = M 46 j := fun j hj => by rw [hG2 46 (by decide), st_nk _ _ _ (by omega), st_nk _ _ _ (by omega), ky46 j (by omega), hk 46 (by decide)]
      have z4610 : G 46 10 = 0 := by rw [hG2 46 (by decide), st_nk _ _ _ (by decide), st_same]
      have z4611 : G 46 11 = Y' 46 12 := by rw [hG2 46 (by decide), st_same]
      have x3 := x0 3 (by decide) (by decide) (by decide)
      refine ⟨?_, ⟨?_, ?_, fun i hi => ?_, ?_⟩, ?_, ?_, ?_, ?_⟩
      · refine RelA_k gA (fun a ha => ?_) (fun k hk2 => by rw [z0 47 (by decide) (by decide) (by decide) (by decide)]) (z46 1 (by decide)) (z46 3 (by decide))
        by_cases q : a < 46
        · exact x0 a q (by omega) (by omega)
        · exact z0 a (by omega) (by omega) (by omega) (by omega)
      · rw [x1, st_same]; decide
      · rw [z4610, x1, st_same]
      · rw [x1, st_same] at hi; exact absurd hi (Nat.not_lt_zero _)
      · rw [z4611, x1, st_nk _ _ _ (by decide)]; exact f.2.1
      · exact RelK_k gK (x0 22 (by decide) (by decide) (by decide)) (x0 23 (by decide) (by decide) (by decide)) (x0 24 (by decide) (by decide) (by decide)) (z0 55 (by decide) (by decide) (by decide) (by decide)) (z46 22 (by decide))
      · refine RelI_k hL gI (fun a ha => ?_) (by rw [x3]) (by rw [x3]) (fun k h1 h2 => by rw [z0 47 (by decide) (by decide) (by decide) (by decide)])
        by_cases q : a < 46
        · exact x0 a q (by omega) (by omega)
        · exact z0 a (by omega) (by omega) (by omega) (by omega)
      · refine RelH_k gH (fun a ha => ?_) (by rw [x0 0 (by decide) (by decide) (by decide)]) (z46 27 (by decide))
        by_cases q : a < 46
        · exact x0 a q (by omega) (by omega)
        · exact z0 a (by omega) (by omega) (by omega) (by omega)
      · exact RelC_k gC (z0 52 (by decide) (by decide) (by decide) (by decide)) (z0 53 (by decide) (by decide) (by decide) (by decide))
theorem op_text {n : Nat} {M : Mem} (hn : 1000 ≤ n) (h : Rel M) : ∃ r M1 M2, f_X5_text n M = some (r, M1) ∧ f_X6_text n M1 = some (r, M2) ∧ Rel M2 := by
  obtain ⟨r, M1, K, a1, -, a3, -⟩ := text_both (K := M) hn h (fun _ _ => rfl)
  obtain ⟨r', M1', K', b1, b2, b3, b4, b5⟩ := text_both (K := M1) hn h a3
  have e := Option.some.inj (a1.symm.trans b1)
  have e1 : r = r' := congrArg Prod.fst e
  have e2 : M1 = M1' := congrArg Prod.snd e
  refine ⟨r, M1, K', a1, by rw [e1]; exact b2, b5 K' (fun a ha => by rw [b4 a ha, e2]) (fun _ _ => rfl)⟩
