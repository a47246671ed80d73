/-! what a line tells: the object's draft beside the reference's page -/
def DR (X Y : Mem) : Prop := (0 ≤ X 8 4 ∧ X 8 4 ≤ 4) ∧ (0 ≤ X 8 5 ∧ X 8 5 ≤ 4) ∧ Y 46 6 = X 8 4 ∧ Y 46 7 = X 8 5 ∧ OkS (X 8) ∧ X 8 10 ≤ X 8 8 ∧ X 8 16 = 0 ∧ Rw (vw (Y 49) 0) (X 8) ∧ (∀ i, i < (X 8 4).toNat → (0 ≤ X 9 i ∧ X 9 i ≤ 9) ∧ (0 ≤ X 10 i ∧ X 10 i ≤ 9) ∧ Y 49 (2 * i) = X 10 i ∧ Y 49 (2 * i + 1) = X 9 i) ∧ (∀ r, r < (X 8 5).toNat → (1 ≤ X 12 r ∧ X 12 r ≤ 9) ∧ Y 50 r = X 11 r ∧ Y 49 (8 + r) = X 12 r)
def Lw (len : Nat) (X Y X' Y' : Mem) : Prop := Bq (Y' 51) len (X' 1) (Y' 46) ∧ (X' 1 2 = 0 → DR X' Y' ∧ X' 1 5 = X 1 5 ∧ Y' 46 8 = Y 46 8) ∧ Kd X X' ∧ Ke Y Y' ∧ Mo X X'
theorem st_row (M : Mem) (a k : Nat) (v : Int) : st M a k v a = rs (M a) k v := by unfold st; rw [sr_same]; rfl
theorem ck8 {X : Mem} (h : X 1 4 = 8) : ckX2 (X 1 4) = some 8 := by rw [h]; rfl
theorem Bq_2 {t r q : Nat → Int} {len : Nat} (h : Bq t len r q) : 0 ≤ r 2 ∧ r 2 ≤ 5 := by
  rcases h with h | h
  · have := h.1; omega
  · have := h.1; omega
theorem Bq_br {t r q : Nat → Int} {len : Nat} (h : Bq t len r q) (k : r 2 ≠ 0) : Br len r q := by
  rcases h with h | h
  · exact absurd h.1 k
  · exact h
theorem Rw_k {p S : Nat → Int} {k : Nat} {v : Int} (h : Rw (vw p 0) S) (hk : 6 ≤ k ∧ k ≤ 18 ∧ k ≠ 8 ∧ k ≠ 11 ∧ k ≠ 12) : Rw (vw (rs p (k + 6) v) 0) (rs S k v) := by
  intro j h1 h2
  have a := h j h1 h2
  unfold vw at a ⊢
  by_cases q8 : j = 8
  · rw [if_pos q8, rs_n (by omega), rs_n (by omega)]; rw [if_pos q8] at a; exact a
  · rw [if_neg q8] at a ⊢
    by_cases q11 : j = 11
    · rw [if_pos q11, rs_n (by omega), rs_n (by omega)]; rw [if_pos q11] at a; exact a
    · rw [if_neg q11] at a ⊢
      by_cases q12 : j = 12
      · rw [if_pos q12, rs_n (by omega), rs_n (by omega)]; rw [if_pos q12] at a; exact a
      · rw [if_neg q12] at a ⊢
        by_cases q : j = k
        · rw [q, rs_s, show 0 + k + 6 = k + 6 by omega, rs_s]
        · rw [rs_n (by omega), rs_n q]; exact a
theorem Rw_8 {p S : Nat → Int} {v : Int} (h : Rw (vw p 0) S) : Rw (vw (rs p 14 (40 - v)) 0) (rs S 8 v) := by
  intro j h1 h2
  have a := h j h1 h2
  unfold vw at a ⊢
  by_cases q8 : j = 8
  · rw [if_pos q8, rs_s, q8, rs_s]; omega
  · rw [if_neg q8] at a ⊢
    rw [rs_n (k := 8) q8, rs_n (j := 0 + 18) (by decide), rs_n (j := 0 + 17) (by decide), rs_n (j := 0 + j + 6) (by omega)]; exact a
theorem Rw_11 {p S : Nat → Int} {v : Int} (h : Rw (vw p 0) S) : Rw (vw (rs p 18 (v - 1)) 0) (rs S 11 v) := by
  intro j h1 h2
  have a := h j h1 h2
  unfold vw at a ⊢
  by_cases q8 : j = 11
  · subst q8; rw [if_neg (by decide), if_pos rfl, rs_s, rs_s]; omega
  · rw [if_neg q8] at a ⊢
    rw [rs_n (k := 11) q8, rs_n (j := 0 + 14) (by decide), rs_n (j := 0 + 17) (by decide)]
    by_cases q12 : j = 12
    · rw [if_pos q12] at a ⊢; exact a
    · rw [if_neg q12] at a ⊢; rw [rs_n (j := 0 + j + 6) (by omega)]; exact a
theorem Rw_12 {p S : Nat → Int} {v : Int} (h : Rw (vw p 0) S) : Rw (vw (rs p 17 (v - 1)) 0) (rs S 12 v) := by
  intro j h1 h2
  have a := h j h1 h2
  unfold vw at a ⊢
  by_cases q8 : j = 12
  · subst q8; rw [if_neg (by decide), if_neg (by decide), if_pos rfl, rs_s, rs_s]; omega
  · rw [if_neg q8] at a ⊢
    rw [rs_n (k := 12) q8, rs_n (j := 0 + 14) (by decide), rs_n (j := 0 + 18) (by decide)]
    by_cases q12 : j = 11
    · rw [if_pos q12] at a ⊢; exact a
    · rw [if_neg q12] at a ⊢; rw [rs_n (j := 0 + j + 6) (by omega)]; exact a
theorem DR_set {X Y X' Y' : Mem} (d : DR X Y) (e9 : ∀ a, 9 ≤ a → a ≤ 12 → X' a = X a) (e50 : Y' 50 = Y 50) (e4 : X' 8 4 = X 8 4) (e5 : X' 8 5 = X 8 5) (e6 : Y' 46 6 = Y 46 6) (e7 : Y' 46 7 = Y 46 7) (e49 : ∀ k, k < 12 → Y' 49 k = Y 49 k) (o : OkS (X' 8)) (sc : X' 8 10 ≤ X' 8 8) (pa : X' 8 16 = 0) (w : Rw (vw (Y' 49) 0) (X' 8)) : DR X' Y' := by
  obtain ⟨d1, d2, d3, d4, -, -, -, -, d9, d10⟩ := d
  refine ⟨by rw [e4]; exact d1, by rw [e5]; exact d2, by rw [e6, e4]; exact d3, by rw [e7, e5]; exact d4, o, sc, pa, w, fun i hi => ?_, fun r hr => ?_⟩
  · rw [e4] at hi
    rw [e9 9 (by decide) (by decide), e9 10 (by decide) (by decide), e49 _ (by omega), e49 _ (by omega)]; exact d9 i hi
  · rw [e5] at hr
    rw [e9 12 (by decide) (by decide), e9 11 (by decide) (by decide), e50, e49 _ (by omega)]; exact d10 r hr
theorem DR_k {X Y X' Y' : Mem} (d : DR X Y) (e : ∀ a, 8 ≤ a → a ≤ 12 → X' a = X a) (e49 : Y' 49 = Y 49) (e50 : Y' 50 = Y 50) (e6 : Y' 46 6 = Y 46 6) (e7 : Y' 46 7 = Y 46 7) : DR X' Y' := by
  unfold DR at d ⊢
  rw [e 8 (by decide) (by decide), e 9 (by decide) (by decide), e 10 (by decide) (by decide), e 11 (by decide) (by decide), e 12 (by decide) (by decide), e49, e50, e6, e7]; exact d
/-- two numbers into the draft: people, price -/
def tlP (n : Nat) (M1 : Mem) : Option Mem :=
  (ckX2 (M1 1 4)).bind fun c2 =>
  (f_X3_takeWithin n 0 40 M1).bind fun (v3, M4) =>
  (some (st M4 c2 6 v3)).bind fun M5 =>
  (ckX2 (M5 1 4)).bind fun c6 =>
  (f_X3_takeWithin n 0 20 M5).bind fun (v7, M8) =>
  (some (st M8 c6 7 v7)).bind fun M9 =>
  some M9
def tlC (n : Nat) (M1 : Mem) : Option Mem :=
  (ckX2 (M1 1 4)).bind fun c2 =>
  (f_X3_takeWithin n 0 9 M1).bind fun (v3, M4) =>
  (some (st M4 c2 11 v3)).bind fun M5 =>
  (ckX2 (M5 1 4)).bind fun c6 =>
  (f_X3_takeWithin n 0 9 M5).bind fun (v7, M8) =>
  (some (st M8 c6 12 v7)).bind fun M9 =>
  some M9
theorem two_z {n len : Nat} {X Y : Mem} (l1 h1 l2 h2 : Int) (k1 k2 : Nat) (hn : 1000 ≤ n) (g : Gd len X Y) (h : Zw len X Y) : ∃ X', ((ckX2 (X 1 4)).bind fun c2 => (f_X3_takeWithin n l1 h1 X).bind fun (v3, M4) => (some (st M4 c2 k1 v3)).bind fun M5 => (ckX2 (M5 1 4)).bind fun c6 => (f_X3_takeWithin n l2 h2 M5).bind fun (v7, M8) => (some (st M8 c6 k2 v7)).bind fun M9 => some M9) = some X' ∧ Br len (X' 1) (Y 46) ∧ Kd X X' := by
  obtain ⟨X1, a1, a2, a3⟩ := within_z l1 h1 hn g h
  have kd1 : Kd X (st X1 8 k1 0) := a3.d.trans (Kd_st (by decide))
  have g1 : Gd len (st X1 8 k1 0) Y := Gd_k g kd1 (Ke.refl _)
  have b1 : Br len ((st X1 8 k1 0) 1) (Y 46) := by rw [st_ne _ _ _ (by decide)]; exact a2
  obtain ⟨X3, c1, c2, c3⟩ := within_z l2 h2 hn g1 (Br_z b1)
  refine ⟨st X3 8 k2 0, ?_, by rw [st_ne _ _ _ (by decide)]; exact c2, kd1.trans (c3.d.trans (Kd_st (by decide)))⟩
  simp only [ck8 g.2.2.2.2.1, ck8 g1.2.2.2.2.1, a1, c1, Option.bind_some]
theorem tlP_z {n len : Nat} {X Y : Mem} (hn : 1000 ≤ n) (g : Gd len X Y) (h : Zw len X Y) : ∃ X', tlP n X = some X' ∧ Br len (X' 1) (Y 46) ∧ Kd X X' := two_z 0 40 0 20 6 7 hn g h
theorem tlC_z {n len : Nat} {X Y : Mem} (hn : 1000 ≤ n) (g : Gd len X Y) (h : Zw len X Y) : ∃ X', tlC n X = some X' ∧ Br len (X' 1) (Y 46) ∧ Kd X X' := two_z 0 9 0 9 11 12 hn g h
theorem two_b {n len : Nat} {X Y : Mem} (h1 h2 : Int) (k1 k2 p1 p2 : Nat) (F1 F2 : Int → Int) (r1 : rg h1) (r2 : rg h2) (hn : 1000 ≤ n) (g : Gd len X Y) (h : Bq (Y 51) len (X 1) (Y 46)) (d : DR X Y) (hk : (6 ≤ k1 ∧ k1 ≤ 14) ∧ (6 ≤ k2 ∧ k2 ≤ 14) ∧ 12 ≤ p1 ∧ 12 ≤ p2) (ok : ∀ v w, (0 ≤ v ∧ v ≤ h1) → (0 ≤ w ∧ w ≤ h2) → OkS (rs (rs (X 8) k1 v) k2 w) ∧ rs (rs (X 8) k1 v) k2 w 10 ≤ rs (rs (X 8) k1 v) k2 w 8 ∧ Rw (vw (rs (rs (Y 49) p1 (F1 v)) p2 (F2 w)) 0) (rs (rs (X 8) k1 v) k2 w)) : ∃ X' Y', ((ckX2 (X 1 4)).bind fun c2 => (f_X3_takeWithin n 0 h1 X).bind fun (v3, M4) => (some (st M4 c2 k1 v3)).bind fun M5 => (ckX2 (M5 1 4)).bind fun c6 => (f_X3_takeWithin n 0 h2 M5).bind fun (v7, M8) => (some (st M8 c6 k2 v7)).bind fun M9 => some M9) = some X' ∧ ((f_X6_number n 0 h1 Y).bind fun (v13, M14) => (some (st M14 49 p1 (F1 v13))).bind fun M15 => (f_X6_number n 0 h2 M15).bind fun (v16, M17) => (some (st M17 49 p2 (F2 v16))).bind fun M18 => some M18) = some Y' ∧ Lw len X Y X' Y' := by
  obtain ⟨v, w, X1, Y1, a1, a2, a3, a4, a5, a6⟩ := num_w 0 h1 (rgl 0) r1 hn g h
  have kd1 : Kd X (st X1 8 k1 v) := a5.d.trans (Kd_st (by decide))
  have ke1 : Ke Y (st Y1 49 p1 (F1 w)) := a6.e.trans (Ke_st (by decide))
  have g1 : Gd len (st X1 8 k1 v) (st Y1 49 p1 (F1 w)) := Gd_k g kd1 ke1
  have b0 : Bq ((st Y1 49 p1 (F1 w)) 51) len ((st X1 8 k1 v) 1) ((st Y1 49 p1 (F1 w)) 46) := by
    rw [st_ne _ _ _ (by decide), st_ne _ _ _ (by decide), st_ne _ _ _ (by decide)]; exact a3
  obtain ⟨v', w', X3, Y3, b1, b2, b3, b4, b5, b6⟩ := num_w 0 h2 (rgl 0) r2 hn g1 b0
  refine ⟨st X3 8 k2 v', st Y3 49 p2 (F2 w'), ?_, ?_, ?_, ?_, kd1.trans (b5.d.trans (Kd_st (by decide))), ke1.trans (b6.e.trans (Ke_st (by decide))), ?_⟩
  · simp only [ck8 g.2.2.2.2.1, ck8 g1.2.2.2.2.1, a1, b1, Option.bind_some]
  · simp only [a2, b2, Option.bind_some]
  · rw [st_ne _ _ _ (by decide), st_ne _ _ _ (by decide), st_ne _ _ _ (by decide)]; exact b3
  · rw [st_ne _ _ _ (by decide)]
    intro z
    obtain ⟨z1, z2, z3, -⟩ := b4 z
    have zz := (b5.2.2 z).1
    rw [st_ne _ _ _ (by decide)] at zz
    obtain ⟨y1, y2, y3, -⟩ := a4 zz
    have e8 : st X3 8 k2 v' 8 = rs (rs (X 8) k1 v) k2 v' := by rw [st_row, b5.1 8 (by decide), st_row, a5.1 8 (by decide)]
    have e49 : st Y3 49 p2 (F2 w') 49 = rs (rs (Y 49) p1 (F1 v)) p2 (F2 v') := by rw [st_row, b6.1 49 (by decide), st_row, a6.1 49 (by decide), y1, z1]
    obtain ⟨o1, o2, o3⟩ := ok v v' ⟨y2, y3⟩ ⟨z2, z3⟩
    have e46 : ∀ j, j < 12 → st Y3 49 p2 (F2 w') 46 j = Y 46 j := fun j hj => by
      rw [st_ne _ _ _ (by decide), b6.2 j (by omega), st_ne _ _ _ (by decide), a6.2 j (by omega)]
    refine ⟨DR_set d (fun a h1 h2 => ?_) ?_ ?_ ?_ (e46 6 (by decide)) (e46 7 (by decide)) (fun k hk => ?_) ?_ ?_ ?_ ?_, ?_, e46 8 (by decide)⟩
    · rw [st_ne _ _ _ (by omega), b5.1 a (by omega), st_ne _ _ _ (by omega), a5.1 a (by omega)]
    · rw [st_ne _ _ _ (by decide), b6.1 50 (by decide), st_ne _ _ _ (by decide), a6.1 50 (by decide)]
    · rw [e8, rs_n (by omega), rs_n (by omega)]
    · rw [e8, rs_n (by omega), rs_n (by omega)]
    · rw [e49, rs_n (by omega), rs_n (by omega)]
    · rw [e8]; exact o1
    · rw [e8]; exact o2
    · rw [e8, rs_n (by omega), rs_n (by omega)]; exact d.2.2.2.2.2.2.1
    · rw [e8, e49]; exact o3
    · rw [b5.2.1 5 (by decide), st_ne _ _ _ (by decide), a5.2.1 5 (by decide)]
  · refine Mo.trans a5.m (Mo.trans (Mo_st (a := 8) (k := k1) (v := v) (by decide)) (Mo.trans b5.m (Mo_st (by decide))))
theorem OkS_67 {S : Nat → Int} {v w : Int} (h : OkS S) (hv : 0 ≤ v ∧ v ≤ 40) (hw : 0 ≤ w ∧ w ≤ 20) : OkS (rs (rs S 6 v) 7 w) := by
  obtain ⟨h1, h2, h3, h4, h5, h6, h7, h8, h9, h10⟩ := h
  exact ⟨hv, hw, h3, h4, h5, h6, h7, h8, h9, h10⟩
theorem OkS_1112 {S : Nat → Int} {v w : Int} (h : OkS S) (hv : 0 ≤ v ∧ v ≤ 9) (hw : 0 ≤ w ∧ w ≤ 9) : OkS (rs (rs S 11 v) 12 w) := by
  obtain ⟨h1, h2, h3, h4, h5, h6, h7, h8, h9, h10⟩ := h
  exact ⟨h1, h2, h3, h4, h5, hv, hw, h8, h9, h10⟩
theorem people_b {n len : Nat} {X Y : Mem} (hn : 1000 ≤ n) (g : Gd len X Y) (h : Bq (Y 51) len (X 1) (Y 46)) (d : DR X Y) : ∃ X' Y', tlP n X = some X' ∧ f_X6_readOnce n 2 Y = some Y' ∧ Lw len X Y X' Y' := by
  obtain ⟨X', Y', a, b, c⟩ := two_b 40 20 6 7 12 13 id id (rgl 40) (rgl 20) hn g h d (by decide) (fun v w hv hw => ⟨OkS_67 d.2.2.2.2.1 hv hw, d.2.2.2.2.2.1, Rw_k (k := 7) (Rw_k (k := 6) d.2.2.2.2.2.2.2.1 (by decide)) (by decide)⟩)
  refine ⟨X', Y', a, ?_, c⟩
  unfold f_X6_readOnce
  rw [if_pos wr_2]
  exact b
theorem price_b {n len : Nat} {X Y : Mem} (hn : 1000 ≤ n) (g : Gd len X Y) (h : Bq (Y 51) len (X 1) (Y 46)) (d : DR X Y) : ∃ X' Y', tlC n X = some X' ∧ f_X6_readOnce n 4 Y = some Y' ∧ Lw len X Y X' Y' := by
  obtain ⟨X', Y', a, b, c⟩ := two_b 9 9 11 12 18 17 (fun v => v - 1) (fun v => v - 1) (rgl 9) (rgl 9) hn g h d (by decide) (fun v w hv hw => ⟨OkS_1112 d.2.2.2.2.1 hv hw, d.2.2.2.2.2.1, Rw_12 (Rw_11 d.2.2.2.2.2.2.2.1)⟩)
  refine ⟨X', Y', a, ?_, c⟩
  unfold f_X6_readOnce
  rw [if_neg (by rw [wr_4]; decide), if_neg (by rw [wr_4]; decide), if_pos wr_4]
  exact b
