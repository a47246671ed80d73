/-! keep, back -/
theorem rx_id {a s n k : Nat} {x : Int} (hx : x = (k : Int)) (hk : k < n) (hn : n ≤ 1000) : rx a s n x = some (k * s + a) := by
  subst hx; unfold rx; rw [wr_id (by omega) (by omega), if_pos (by omega), Int.toNat_natCast]
theorem CtOk_cp {M M' : Mem} {j q : Nat} (hL : (M 3 4).toNat ≤ 4 ∧ (M 3 5).toNat ≤ 4) (g : CtOk M q) (es : ∀ k, 4 ≤ k → k ≤ 18 → M' j k = M q k) (ea : ∀ i k, 1 ≤ i → i ≤ 4 → k < 4 → M' (j + i) k = M (q + i) k) (e4 : M' 3 4 = M 3 4) (e5 : M' 3 5 = M 3 5) (e6 : ∀ r, r < (M 3 5).toNat → M' 6 r = M 6 r) : CtOk M' j := by
  obtain ⟨a1, a2, a3, a4, a5, a6, a7⟩ := g
  refine ⟨OkS_rw (fun k h1 h2 => (es k (by omega) h2).symm) a1, ?_, ?_, ?_, ?_, fun i hi => ?_, fun r hr => ?_⟩
  · rw [es 10 (by decide) (by decide), es 8 (by decide) (by decide)]; exact a2
  · rw [es 16 (by decide) (by decide)]; exact a3
  · rw [es 4 (by decide) (by decide), e4]; exact a4
  · rw [es 5 (by decide) (by decide), e5]; exact a5
  · rw [e4] at hi
    rw [ea 1 i (by decide) (by decide) (by omega), ea 2 i (by decide) (by decide) (by omega)]; exact a6 i hi
  · rw [e5] at hr
    rw [ea 4 r (by decide) (by decide) (by omega), ea 3 r (by decide) (by decide) (by omega), e6 r hr]; exact a7 r hr
theorem CPg_cp {M M' : Mem} {j q p p' : Nat} (hL : (M 3 4).toNat ≤ 4 ∧ (M 3 5).toNat ≤ 4) (g : CPg M q p) (es : ∀ k, 4 ≤ k → k ≤ 18 → M' j k = M q k) (ea : ∀ i k, 1 ≤ i → i ≤ 4 → k < 4 → M' (j + i) k = M (q + i) k) (e4 : M' 3 4 = M 3 4) (e5 : M' 3 5 = M 3 5) (e47 : ∀ k, k < 25 → M' 47 (p' + k) = M 47 (p + k)) : CPg M' j p' := by
  obtain ⟨a1, a2, a3⟩ := g
  refine ⟨fun k h1 h2 => ?_, fun i hi => ?_, fun r hr => ?_⟩
  · rw [es k (by omega) h2, ← a1 k h1 h2]
    unfold vw
    rw [e47 14 (by decide), e47 18 (by decide), e47 17 (by decide), show p' + k + 6 = p' + (k + 6) by omega, e47 (k + 6) (by omega), show p + (k + 6) = p + k + 6 by omega]
  · rw [e4] at hi
    rw [ea 2 i (by decide) (by decide) (by omega), ea 1 i (by decide) (by decide) (by omega), e47 (2 * i) (by omega), show p' + 2 * i + 1 = p' + (2 * i + 1) by omega, e47 (2 * i + 1) (by omega)]
    exact a2 i hi
  · rw [e5] at hr
    rw [ea 4 r (by decide) (by decide) (by omega), show p' + 8 + r = p' + (8 + r) by omega, e47 (8 + r) (by omega), show p + (8 + r) = p + 8 + r by omega]
    exact a3 r hr
theorem op_keep {n : Nat} {M : Mem} {x : Int} (hn : 1000 ≤ n) (hx : rg x) (h : Rel M) : ∃ r M1 M2, f_X5_keep x M = some (r, M1) ∧ f_X6_keep n x M1 = some (r, M2) ∧ Rel M2 := by
  have hL : (M 3 4).toNat ≤ 4 ∧ (M 3 5).toNat ≤ 4 := by have := h.1.1; have := h.1.2.1; omega
  have h0 := h
  obtain ⟨gA, gT, gK, gI, gH, gC⟩ := h0
  unfold f_X5_keep f_X6_keep
  rw [within_c hx (rgl 0) (rgl 1), Option.bind_some, ifbi]
  by_cases g : 0 ≤ x ∧ x ≤ 1
  · obtain ⟨k, rfl⟩ : ∃ k : Nat, x = (k : Int) := ⟨x.toNat, by omega⟩
    have hk : k < 2 := by omega
    obtain ⟨i1, i2, i3⟩ := gI k hk
    have X1 : ∀ a, a ≠ 26 → (a < 28 + 5 * k ∨ 28 + 5 * k + 4 < a) → st (cpS M (28 + 5 * k) 3) 26 k 1 a = M a := fun a ha hb => by rw [st_ne _ _ _ ha, cpS_o hb]
    refine ⟨M 26 k, st (cpS M (28 + 5 * k) 3) 26 k 1, st (sr (st (cpS M (28 + 5 * k) 3) 26 k 1) 47 (cr (M 47) 0 (25 * (k + 1)) 25)) 56 k 1, ?_, ?_, ?_⟩
    · rw [if_pos g, rd_id (by omega) (by omega) (by omega), Option.bind_some, Int.toNat_natCast, wr_F i1]
      have e : ∀ s : Int, f_X5_keep_25 (k : Int) s M = some (s, st (cpS M (28 + 5 * k) 3) 26 k 1) := fun s => by
        unfold f_X5_keep_25
        rw [rx_id rfl hk (by decide), Option.bind_some, show k * 5 + 28 = 28 + 5 * k by omega, copy_c (by omega), Option.bind_some, wt_id (by omega) (by omega) (by omega), Option.bind_some, Int.toNat_natCast]
      rw [e, e]
      rcases i1 with q | q <;> rw [q] <;> rfl
    · rw [wr_rg hx, in_r hx (rgl 0) (rgl 1), Option.bind_some, if_pos g, if_neg w1n0, show (25 * ((k : Int) + 1)) = ((25 * (k + 1) : Nat) : Int) by omega, copies0 (by omega) (by omega), Option.bind_some, rd_id (by omega) (by omega) (by omega), Option.bind_some, sr_ne _ _ (by decide), X1 56 (by decide) (by omega), X1 47 (by decide) (by omega), Int.toNat_natCast, i2, wr_F i1]
      unfold f_X6_keep_37
      rw [wt_id (by omega) (by omega) (by omega), Option.bind_some, Option.bind_some, Int.toNat_natCast]
      rcases i1 with q | q <;> rw [q] <;> rfl
    · have Y : ∀ a, a ≠ 26 → a ≠ 47 → a ≠ 56 → (a < 28 + 5 * k ∨ 28 + 5 * k + 4 < a) → st (sr (st (cpS M (28 + 5 * k) 3) 26 k 1) 47 (cr (M 47) 0 (25 * (k + 1)) 25)) 56 k 1 a = M a := fun a h1 h2 h3 h4 => by rw [st_ne _ _ _ h3, sr_ne _ _ h2, X1 a h1 h4]
      have Y47 : st (sr (st (cpS M (28 + 5 * k) 3) 26 k 1) 47 (cr (M 47) 0 (25 * (k + 1)) 25)) 56 k 1 47 = cr (M 47) 0 (25 * (k + 1)) 25 := by rw [st_ne _ _ _ (by decide), sr_same]
      have Yj : ∀ a, 28 ≤ a → a ≤ 37 → st (sr (st (cpS M (28 + 5 * k) 3) 26 k 1) 47 (cr (M 47) 0 (25 * (k + 1)) 25)) 56 k 1 a = cpS M (28 + 5 * k) 3 a := fun a h1 h2 => by rw [st_ne _ _ _ (by omega), sr_ne _ _ (by omega), st_ne _ _ _ (by omega)]
      have Y26 : ∀ i, st (sr (st (cpS M (28 + 5 * k) 3) 26 k 1) 47 (cr (M 47) 0 (25 * (k + 1)) 25)) 56 k 1 26 i = if i = k then 1 else M 26 i := fun i => by rw [st_ne _ _ _ (by decide), sr_ne _ _ (by decide), st_at, cpS_o (by omega)]; simp
      have Y56 : ∀ i, st (sr (st (cpS M (28 + 5 * k) 3) 26 k 1) 47 (cr (M 47) 0 (25 * (k + 1)) 25)) 56 k 1 56 i = if i = k then 1 else M 56 i := fun i => by rw [st_at, sr_ne _ _ (by decide), X1 56 (by decide) (by omega)]; simp
      generalize st (sr (st (cpS M (28 + 5 * k) 3) 26 k 1) 47 (cr (M 47) 0 (25 * (k + 1)) 25)) 56 k 1 = Z at Y Y47 Yj Y26 Y56 ⊢
      have Y3 := Y 3 (by decide) (by decide) (by decide) (by omega)
      have Y6 := Y 6 (by decide) (by decide) (by decide) (by omega)
      have Y46 := Y 46 (by decide) (by decide) (by decide) (by omega)
      refine ⟨?_, ?_, ?_, ?_, ?_, ?_⟩
      · exact RelA_k gA (fun a ha => Y a (by omega) (by omega) (by omega) (by omega)) (fun i hi => by rw [Y47, cr_o (by omega)]) (by rw [Y46]) (by rw [Y46])
      · exact RelT_k gT (by rw [Y 1 (by decide) (by decide) (by decide) (by omega)]) (by rw [Y 1 (by decide) (by decide) (by decide) (by omega)]) (by rw [Y46]) (by rw [Y46]) (Y 2 (by decide) (by decide) (by decide) (by omega)) (Y 51 (by decide) (by decide) (by decide) (by omega))
      · exact RelK_k gK (Y 22 (by decide) (by decide) (by decide) (by omega)) (Y 23 (by decide) (by decide) (by decide) (by omega)) (Y 24 (by decide) (by decide) (by decide) (by omega)) (Y 55 (by decide) (by decide) (by decide) (by omega)) (by rw [Y46])
      · intro i hi
        rw [Y26, Y56]
        by_cases e : i = k
        · subst e
          rw [if_pos rfl, if_pos rfl]
          refine ⟨Or.inr rfl, rfl, fun _ => ⟨?_, ?_⟩⟩
          · exact CtOk_cp (q := 3) hL gA.2.2.2.2.2.1 (fun a h1 h2 => by rw [Yj _ (by omega) (by omega), cpS_s _ _ _ _ ⟨h1, h2⟩]) (fun a b h1 h2 h3 => by rw [Yj _ (by omega) (by omega), cpS_a ⟨h1, h2⟩ h3]) (by rw [Y3]) (by rw [Y3]) (fun r _ => by rw [Y6])
          · exact CPg_cp (q := 3) (p := 0) hL gA.2.2.2.2.2.2 (fun a h1 h2 => by rw [Yj _ (by omega) (by omega), cpS_s _ _ _ _ ⟨h1, h2⟩]) (fun a b h1 h2 h3 => by rw [Yj _ (by omega) (by omega), cpS_a ⟨h1, h2⟩ h3]) (by rw [Y3]) (by rw [Y3]) (fun a ha => by rw [Y47, cr_in ha])
        · rw [if_neg e, if_neg e]
          obtain ⟨j1, j2, j3⟩ := gI i hi
          refine ⟨j1, j2, fun q => ⟨?_, ?_⟩⟩
          · exact CtOk_cp (q := 28 + 5 * i) hL (j3 q).1 (fun a h1 h2 => by rw [Yj _ (by omega) (by omega), cpS_o (by omega)]) (fun a b h1 h2 h3 => by rw [Yj _ (by omega) (by omega), cpS_o (by omega)]) (by rw [Y3]) (by rw [Y3]) (fun r _ => by rw [Y6])
          · exact CPg_cp (q := 28 + 5 * i) (p := 25 * (i + 1)) hL (j3 q).2 (fun a h1 h2 => by rw [Yj _ (by omega) (by omega), cpS_o (by omega)]) (fun a b h1 h2 h3 => by rw [Yj _ (by omega) (by omega), cpS_o (by omega)]) (by rw [Y3]) (by rw [Y3]) (fun a ha => by rw [Y47, cr_o (by omega)])
      · exact RelH_k gH (fun a ha => Y a (by omega) (by omega) (by omega) (by omega)) (by rw [Y 0 (by decide) (by decide) (by decide) (by omega)]) (by rw [Y46])
      · exact RelC_k gC (Y 52 (by decide) (by decide) (by decide) (by omega)) (Y 53 (by decide) (by decide) (by decide) (by omega))
  · rw [if_neg g]
    refine ⟨-1, M, M, rfl, ?_, h⟩
    rw [wr_rg hx, in_r hx (rgl 0) (rgl 1), Option.bind_some, if_neg g, if_pos wr_0]
theorem op_back {n : Nat} {M : Mem} {x : Int} (hn : 1000 ≤ n) (hx : rg x) (h : Rel M) : ∃ r M1 M2, f_X5_back x M = some (r, M1) ∧ f_X6_back n x M1 = some (r, M2) ∧ Rel M2 := by
  have hL : (M 3 4).toNat ≤ 4 ∧ (M 3 5).toNat ≤ 4 := by have := h.1.1; have := h.1.2.1; omega
  have h0 := h
  obtain ⟨gA, gT, gK, gI, gH, gC⟩ := h0
  unfold f_X5_back f_X6_back
  rw [within_c hx (rgl 0) (rgl 1), Option.bind_some, ifbi]
  by_cases g : 0 ≤ x ∧ x ≤ 1
  · obtain ⟨k, rfl⟩ : ∃ k : Nat, x = (k : Int) := ⟨x.toNat, by omega⟩
    have hk : k < 2 := by omega
    obtain ⟨i1, i2, i3⟩ := gI k hk
    rw [if_pos g, rd_id (by omega) (by omega) (by omega), Option.bind_some, Int.toNat_natCast, wr_F i1]
    by_cases q : M 26 k = 0
    · refine ⟨-2, M, M, by rw [if_pos q], ?_, h⟩
      rw [wr_rg hx, in_r hx (rgl 0) (rgl 1), Option.bind_some, if_pos g, if_neg w1n0, rd_id (by omega) (by omega) (by omega), Option.bind_some, Int.toNat_natCast, i2, wr_F i1, if_pos q]
    · have q1 : M 26 k = 1 := by rcases i1 with e | e; exact absurd e q; exact e
      obtain ⟨ct, cp⟩ := i3 q1
      have X1 : ∀ a, a < 3 ∨ 7 < a → cpS M 3 (28 + 5 * k) a = M a := fun a ha => cpS_o (by omega)
      have e15 : cr (M 47) (25 * (k + 1)) 0 25 21 = M (28 + 5 * k) 15 := by
        have e := cr_in (r := M 47) (a := 25 * (k + 1)) (b := 0) (k := 21) (by decide)
        rw [Nat.zero_add] at e
        rw [e, ← cp.1 15 (by decide) (by decide), vw_15]
      refine ⟨M (28 + 5 * k) 15, cpS M 3 (28 + 5 * k), sr (cpS M 3 (28 + 5 * k)) 47 (cr (M 47) (25 * (k + 1)) 0 25), ?_, ?_, ?_⟩
      · rw [if_neg q, rx_id rfl hk (by decide), Option.bind_some, show k * 5 + 28 = 28 + 5 * k by omega, copy_c (by omega), Option.bind_some, cpS_s _ _ _ _ (by decide)]
      · have hc := copies_r (n := n) (a := 25 * (k + 1)) (b := 0) (M := cpS M 3 (28 + 5 * k)) (by omega) (by omega) (by decide) (by omega)
        rw [X1 47 (by decide)] at hc
        rw [wr_rg hx, in_r hx (rgl 0) (rgl 1), Option.bind_some, if_pos g, if_neg w1n0, rd_id (by omega) (by omega) (by omega), Option.bind_some, Int.toNat_natCast, X1 56 (by decide), i2, wr_F i1, if_neg q, show (25 * ((k : Int) + 1)) = ((25 * (k + 1) : Nat) : Int) by omega, show (0 : Int) = ((0 : Nat) : Int) from rfl, hc, Option.bind_some, sr_same, e15]
      · have Y : ∀ a, a ≠ 47 → (a < 3 ∨ 7 < a) → sr (cpS M 3 (28 + 5 * k)) 47 (cr (M 47) (25 * (k + 1)) 0 25) a = M a := fun a h1 h2 => by rw [sr_ne _ _ h1, X1 a h2]
        have Y47 : sr (cpS M 3 (28 + 5 * k)) 47 (cr (M 47) (25 * (k + 1)) 0 25) 47 = cr (M 47) (25 * (k + 1)) 0 25 := sr_same _ _ _
        have Yj : ∀ a, 3 ≤ a → a ≤ 7 → sr (cpS M 3 (28 + 5 * k)) 47 (cr (M 47) (25 * (k + 1)) 0 25) a = cpS M 3 (28 + 5 * k) a := fun a h1 h2 => sr_ne _ _ (by omega)
        generalize sr (cpS M 3 (28 + 5 * k)) 47 (cr (M 47) (25 * (k + 1)) 0 25) = Z at Y Y47 Yj ⊢
        have Y4 : Z 3 4 = M 3 4 := by rw [Yj 3 (by decide) (by decide), cpS_s _ _ _ _ (by decide)]; exact ct.2.2.2.1
        have Y5 : Z 3 5 = M 3 5 := by rw [Yj 3 (by decide) (by decide), cpS_s _ _ _ _ (by decide)]; exact ct.2.2.2.2.1
        have Y6 : ∀ r, r < (M 3 5).toNat → Z 6 r = M 6 r := fun r hr => by rw [Yj 6 (by decide) (by decide), cpS_a (j := 3) (i := 3) (by decide) (by omega)]; exact (ct.2.2.2.2.2.2 r hr).2
        have Y46 := Y 46 (by decide) (by decide)
        obtain ⟨b1, b2, b3, b4, b5, b6, b7⟩ := gA
        refine ⟨⟨by rw [Y4]; exact b1, by rw [Y5]; exact b2, by rw [Y46, Y4]; exact b3, by rw [Y46, Y5]; exact b4, fun r hr => ?_, ?_, ?_⟩, ?_, ?_, ?_, ?_, ?_⟩
        · rw [Y5] at hr
          rw [Y 48 (by decide) (by decide), Y6 r hr]; exact b5 r hr
        · exact CtOk_cp (q := 28 + 5 * k) hL ct (fun a h1 h2 => by rw [Yj _ (by omega) (by omega), cpS_s _ _ _ _ ⟨h1, h2⟩]) (fun a b h1 h2 h3 => by rw [Yj _ (by omega) (by omega), cpS_a ⟨h1, h2⟩ h3]) Y4 Y5 Y6
        · exact CPg_cp (q := 28 + 5 * k) (p := 25 * (k + 1)) hL cp (fun a h1 h2 => by rw [Yj _ (by omega) (by omega), cpS_s _ _ _ _ ⟨h1, h2⟩]) (fun a b h1 h2 h3 => by rw [Yj _ (by omega) (by omega), cpS_a ⟨h1, h2⟩ h3]) Y4 Y5 (fun a ha => by rw [Y47, cr_in ha])
        · exact RelT_k gT (by rw [Y 1 (by decide) (by decide)]) (by rw [Y 1 (by decide) (by decide)]) (by rw [Y46]) (by rw [Y46]) (Y 2 (by decide) (by decide)) (Y 51 (by decide) (by decide))
        · exact RelK_k gK (Y 22 (by decide) (by decide)) (Y 23 (by decide) (by decide)) (Y 24 (by decide) (by decide)) (Y 55 (by decide) (by decide)) (by rw [Y46])
        · intro i hi
          obtain ⟨j1, j2, j3⟩ := gI i hi
          rw [Y 26 (by decide) (by decide), Y 56 (by decide) (by decide)]
          refine ⟨j1, j2, fun q => ⟨?_, ?_⟩⟩
          · exact CtOk_cp (q := 28 + 5 * i) hL (j3 q).1 (fun a h1 h2 => by rw [Y _ (by omega) (by omega)]) (fun a b h1 h2 h3 => by rw [Y _ (by omega) (by omega)]) Y4 Y5 Y6
          · exact CPg_cp (q := 28 + 5 * i) (p := 25 * (i + 1)) hL (j3 q).2 (fun a h1 h2 => by rw [Y _ (by omega) (by omega)]) (fun a b h1 h2 h3 => by rw [Y _ (by omega) (by omega)]) Y4 Y5 (fun a ha => by rw [Y47, cr_o (by omega)])
        · exact RelH_k gH (fun a ha => Y a (by omega) (by omega)) (by rw [Y 0 (by decide) (by decide)]) (by rw [Y46])
        · exact RelC_k gC (Y 52 (by decide) (by decide)) (Y 53 (by decide) (by decide))
  · rw [if_neg g]
    refine ⟨-1, M, M, rfl, ?_, h⟩
    rw [wr_rg hx, in_r hx (rgl 0) (rgl 1), Option.bind_some, if_neg g, if_pos wr_0]
