abbrev mX1_plan : MI := (yX1_plan, cX1_plan, 3, none)
theorem okX1_plan : OKV mX1_plan 2 := ⟨gw_705, gw_19, gw_61, gw_706, (by decide +kernel), (by decide)⟩
def f_X1_plan (q1 : Nat) (x2 : Int) (M : Mem) : Option (Mem) :=
  (some (st M 13 2 (q1 : Int))).bind fun M1 =>
  (some (st M1 13 3 (mnn x2 (8 - (M1 q1 15))))).bind fun M2 =>
  some M2
set_option maxRecDepth 10000 in
theorem v_X1_plan_0 {E : En} {d : Nat} {Q : Po} {q1 : Nat} {x2 : Int} {M : Mem} {z : Mem} (hq1 : isX2 q1) (hd : 1 ≤ d) (hF : f_X1_plan q1 x2 M = some z) (hK : Q none z) : V E mX1_plan d 0 [(0, rf E 13), (1, rf E q1), (2, vi x2)] [] M Q := by
  unfold f_X1_plan at hF
  refine V.aload_n 0 0 0 rfl dX1_plan_0 rfl ?_
  refine V.aload_n 1 1 1 rfl dX1_plan_1 rfl ?_
  replace hF := Option.bind_eq_some_iff.mp hF
  obtain ⟨M1, hM1, hF⟩ := hF
  refine V.put (x := (q1 : Int)) (ty := .object "FatLean$Court") (Option.some.inj hM1) (by decide) (hcX1 E) rfl inX1 tyX1 tyX1_ok nmX1 (by decide) rfl (by decide +kernel) rfl rfl (Nat.le_of_ble_eq_true rfl) (by rw [show Value.ref (eA E q1) = dr E (q1 : Int) from (dr_of hq1).symm]; rfl) gw_233 dX1_plan_2 ?_
  refine V.aload_n 0 0 0 rfl dX1_plan_5 rfl ?_
  refine V.iload_n 2 2 2 rfl dX1_plan_6 rfl ?_
  refine V.bipush 8 8 (by decide) dX1_plan_7 ?_
  refine V.aload_n 1 1 1 rfl dX1_plan_9 rfl ?_
  refine V.get (ltX2 hq1) (hcX2 hq1 E _) rfl inX2 15 (by decide) rfl gw_176 dX1_plan_10 ?_
  refine V.isub dX1_plan_13 ?_
  refine V.rmin gw_707 (Nat.le_of_ble_eq_true rfl) (by omega) dX1_plan_14 ?_
  replace hF := Option.bind_eq_some_iff.mp hF
  obtain ⟨M2, hM2, hF⟩ := hF
  refine V.put (x := mnn x2 (8 - (M1 q1 15))) (ty := .int) (Option.some.inj hM2) (by decide) (hcX1 E) rfl inX1 tyX1 tyX1_ok nmX1 (by decide) rfl (by decide +kernel) rfl rfl (Nat.le_of_ble_eq_true rfl) rfl gw_234 dX1_plan_17 ?_
  cases Option.some.inj hF
  exact V.vret rfl dX1_plan_20 hK
theorem c_X1_plan {E : En} {d : Nat} {q1 : Nat} {x2 : Int} {M : Mem} {z : Mem} (hq1 : isX2 q1) (hd : 1 ≤ d) (hF : f_X1_plan q1 x2 M = some z) : Cn E mX1_plan d [rf E 13, rf E q1, vi x2] M (fun v N => v = none ∧ z = N) := by
  refine V.entry (by decide +kernel) (Nat.le_of_ble_eq_true rfl) ?_
  exact v_X1_plan_0 hq1 hd hF ⟨rfl, rfl⟩
abbrev mX1_gain : MI := (yX1_gain, cX1_gain, 4, (some .int))
theorem okX1_gain : OKV mX1_gain 3 := ⟨gw_728, gw_22, gw_61, gw_729, (by decide +kernel), (by decide)⟩
def f_X1_gain (x1 : Int) (x2 : Int) (x3 : Int) (M : Mem) : Option (Int) :=
  (rx 15 1 6 x1).bind fun c1 =>
  (ckX2 (M 13 2)).bind fun c2 =>
  (f_X2_unrotten c2 x3 M).bind fun v3 =>
  (rd M c1 41 v3).bind fun v4 =>
  some (v4 - (x2 * x3))
set_option maxRecDepth 10000 in
theorem v_X1_gain_0 {E : En} {d : Nat} {Q : Po} {x1 : Int} {x2 : Int} {x3 : Int} {M : Mem} {z : Int}  (hd : 2 ≤ d) (hF : f_X1_gain x1 x2 x3 M = some z) (hK : Q (some (vi z)) M) : V E mX1_gain d 0 [(0, rf E 13), (1, vi x1), (2, vi x2), (3, vi x3)] [] M Q := by
  unfold f_X1_gain at hF
  refine V.aload_n 0 0 0 rfl dX1_gain_0 rfl ?_
  refine V.get (by decide) (hcX1 E _) rfl inX1 0 (by decide) rfl gw_231 dX1_gain_1 ?_
  refine V.iload_n 1 1 1 rfl dX1_gain_4 rfl ?_
  replace hF := Option.bind_eq_some_iff.mp hF
  obtain ⟨c1, hc1, hF⟩ := hF
  refine V.aaldA (j := c1) ar_14 (rx_some hc1).1 (by rw [(rx_some hc1).2]; simp) dX1_gain_5 ?_
  refine V.aload_n 0 0 0 rfl dX1_gain_6 rfl ?_
  replace hF := Option.bind_eq_some_iff.mp hF
  obtain ⟨c2, hc2, hF⟩ := hF
  refine V.getD hc2 (by decide) (hcX1 E _) rfl inX1 2 (by decide) rfl gw_233 dX1_gain_7 ?_
  refine V.iload_n 3 3 3 rfl dX1_gain_10 rfl ?_
  replace hF := Option.bind_eq_some_iff.mp hF
  obtain ⟨v3, hv3, hF⟩ := hF
  refine V.callV (d' := d - 1) [vi x3] [rf E c1] (c_X2_unrotten (ck_is hc2) (by omega) hv3) okX2_unrotten gw_730 rfl rfl (ltX2 (ck_is hc2)) (hcX2 (ck_is hc2) E _) rfl (Nat.le_of_ble_eq_true rfl) (by omega) dX1_gain_11 ?_
  rintro _ _ ⟨rfl, rfl⟩
  show V E mX1_gain d 14 [(0, rf E 13), (1, vi x1), (2, vi x2), (3, vi x3)] [vi v3, rf E c1] M _
  replace hF := Option.bind_eq_some_iff.mp hF
  obtain ⟨v4, hv4, hF⟩ := hF
  refine V.iald (rx_k5 hc1) hv4 dX1_gain_14 ?_
  refine V.iload_n 2 2 2 rfl dX1_gain_15 rfl ?_
  refine V.iload_n 3 3 3 rfl dX1_gain_16 rfl ?_
  refine V.imul dX1_gain_17 ?_
  refine V.isub dX1_gain_18 ?_
  cases Option.some.inj hF
  exact V.iret rfl dX1_gain_19 hK
theorem c_X1_gain {E : En} {d : Nat} {x1 : Int} {x2 : Int} {x3 : Int} {M : Mem} {z : Int}  (hd : 2 ≤ d) (hF : f_X1_gain x1 x2 x3 M = some z) : Cn E mX1_gain d [rf E 13, vi x1, vi x2, vi x3] M (fun v N => v = some (vi z) ∧ M = N) := by
  refine V.entry (by decide +kernel) (Nat.le_of_ble_eq_true rfl) ?_
  exact v_X1_gain_0  hd hF ⟨rfl, rfl⟩
abbrev mX1_choose : MI := (yX1_choose, cX1_choose, 7, none)
theorem okX1_choose : OKV mX1_choose 2 := ⟨gw_724, gw_21, gw_61, gw_725, (by decide +kernel), (by decide)⟩
def f_X1_choose_50 (n : Nat) (x1 : Int) (x2 : Int) (x3 : Int) (x4 : Int) (x5 : Int) (M : Mem) : Option ((Int × Int × Int × Mem) ⊕ (Mem)) :=
  (wt M 21 41 x5 x3).bind fun M1 =>
  some (.inl (x3, x4, x5 + 1, M1))
set_option maxRecDepth 10000 in
theorem v_X1_choose_50 {E : En} {d : Nat} {Q : Po} {n : Nat} {x1 : Int} {x2 : Int} {x3 : Int} {x4 : Int} {x5 : Int} {M : Mem} {z : (Int × Int × Int × Mem) ⊕ (Mem)}  (hd : 3 ≤ d) (hF : f_X1_choose_50 n x1 x2 x3 x4 x5 M = some z) (hC0 : ∀ s' : Int × Int × Int × Mem, z = (.inl s') → V E mX1_choose d 14 [(0, rf E 13), (1, vi x1), (2, vi x2), (3, vi (s'.1)), (4, vi (s'.2.1)), (5, vi (s'.2.2.1))] [] s'.2.2.2 Q) (hX : ∀ z0 : Mem, z = (.inr z0) → Q none z0) : V E mX1_choose d 50 [(0, rf E 13), (1, vi x1), (2, vi x2), (3, vi x3), (4, vi x4), (5, vi x5)] [] M Q := by
  unfold f_X1_choose_50 at hF
  refine V.aload_n 0 0 0 rfl dX1_choose_50 rfl ?_
  refine V.get (by decide) (hcX1 E _) rfl inX1 1 (by decide) rfl gw_232 dX1_choose_51 ?_
  refine V.iload 5 5 dX1_choose_54 rfl ?_
  refine V.iload_n 3 3 3 rfl dX1_choose_56 rfl ?_
  replace hF := Option.bind_eq_some_iff.mp hF
  obtain ⟨M1, hM1, hF⟩ := hF
  refine V.iast ar_21 hM1 dX1_choose_57 ?_
  refine V.iinc 5 5 1 [(5, vi (x5 + 1)), (0, rf E 13), (1, vi x1), (2, vi x2), (3, vi x3), (4, vi x4)] dX1_choose_58 rfl (by decide) rfl ?_
  refine V.goto (tgt := 14) dX1_choose_61 (by decide) ?_
  cases Option.some.inj hF
  refine V.sub _ [1, 2, 3, 4, 5, 0] rfl ?_
  exact hC0 _ rfl
def f_X1_choose_14 (n : Nat) (x1 : Int) (x2 : Int) (x3 : Int) (x4 : Int) (x5 : Int) (M : Mem) : Option ((Int × Int × Int × Mem) ⊕ (Mem)) :=
  (ckX2 (M 13 2)).bind fun c1 =>
  if wr (M c1 8) < wr x5 then
    some (.inr M)
  else
    (f_X1_gain x1 x2 x5 M).bind fun v2 =>
    if wr v2 ≤ wr x4 then
      f_X1_choose_50 n x1 x2 x3 x4 x5 M
    else
      f_X1_choose_50 n x1 x2 x5 v2 x5 M
set_option maxRecDepth 10000 in
theorem v_X1_choose_14 {E : En} {d : Nat} {Q : Po} {n : Nat} {x1 : Int} {x2 : Int} {x3 : Int} {x4 : Int} {x5 : Int} {M : Mem} {z : (Int × Int × Int × Mem) ⊕ (Mem)}  (hd : 3 ≤ d) (hF : f_X1_choose_14 n x1 x2 x3 x4 x5 M = some z) (hC0 : ∀ s' : Int × Int × Int × Mem, z = (.inl s') → V E mX1_choose d 14 [(0, rf E 13), (1, vi x1), (2, vi x2), (3, vi (s'.1)), (4, vi (s'.2.1)), (5, vi (s'.2.2.1))] [] s'.2.2.2 Q) (hX : ∀ z0 : Mem, z = (.inr z0) → Q none z0) : V E mX1_choose d 14 [(0, rf E 13), (1, vi x1), (2, vi x2), (3, vi x3), (4, vi x4), (5, vi x5)] [] M Q := by
  unfold f_X1_choose_14 at hF
  refine V.iload 5 5 dX1_choose_14 rfl ?_
  refine V.aload_n 0 0 0 rfl dX1_choose_16 rfl ?_
  replace hF := Option.bind_eq_some_iff.mp hF
  obtain ⟨c1, hc1, hF⟩ := hF
  refine V.getD hc1 (by decide) (hcX1 E _) rfl inX1 2 (by decide) rfl gw_233 dX1_choose_17 ?_
  refine V.get (ltX2 (ck_is hc1)) (hcX2 (ck_is hc1) E _) rfl inX2 8 (by decide) rfl gw_155 dX1_choose_20 ?_
  refine V.icmp_gt (tgt := 64) rfl rfl dX1_choose_23 (by decide) (fun hc => ?_) (fun hc => ?_)
  · rw [if_pos hc] at hF
    cases Option.some.inj hF
    exact V.vret rfl dX1_choose_64 (hX _ rfl)
  · rw [if_neg hc] at hF
    refine V.aload_n 0 0 0 rfl dX1_choose_26 rfl ?_
    refine V.iload_n 1 1 1 rfl dX1_choose_27 rfl ?_
    refine V.iload_n 2 2 2 rfl dX1_choose_28 rfl ?_
    refine V.iload 5 5 dX1_choose_29 rfl ?_
    replace hF := Option.bind_eq_some_iff.mp hF
    obtain ⟨v2, hv2, hF⟩ := hF
    refine V.callV (d' := d - 1) [vi x1, vi x2, vi x5] [] (c_X1_gain (by omega) hv2) okX1_gain gw_726 rfl rfl (by decide) (hcX1 E _) rfl (Nat.le_of_ble_eq_true rfl) (by omega) dX1_choose_31 ?_
    rintro _ _ ⟨rfl, rfl⟩
    show V E mX1_choose d 34 [(0, rf E 13), (1, vi x1), (2, vi x2), (3, vi x3), (4, vi x4), (5, vi x5)] [vi v2] M _
    refine V.istore 6 [(6, vi v2), (0, rf E 13), (1, vi x1), (2, vi x2), (3, vi x3), (4, vi x4), (5, vi x5)] dX1_choose_34 (by decide) rfl ?_
    refine V.iload 6 0 dX1_choose_36 rfl ?_
    refine V.iload 4 5 dX1_choose_38 rfl ?_
    refine V.icmp_le (tgt := 50) rfl rfl dX1_choose_40 (by decide) (fun hc => ?_) (fun hc => ?_)
    · rw [if_pos hc] at hF
      refine V.sub _ [1, 2, 3, 4, 5, 6] rfl ?_
      exact v_X1_choose_50 hd hF hC0 hX
    · rw [if_neg hc] at hF
      refine V.iload 5 6 dX1_choose_43 rfl ?_
      refine V.istore_n 3 3 [(3, vi x5), (6, vi v2), (0, rf E 13), (1, vi x1), (2, vi x2), (4, vi x4), (5, vi x5)] rfl dX1_choose_45 (by decide) rfl ?_
      refine V.iload 6 1 dX1_choose_46 rfl ?_
      refine V.istore 4 [(4, vi v2), (3, vi x5), (6, vi v2), (0, rf E 13), (1, vi x1), (2, vi x2), (5, vi x5)] dX1_choose_48 (by decide) rfl ?_
      refine V.sub _ [3, 4, 5, 1, 0, 6] rfl ?_
      exact v_X1_choose_50 hd hF hC0 hX
theorem l_X1_choose_14 {E : En} {d : Nat} {Q : Po} {n : Nat} {x1 : Int} {x2 : Int} {k : Nat} {s : Int × Int × Int × Mem} {z : Mem}  (hd : 3 ≤ d) (hF : lp (fun s => f_X1_choose_14 n x1 x2 s.1 s.2.1 s.2.2.1 s.2.2.2) k s = some z) (hK : Q none z) : V E mX1_choose d 14 [(0, rf E 13), (1, vi x1), (2, vi x2), (3, vi s.1), (4, vi s.2.1), (5, vi s.2.2.1)] [] s.2.2.2 Q := by
  refine lp_ind (P := fun s => V E mX1_choose d 14 [(0, rf E 13), (1, vi x1), (2, vi x2), (3, vi s.1), (4, vi s.2.1), (5, vi s.2.2.1)] [] s.2.2.2 Q) (z0 := z) ?_ k s hF
  intro s z' hF hc hx
  exact v_X1_choose_14 hd hF (fun s' e => hc s' e) (fun z0 e => by rw [hx _ e]; exact hK)
def f_X1_choose (n : Nat) (x1 : Int) (x2 : Int) (M : Mem) : Option (Mem) :=
  (f_X1_gain x1 x2 0 M).bind fun v1 =>
  lp (fun s => f_X1_choose_14 n x1 x2 s.1 s.2.1 s.2.2.1 s.2.2.2) n (0, v1, 0, M)
set_option maxRecDepth 10000 in
theorem v_X1_choose_0 {E : En} {d : Nat} {Q : Po} {n : Nat} {x1 : Int} {x2 : Int} {M : Mem} {z : Mem}  (hd : 3 ≤ d) (hF : f_X1_choose n x1 x2 M = some z) (hK : Q none z) : V E mX1_choose d 0 [(0, rf E 13), (1, vi x1), (2, vi x2)] [] M Q := by
  unfold f_X1_choose at hF
  refine V.iconst 0 dX1_choose_0 ?_
  refine V.istore_n 3 3 [(3, vi 0), (0, rf E 13), (1, vi x1), (2, vi x2)] rfl dX1_choose_1 (by decide) rfl ?_
  refine V.aload_n 0 0 1 rfl dX1_choose_2 rfl ?_
  refine V.iload_n 1 1 2 rfl dX1_choose_3 rfl ?_
  refine V.iload_n 2 2 3 rfl dX1_choose_4 rfl ?_
  refine V.iconst 0 dX1_choose_5 ?_
  replace hF := Option.bind_eq_some_iff.mp hF
  obtain ⟨v1, hv1, hF⟩ := hF
  refine V.callV (d' := d - 1) [vi x1, vi x2, vi 0] [] (c_X1_gain (by omega) hv1) okX1_gain gw_726 rfl rfl (by decide) (hcX1 E _) rfl (Nat.le_of_ble_eq_true rfl) (by omega) dX1_choose_6 ?_
  rintro _ _ ⟨rfl, rfl⟩
  show V E mX1_choose d 9 [(3, vi 0), (0, rf E 13), (1, vi x1), (2, vi x2)] [vi v1] M _
  refine V.istore 4 [(4, vi v1), (3, vi 0), (0, rf E 13), (1, vi x1), (2, vi x2)] dX1_choose_9 (by decide) rfl ?_
  refine V.iconst 0 dX1_choose_11 ?_
  refine V.istore 5 [(5, vi 0), (4, vi v1), (3, vi 0), (0, rf E 13), (1, vi x1), (2, vi x2)] dX1_choose_12 (by decide) rfl ?_
  refine V.sub _ [3, 4, 5, 2, 1, 0] rfl ?_
  exact l_X1_choose_14 hd hF hK
theorem c_X1_choose {E : En} {d : Nat} {n : Nat} {x1 : Int} {x2 : Int} {M : Mem} {z : Mem}  (hd : 3 ≤ d) (hF : f_X1_choose n x1 x2 M = some z) : Cn E mX1_choose d [rf E 13, vi x1, vi x2] M (fun v N => v = none ∧ z = N) := by
  refine V.entry (by decide +kernel) (Nat.le_of_ble_eq_true rfl) ?_
  exact v_X1_choose_0  hd hF ⟨rfl, rfl⟩
abbrev mX1_addYear : MI := (yX1_addYear, cX1_addYear, 12, none)
theorem okX1_addYear : OKV mX1_addYear 3 := ⟨gw_717, gw_20, gw_61, gw_718, (by decide +kernel), (by decide)⟩
def f_X1_addYear_57 (n : Nat) (x1 : Int) (x5 : Int) (x6 : Int) (x7 : Int) (x8 : Int) (M : Mem) : Option ((Int × Mem) ⊕ (Mem)) :=
  (ckX2 (M 13 2)).bind fun c1 =>
  if wr (M c1 8) < wr x8 then
    some (.inr M)
  else
    (ckX2 (M 13 2)).bind fun c2 =>
    (f_X2_leftOf c2 (x8 + x7) M).bind fun v3 =>
    (ckX2 (M 13 2)).bind fun c4 =>
    (rd M 21 41 (mnn (M c4 8) v3)).bind fun v5 =>
    (ckX2 (M 13 2)).bind fun c6 =>
    (f_X2_hungryOf c6 (x8 + x7) M).bind fun v7 =>
    (rx 15 1 6 x1).bind fun c8 =>
    (rd M c8 41 x8).bind fun v9 =>
    (f_X1_gain (x1 + 1) x5 v5 M).bind fun v10 =>
    (wt M c8 41 x8 (v9 + (((x5 * v3) - (x6 * v7)) + v10))).bind fun M11 =>
    some (.inl (x8 + 1, M11))
set_option maxRecDepth 10000 in
theorem v_X1_addYear_57 {E : En} {d : Nat} {Q : Po} {n : Nat} {x1 : Int} {x5 : Int} {x6 : Int} {x7 : Int} {x8 : Int} {M : Mem} {z : (Int × Mem) ⊕ (Mem)}  (hd : 4 ≤ d) (hF : f_X1_addYear_57 n x1 x5 x6 x7 x8 M = some z) (hC0 : ∀ s' : Int × Mem, z = (.inl s') → V E mX1_addYear d 57 [(0, rf E 13), (1, vi x1), (5, vi x5), (6, vi x6), (7, vi x7), (8, vi (s'.1))] [] s'.2 Q) (hX : ∀ z0 : Mem, z = (.inr z0) → Q none z0) : V E mX1_addYear d 57 [(0, rf E 13), (1, vi x1), (5, vi x5), (6, vi x6), (7, vi x7), (8, vi x8)] [] M Q := by
  unfold f_X1_addYear_57 at hF
  refine V.iload 8 5 dX1_addYear_57 rfl ?_
  refine V.aload_n 0 0 0 rfl dX1_addYear_59 rfl ?_
  replace hF := Option.bind_eq_some_iff.mp hF
  obtain ⟨c1, hc1, hF⟩ := hF
  refine V.getD hc1 (by decide) (hcX1 E _) rfl inX1 2 (by decide) rfl gw_233 dX1_addYear_60 ?_
  refine V.get (ltX2 (ck_is hc1)) (hcX2 (ck_is hc1) E _) rfl inX2 8 (by decide) rfl gw_155 dX1_addYear_63 ?_
  refine V.icmp_gt (tgt := 157) rfl rfl dX1_addYear_66 (by decide) (fun hc => ?_) (fun hc => ?_)
  · rw [if_pos hc] at hF
    cases Option.some.inj hF
    exact V.vret rfl dX1_addYear_157 (hX _ rfl)
  · rw [if_neg hc] at hF
    refine V.aload_n 0 0 0 rfl dX1_addYear_69 rfl ?_
    replace hF := Option.bind_eq_some_iff.mp hF
    obtain ⟨c2, hc2, hF⟩ := hF
    refine V.getD hc2 (by decide) (hcX1 E _) rfl inX1 2 (by decide) rfl gw_233 dX1_addYear_70 ?_
    refine V.iload 8 5 dX1_addYear_73 rfl ?_
    refine V.iload 7 4 dX1_addYear_75 rfl ?_
    refine V.iadd dX1_addYear_77 ?_
    replace hF := Option.bind_eq_some_iff.mp hF
    obtain ⟨v3, hv3, hF⟩ := hF
    refine V.callV (d' := d - 1) [vi (x8 + x7)] [] (c_X2_leftOf (ck_is hc2) (by omega) hv3) okX2_leftOf gw_731 rfl rfl (ltX2 (ck_is hc2)) (hcX2 (ck_is hc2) E _) rfl (Nat.le_of_ble_eq_true rfl) (by omega) dX1_addYear_78 ?_
    rintro _ _ ⟨rfl, rfl⟩
    show V E mX1_addYear d 81 [(0, rf E 13), (1, vi x1), (5, vi x5), (6, vi x6), (7, vi x7), (8, vi x8)] [vi v3] M _
    refine V.istore 9 [(9, vi v3), (0, rf E 13), (1, vi x1), (5, vi x5), (6, vi x6), (7, vi x7), (8, vi x8)] dX1_addYear_81 (by decide) rfl ?_
    refine V.aload_n 0 0 1 rfl dX1_addYear_83 rfl ?_
    refine V.get (by decide) (hcX1 E _) rfl inX1 1 (by decide) rfl gw_232 dX1_addYear_84 ?_
    refine V.aload_n 0 0 1 rfl dX1_addYear_87 rfl ?_
    replace hF := Option.bind_eq_some_iff.mp hF
    obtain ⟨c4, hc4, hF⟩ := hF
    refine V.getD hc4 (by decide) (hcX1 E _) rfl inX1 2 (by decide) rfl gw_233 dX1_addYear_88 ?_
    refine V.get (ltX2 (ck_is hc4)) (hcX2 (ck_is hc4) E _) rfl inX2 8 (by decide) rfl gw_155 dX1_addYear_91 ?_
    refine V.iload 9 0 dX1_addYear_94 rfl ?_
    refine V.rmin gw_707 (Nat.le_of_ble_eq_true rfl) (by omega) dX1_addYear_96 ?_
    replace hF := Option.bind_eq_some_iff.mp hF
    obtain ⟨v5, hv5, hF⟩ := hF
    refine V.iald ar_21 hv5 dX1_addYear_99 ?_
    refine V.istore 10 [(10, vi v5), (9, vi v3), (0, rf E 13), (1, vi x1), (5, vi x5), (6, vi x6), (7, vi x7), (8, vi x8)] dX1_addYear_100 (by decide) rfl ?_
    refine V.iload 5 4 dX1_addYear_102 rfl ?_
    refine V.iload 9 1 dX1_addYear_104 rfl ?_
    refine V.imul dX1_addYear_106 ?_
    refine V.iload 6 5 dX1_addYear_107 rfl ?_
    refine V.aload_n 0 0 2 rfl dX1_addYear_109 rfl ?_
    replace hF := Option.bind_eq_some_iff.mp hF
    obtain ⟨c6, hc6, hF⟩ := hF
    refine V.getD hc6 (by decide) (hcX1 E _) rfl inX1 2 (by decide) rfl gw_233 dX1_addYear_110 ?_
    refine V.iload 8 7 dX1_addYear_113 rfl ?_
    refine V.iload 7 6 dX1_addYear_115 rfl ?_
    refine V.iadd dX1_addYear_117 ?_
    replace hF := Option.bind_eq_some_iff.mp hF
    obtain ⟨v7, hv7, hF⟩ := hF
    refine V.callV (d' := d - 1) [vi (x8 + x7)] [vi x6, vi (x5 * v3)] (c_X2_hungryOf (ck_is hc6) (by omega) hv7) okX2_hungryOf gw_732 rfl rfl (ltX2 (ck_is hc6)) (hcX2 (ck_is hc6) E _) rfl (Nat.le_of_ble_eq_true rfl) (by omega) dX1_addYear_118 ?_
    rintro _ _ ⟨rfl, rfl⟩
    show V E mX1_addYear d 121 [(10, vi v5), (9, vi v3), (0, rf E 13), (1, vi x1), (5, vi x5), (6, vi x6), (7, vi x7), (8, vi x8)] [vi v7, vi x6, vi (x5 * v3)] M _
    refine V.imul dX1_addYear_121 ?_
    refine V.isub dX1_addYear_122 ?_
    refine V.istore 11 [(11, vi ((x5 * v3) - (x6 * v7))), (10, vi v5), (9, vi v3), (0, rf E 13), (1, vi x1), (5, vi x5), (6, vi x6), (7, vi x7), (8, vi x8)] dX1_addYear_123 (by decide) rfl ?_
    refine V.aload_n 0 0 3 rfl dX1_addYear_125 rfl ?_
    refine V.get (by decide) (hcX1 E _) rfl inX1 0 (by decide) rfl gw_231 dX1_addYear_126 ?_
    refine V.iload_n 1 1 4 rfl dX1_addYear_129 rfl ?_
    replace hF := Option.bind_eq_some_iff.mp hF
    obtain ⟨c8, hc8, hF⟩ := hF
    refine V.aaldA (j := c8) ar_14 (rx_some hc8).1 (by rw [(rx_some hc8).2]; simp) dX1_addYear_130 ?_
    refine V.iload 8 8 dX1_addYear_131 rfl ?_
    refine V.dup2 rfl rfl dX1_addYear_133 ?_
    replace hF := Option.bind_eq_some_iff.mp hF
    obtain ⟨v9, hv9, hF⟩ := hF
    refine V.iald (rx_k5 hc8) hv9 dX1_addYear_134 ?_
    refine V.iload 11 0 dX1_addYear_135 rfl ?_
    refine V.aload_n 0 0 3 rfl dX1_addYear_137 rfl ?_
    refine V.iload_n 1 1 4 rfl dX1_addYear_138 rfl ?_
    refine V.iconst 1 dX1_addYear_139 ?_
    refine V.iadd dX1_addYear_140 ?_
    refine V.iload 5 5 dX1_addYear_141 rfl ?_
    refine V.iload 10 1 dX1_addYear_143 rfl ?_
    replace hF := Option.bind_eq_some_iff.mp hF
    obtain ⟨v10, hv10, hF⟩ := hF
    refine V.callV (d' := d - 1) [vi (x1 + 1), vi x5, vi v5] [vi ((x5 * v3) - (x6 * v7)), vi v9, vi x8, rf E c8] (c_X1_gain (by omega) hv10) okX1_gain gw_726 rfl rfl (by decide) (hcX1 E _) rfl (Nat.le_of_ble_eq_true rfl) (by omega) dX1_addYear_145 ?_
    rintro _ _ ⟨rfl, rfl⟩
    show V E mX1_addYear d 148 [(11, vi ((x5 * v3) - (x6 * v7))), (10, vi v5), (9, vi v3), (0, rf E 13), (1, vi x1), (5, vi x5), (6, vi x6), (7, vi x7), (8, vi x8)] [vi v10, vi ((x5 * v3) - (x6 * v7)), vi v9, vi x8, rf E c8] M _
    refine V.iadd dX1_addYear_148 ?_
    refine V.iadd dX1_addYear_149 ?_
    replace hF := Option.bind_eq_some_iff.mp hF
    obtain ⟨M11, hM11, hF⟩ := hF
    refine V.iast (rx_k5 hc8) hM11 dX1_addYear_150 ?_
    refine V.iinc 8 8 1 [(8, vi (x8 + 1)), (11, vi ((x5 * v3) - (x6 * v7))), (10, vi v5), (9, vi v3), (0, rf E 13), (1, vi x1), (5, vi x5), (6, vi x6), (7, vi x7)] dX1_addYear_151 rfl (by decide) rfl ?_
    refine V.goto (tgt := 57) dX1_addYear_154 (by decide) ?_
    cases Option.some.inj hF
    refine V.sub _ [4, 5, 6, 7, 8, 0] rfl ?_
    exact hC0 _ rfl
theorem l_X1_addYear_57 {E : En} {d : Nat} {Q : Po} {n : Nat} {x1 : Int} {x5 : Int} {x6 : Int} {x7 : Int} {k : Nat} {s : Int × Mem} {z : Mem}  (hd : 4 ≤ d) (hF : lp (fun s => f_X1_addYear_57 n x1 x5 x6 x7 s.1 s.2) k s = some z) (hK : Q none z) : V E mX1_addYear d 57 [(0, rf E 13), (1, vi x1), (5, vi x5), (6, vi x6), (7, vi x7), (8, vi s.1)] [] s.2 Q := by
  refine lp_ind (P := fun s => V E mX1_addYear d 57 [(0, rf E 13), (1, vi x1), (5, vi x5), (6, vi x6), (7, vi x7), (8, vi s.1)] [] s.2 Q) (z0 := z) ?_ k s hF
  intro s z' hF hc hx
  exact v_X1_addYear_57 hd hF (fun s' e => hc s' e) (fun z0 e => by rw [hx _ e]; exact hK)
def f_X1_addYear (n : Nat) (x1 : Int) (x2 : Int) (x3 : Int) (M : Mem) : Option (Mem) :=
  (ckX2 (M 13 2)).bind fun c1 =>
  (f_X2_oddsOf n c1 x2 M).bind fun v2 =>
  (ckX2 (M 13 2)).bind fun c3 =>
  (f_X2_priceIn c3 x3 M).bind fun v4 =>
  (ckX2 (M 13 2)).bind fun c5 =>
  (ckX2 (M 13 2)).bind fun c6 =>
  (f_X2_harvest n c6 x3 M).bind fun v7 =>
  (f_X1_choose n (x1 + 1) (v2 * v4) M).bind fun M8 =>
  lp (fun s => f_X1_addYear_57 n x1 (v2 * v4) (v2 * (M c5 7)) v7 s.1 s.2) n (0, M8)
set_option maxRecDepth 10000 in
theorem v_X1_addYear_0 {E : En} {d : Nat} {Q : Po} {n : Nat} {x1 : Int} {x2 : Int} {x3 : Int} {M : Mem} {z : Mem}  (hd : 4 ≤ d) (hF : f_X1_addYear n x1 x2 x3 M = some z) (hK : Q none z) : V E mX1_addYear d 0 [(0, rf E 13), (1, vi x1), (2, vi x2), (3, vi x3)] [] M Q := by
  unfold f_X1_addYear at hF
  refine V.aload_n 0 0 0 rfl dX1_addYear_0 rfl ?_
  replace hF := Option.bind_eq_some_iff.mp hF
  obtain ⟨c1, hc1, hF⟩ := hF
  refine V.getD hc1 (by decide) (hcX1 E _) rfl inX1 2 (by decide) rfl gw_233 dX1_addYear_1 ?_
  refine V.iload_n 2 2 2 rfl dX1_addYear_4 rfl ?_
  replace hF := Option.bind_eq_some_iff.mp hF
  obtain ⟨v2, hv2, hF⟩ := hF
  refine V.callV (d' := d - 1) [vi x2] [] (c_X2_oddsOf (ck_is hc1) (by omega) hv2) okX2_oddsOf gw_719 rfl rfl (ltX2 (ck_is hc1)) (hcX2 (ck_is hc1) E _) rfl (Nat.le_of_ble_eq_true rfl) (by omega) dX1_addYear_5 ?_
  rintro _ _ ⟨rfl, rfl⟩
  show V E mX1_addYear d 8 [(0, rf E 13), (1, vi x1), (2, vi x2), (3, vi x3)] [vi v2] M _
  refine V.istore 4 [(4, vi v2), (0, rf E 13), (1, vi x1), (2, vi x2), (3, vi x3)] dX1_addYear_8 (by decide) rfl ?_
  refine V.iload 4 0 dX1_addYear_10 rfl ?_
  refine V.aload_n 0 0 1 rfl dX1_addYear_12 rfl ?_
  replace hF := Option.bind_eq_some_iff.mp hF
  obtain ⟨c3, hc3, hF⟩ := hF
  refine V.getD hc3 (by decide) (hcX1 E _) rfl inX1 2 (by decide) rfl gw_233 dX1_addYear_13 ?_
  refine V.iload_n 3 3 4 rfl dX1_addYear_16 rfl ?_
  replace hF := Option.bind_eq_some_iff.mp hF
  obtain ⟨v4, hv4, hF⟩ := hF
  refine V.callV (d' := d - 1) [vi x3] [vi v2] (c_X2_priceIn (ck_is hc3) (by omega) hv4) okX2_priceIn gw_720 rfl rfl (ltX2 (ck_is hc3)) (hcX2 (ck_is hc3) E _) rfl (Nat.le_of_ble_eq_true rfl) (by omega) dX1_addYear_17 ?_
  rintro _ _ ⟨rfl, rfl⟩
  show V E mX1_addYear d 20 [(4, vi v2), (0, rf E 13), (1, vi x1), (2, vi x2), (3, vi x3)] [vi v4, vi v2] M _
  refine V.imul dX1_addYear_20 ?_
  refine V.istore 5 [(5, vi (v2 * v4)), (4, vi v2), (0, rf E 13), (1, vi x1), (2, vi x2), (3, vi x3)] dX1_addYear_21 (by decide) rfl ?_
  refine V.iload 4 1 dX1_addYear_23 rfl ?_
  refine V.aload_n 0 0 2 rfl dX1_addYear_25 rfl ?_
  replace hF := Option.bind_eq_some_iff.mp hF
  obtain ⟨c5, hc5, hF⟩ := hF
  refine V.getD hc5 (by decide) (hcX1 E _) rfl inX1 2 (by decide) rfl gw_233 dX1_addYear_26 ?_
  refine V.get (ltX2 (ck_is hc5)) (hcX2 (ck_is hc5) E _) rfl inX2 7 (by decide) rfl gw_151 dX1_addYear_29 ?_
  refine V.imul dX1_addYear_32 ?_
  refine V.istore 6 [(6, vi (v2 * (M c5 7))), (5, vi (v2 * v4)), (4, vi v2), (0, rf E 13), (1, vi x1), (2, vi x2), (3, vi x3)] dX1_addYear_33 (by decide) rfl ?_
  refine V.aload_n 0 0 3 rfl dX1_addYear_35 rfl ?_
  replace hF := Option.bind_eq_some_iff.mp hF
  obtain ⟨c6, hc6, hF⟩ := hF
  refine V.getD hc6 (by decide) (hcX1 E _) rfl inX1 2 (by decide) rfl gw_233 dX1_addYear_36 ?_
  refine V.iload_n 3 3 6 rfl dX1_addYear_39 rfl ?_
  replace hF := Option.bind_eq_some_iff.mp hF
  obtain ⟨v7, hv7, hF⟩ := hF
  refine V.callV (d' := d - 1) [vi x3] [] (c_X2_harvest (ck_is hc6) (by omega) hv7) okX2_harvest gw_721 rfl rfl (ltX2 (ck_is hc6)) (hcX2 (ck_is hc6) E _) rfl (Nat.le_of_ble_eq_true rfl) (by omega) dX1_addYear_40 ?_
  rintro _ _ ⟨rfl, rfl⟩
  show V E mX1_addYear d 43 [(6, vi (v2 * (M c5 7))), (5, vi (v2 * v4)), (4, vi v2), (0, rf E 13), (1, vi x1), (2, vi x2), (3, vi x3)] [vi v7] M _
  refine V.istore 7 [(7, vi v7), (6, vi (v2 * (M c5 7))), (5, vi (v2 * v4)), (4, vi v2), (0, rf E 13), (1, vi x1), (2, vi x2), (3, vi x3)] dX1_addYear_43 (by decide) rfl ?_
  refine V.aload_n 0 0 4 rfl dX1_addYear_45 rfl ?_
  refine V.iload_n 1 1 5 rfl dX1_addYear_46 rfl ?_
  refine V.iconst 1 dX1_addYear_47 ?_
  refine V.iadd dX1_addYear_48 ?_
  refine V.iload 5 2 dX1_addYear_49 rfl ?_
  replace hF := Option.bind_eq_some_iff.mp hF
  obtain ⟨M8, hM8, hF⟩ := hF
  refine V.callV (d' := d - 1) [vi (x1 + 1), vi (v2 * v4)] [] (c_X1_choose (by omega) hM8) okX1_choose gw_722 rfl rfl (by decide) (hcX1 E _) rfl (Nat.le_of_ble_eq_true rfl) (by omega) dX1_addYear_51 ?_
  rintro _ _ ⟨rfl, rfl⟩
  show V E mX1_addYear d 54 [(7, vi v7), (6, vi (v2 * (M c5 7))), (5, vi (v2 * v4)), (4, vi v2), (0, rf E 13), (1, vi x1), (2, vi x2), (3, vi x3)] [] M8 _
  refine V.iconst 0 dX1_addYear_54 ?_
  refine V.istore 8 [(8, vi 0), (7, vi v7), (6, vi (v2 * (M c5 7))), (5, vi (v2 * v4)), (4, vi v2), (0, rf E 13), (1, vi x1), (2, vi x2), (3, vi x3)] dX1_addYear_55 (by decide) rfl ?_
  refine V.sub _ [5, 6, 3, 2, 1, 0] rfl ?_
  exact l_X1_addYear_57 hd hF hK
theorem c_X1_addYear {E : En} {d : Nat} {n : Nat} {x1 : Int} {x2 : Int} {x3 : Int} {M : Mem} {z : Mem}  (hd : 4 ≤ d) (hF : f_X1_addYear n x1 x2 x3 M = some z) : Cn E mX1_addYear d [rf E 13, vi x1, vi x2, vi x3] M (fun v N => v = none ∧ z = N) := by
  refine V.entry (by decide +kernel) (Nat.le_of_ble_eq_true rfl) ?_
  exact v_X1_addYear_0  hd hF ⟨rfl, rfl⟩
abbrev mX1_sumFrom : MI := (yX1_sumFrom, cX1_sumFrom, 5, none)
theorem okX1_sumFrom : OKS mX1_sumFrom 3 := ⟨gw_709, gw_61, gw_710, (by decide +kernel), (by decide)⟩
def f_X1_sumFrom_74 (n : Nat) (g : Int → Int → Mem → Option Mem) (x1 : Int) (x2 : Int) (x3 : Int) (M : Mem) : Option ((Int × Mem) ⊕ (Mem)) :=
  some (.inl (x3 + 1, M))
set_option maxRecDepth 10000 in
theorem v_X1_sumFrom_74 {E : En} {d : Nat} {Q : Po} {n : Nat} {g : Int → Int → Mem → Option Mem} {x1 : Int} {x2 : Int} {x3 : Int} {M : Mem} {z : (Int × Mem) ⊕ (Mem)} (hg : ∀ (x1 x2 : Int) (M M' : Mem), g x1 x2 M = some M' → Cn E mX1_sumFrom (d - 1) [rf E 13, vi x1, vi x2] M (fun v N => v = none ∧ M' = N)) (hd : 5 ≤ d) (hF : f_X1_sumFrom_74 n g x1 x2 x3 M = some z) (hC0 : ∀ s' : Int × Mem, z = (.inl s') → V E mX1_sumFrom d 27 [(0, rf E 13), (1, vi x1), (2, vi x2), (3, vi (s'.1))] [] s'.2 Q) (hX : ∀ z0 : Mem, z = (.inr z0) → Q none z0) : V E mX1_sumFrom d 74 [(0, rf E 13), (1, vi x1), (2, vi x2), (3, vi x3)] [] M Q := by
  unfold f_X1_sumFrom_74 at hF
  refine V.iinc 3 3 1 [(3, vi (x3 + 1)), (0, rf E 13), (1, vi x1), (2, vi x2)] dX1_sumFrom_74 rfl (by decide) rfl ?_
  refine V.goto (tgt := 27) dX1_sumFrom_77 (by decide) ?_
  cases Option.some.inj hF
  refine V.sub _ [1, 2, 3, 0] rfl ?_
  exact hC0 _ rfl
def f_X1_sumFrom_27 (n : Nat) (g : Int → Int → Mem → Option Mem) (x1 : Int) (x2 : Int) (x3 : Int) (M : Mem) : Option ((Int × Mem) ⊕ (Mem)) :=
  if 1 < wr x3 then
    some (.inr M)
  else
    (ckX2 (M 13 2)).bind fun c1 =>
    (ckX2 (M 13 2)).bind fun c2 =>
    (f_X2_telling n c1 x2 ((M c2 15) + x1) x3 M).bind fun v3 =>
    if wr v3 = 0 then
      f_X1_sumFrom_74 n g x1 x2 x3 M
    else
      (g (x1 + 1) v3 M).bind fun M4 =>
      (f_X1_addYear n x1 v3 x3 M4).bind fun M5 =>
      f_X1_sumFrom_74 n g x1 x2 x3 M5
set_option maxRecDepth 10000 in
theorem v_X1_sumFrom_27 {E : En} {d : Nat} {Q : Po} {n : Nat} {g : Int → Int → Mem → Option Mem} {x1 : Int} {x2 : Int} {x3 : Int} {M : Mem} {z : (Int × Mem) ⊕ (Mem)} (hg : ∀ (x1 x2 : Int) (M M' : Mem), g x1 x2 M = some M' → Cn E mX1_sumFrom (d - 1) [rf E 13, vi x1, vi x2] M (fun v N => v = none ∧ M' = N)) (hd : 5 ≤ d) (hF : f_X1_sumFrom_27 n g x1 x2 x3 M = some z) (hC0 : ∀ s' : Int × Mem, z = (.inl s') → V E mX1_sumFrom d 27 [(0, rf E 13), (1, vi x1), (2, vi x2), (3, vi (s'.1))] [] s'.2 Q) (hX : ∀ z0 : Mem, z = (.inr z0) → Q none z0) : V E mX1_sumFrom d 27 [(0, rf E 13), (1, vi x1), (2, vi x2), (3, vi x3)] [] M Q := by
  unfold f_X1_sumFrom_27 at hF
  refine V.iload_n 3 3 3 rfl dX1_sumFrom_27 rfl ?_
  refine V.iconst 1 dX1_sumFrom_28 ?_
  refine V.icmp_gt (tgt := 80) rfl wr_1 dX1_sumFrom_29 (by decide) (fun hc => ?_) (fun hc => ?_)
  · rw [if_pos hc] at hF
    cases Option.some.inj hF
    exact V.vret rfl dX1_sumFrom_80 (hX _ rfl)
  · rw [if_neg hc] at hF
    refine V.aload_n 0 0 0 rfl dX1_sumFrom_32 rfl ?_
    replace hF := Option.bind_eq_some_iff.mp hF
    obtain ⟨c1, hc1, hF⟩ := hF
    refine V.getD hc1 (by decide) (hcX1 E _) rfl inX1 2 (by decide) rfl gw_233 dX1_sumFrom_33 ?_
    refine V.iload_n 2 2 2 rfl dX1_sumFrom_36 rfl ?_
    refine V.aload_n 0 0 0 rfl dX1_sumFrom_37 rfl ?_
    replace hF := Option.bind_eq_some_iff.mp hF
    obtain ⟨c2, hc2, hF⟩ := hF
    refine V.getD hc2 (by decide) (hcX1 E _) rfl inX1 2 (by decide) rfl gw_233 dX1_sumFrom_38 ?_
    refine V.get (ltX2 (ck_is hc2)) (hcX2 (ck_is hc2) E _) rfl inX2 15 (by decide) rfl gw_176 dX1_sumFrom_41 ?_
    refine V.iload_n 1 1 1 rfl dX1_sumFrom_44 rfl ?_
    refine V.iadd dX1_sumFrom_45 ?_
    refine V.iload_n 3 3 3 rfl dX1_sumFrom_46 rfl ?_
    replace hF := Option.bind_eq_some_iff.mp hF
    obtain ⟨v3, hv3, hF⟩ := hF
    refine V.callV (d' := d - 1) [vi x2, vi ((M c2 15) + x1), vi x3] [] (c_X2_telling (ck_is hc1) (by omega) hv3) okX2_telling gw_714 rfl rfl (ltX2 (ck_is hc1)) (hcX2 (ck_is hc1) E _) rfl (Nat.le_of_ble_eq_true rfl) (by omega) dX1_sumFrom_47 ?_
    rintro _ _ ⟨rfl, rfl⟩
    show V E mX1_sumFrom d 50 [(0, rf E 13), (1, vi x1), (2, vi x2), (3, vi x3)] [vi v3] M _
    refine V.istore 4 [(4, vi v3), (0, rf E 13), (1, vi x1), (2, vi x2), (3, vi x3)] dX1_sumFrom_50 (by decide) rfl ?_
    refine V.iload 4 0 dX1_sumFrom_52 rfl ?_
    refine V.if_eq (tgt := 74) rfl dX1_sumFrom_54 (by decide) (fun hc => ?_) (fun hc => ?_)
    · rw [if_pos hc] at hF
      refine V.sub _ [1, 2, 3, 4] rfl ?_
      exact v_X1_sumFrom_74 hg hd hF hC0 hX
    · rw [if_neg hc] at hF
      refine V.aload_n 0 0 1 rfl dX1_sumFrom_57 rfl ?_
      refine V.iload_n 1 1 2 rfl dX1_sumFrom_58 rfl ?_
      refine V.iconst 1 dX1_sumFrom_59 ?_
      refine V.iadd dX1_sumFrom_60 ?_
      refine V.iload 4 0 dX1_sumFrom_61 rfl ?_
      replace hF := Option.bind_eq_some_iff.mp hF
      obtain ⟨M4, hM4, hF⟩ := hF
      refine V.callS (d' := d - 1) [rf E 13, vi (x1 + 1), vi v3] [] (hg _ _ _ _ hM4) okX1_sumFrom gw_708 rfl rfl (Nat.le_of_ble_eq_true rfl) (by omega) dX1_sumFrom_63 ?_
      rintro _ _ ⟨rfl, rfl⟩
      show V E mX1_sumFrom d 66 [(4, vi v3), (0, rf E 13), (1, vi x1), (2, vi x2), (3, vi x3)] [] M4 _
      refine V.aload_n 0 0 1 rfl dX1_sumFrom_66 rfl ?_
      refine V.iload_n 1 1 2 rfl dX1_sumFrom_67 rfl ?_
      refine V.iload 4 0 dX1_sumFrom_68 rfl ?_
      refine V.iload_n 3 3 4 rfl dX1_sumFrom_70 rfl ?_
      replace hF := Option.bind_eq_some_iff.mp hF
      obtain ⟨M5, hM5, hF⟩ := hF
      refine V.callV (d' := d - 1) [vi x1, vi v3, vi x3] [] (c_X1_addYear (by omega) hM5) okX1_addYear gw_715 rfl rfl (by decide) (hcX1 E _) rfl (Nat.le_of_ble_eq_true rfl) (by omega) dX1_sumFrom_71 ?_
      rintro _ _ ⟨rfl, rfl⟩
      show V E mX1_sumFrom d 74 [(4, vi v3), (0, rf E 13), (1, vi x1), (2, vi x2), (3, vi x3)] [] M5 _
      refine V.sub _ [1, 2, 3, 4] rfl ?_
      exact v_X1_sumFrom_74 hg hd hF hC0 hX
theorem l_X1_sumFrom_27 {E : En} {d : Nat} {Q : Po} {n : Nat} {g : Int → Int → Mem → Option Mem} {x1 : Int} {x2 : Int} {k : Nat} {s : Int × Mem} {z : Mem} (hg : ∀ (x1 x2 : Int) (M M' : Mem), g x1 x2 M = some M' → Cn E mX1_sumFrom (d - 1) [rf E 13, vi x1, vi x2] M (fun v N => v = none ∧ M' = N)) (hd : 5 ≤ d) (hF : lp (fun s => f_X1_sumFrom_27 n g x1 x2 s.1 s.2) k s = some z) (hK : Q none z) : V E mX1_sumFrom d 27 [(0, rf E 13), (1, vi x1), (2, vi x2), (3, vi s.1)] [] s.2 Q := by
  refine lp_ind (P := fun s => V E mX1_sumFrom d 27 [(0, rf E 13), (1, vi x1), (2, vi x2), (3, vi s.1)] [] s.2 Q) (z0 := z) ?_ k s hF
  intro s z' hF hc hx
  exact v_X1_sumFrom_27 hg hd hF (fun s' e => hc s' e) (fun z0 e => by rw [hx _ e]; exact hK)
def f_X1_sumFrom (n : Nat) (g : Int → Int → Mem → Option Mem) (x1 : Int) (x2 : Int) (M : Mem) : Option (Mem) :=
  if wr x1 ≤ 5 then
    (rx 15 1 6 x1).bind fun c1 =>
    (some (fil M c1 41 0)).bind fun M2 =>
    if wr x1 < wr (M2 13 3) then
      lp (fun s => f_X1_sumFrom_27 n g x1 x2 s.1 s.2) n (0, M2)
    else
      some M2
  else
    some M
set_option maxRecDepth 10000 in
theorem v_X1_sumFrom_0 {E : En} {d : Nat} {Q : Po} {n : Nat} {g : Int → Int → Mem → Option Mem} {x1 : Int} {x2 : Int} {M : Mem} {z : Mem} (hg : ∀ (x1 x2 : Int) (M M' : Mem), g x1 x2 M = some M' → Cn E mX1_sumFrom (d - 1) [rf E 13, vi x1, vi x2] M (fun v N => v = none ∧ M' = N)) (hd : 5 ≤ d) (hF : f_X1_sumFrom n g x1 x2 M = some z) (hK : Q none z) : V E mX1_sumFrom d 0 [(0, rf E 13), (1, vi x1), (2, vi x2)] [] M Q := by
  unfold f_X1_sumFrom at hF
  refine V.iload_n 1 1 1 rfl dX1_sumFrom_0 rfl ?_
  refine V.iconst 5 dX1_sumFrom_1 ?_
  refine V.icmp_le (tgt := 6) rfl wr_5 dX1_sumFrom_2 (by decide) (fun hc => ?_) (fun hc => ?_)
  · rw [if_pos hc] at hF
    refine V.aload_n 0 0 0 rfl dX1_sumFrom_6 rfl ?_
    refine V.get (by decide) (hcX1 E _) rfl inX1 0 (by decide) rfl gw_231 dX1_sumFrom_7 ?_
    refine V.iload_n 1 1 1 rfl dX1_sumFrom_10 rfl ?_
    replace hF := Option.bind_eq_some_iff.mp hF
    obtain ⟨c1, hc1, hF⟩ := hF
    refine V.aaldA (j := c1) ar_14 (rx_some hc1).1 (by rw [(rx_some hc1).2]; simp) dX1_sumFrom_11 ?_
    refine V.iconst 0 dX1_sumFrom_12 ?_
    replace hF := Option.bind_eq_some_iff.mp hF
    obtain ⟨M2, hM2, hF⟩ := hF
    refine V.callS (d' := d - 1) [rf E c1, vi 0] [] (c_J7_fill_53178 (rx_k5 hc1) (by omega) hM2) okJ7_fill_53178 gw_711 rfl rfl (Nat.le_of_ble_eq_true rfl) (by omega) dX1_sumFrom_13 ?_
    rintro _ _ ⟨rfl, rfl⟩
    show V E mX1_sumFrom d 16 [(0, rf E 13), (1, vi x1), (2, vi x2)] [] M2 _
    refine V.iload_n 1 1 1 rfl dX1_sumFrom_16 rfl ?_
    refine V.aload_n 0 0 0 rfl dX1_sumFrom_17 rfl ?_
    refine V.get (by decide) (hcX1 E _) rfl inX1 3 (by decide) rfl gw_234 dX1_sumFrom_18 ?_
    refine V.icmp_lt (tgt := 25) rfl rfl dX1_sumFrom_21 (by decide) (fun hc => ?_) (fun hc => ?_)
    · rw [if_pos hc] at hF
      refine V.iconst 0 dX1_sumFrom_25 ?_
      refine V.istore_n 3 3 [(3, vi 0), (0, rf E 13), (1, vi x1), (2, vi x2)] rfl dX1_sumFrom_26 (by decide) rfl ?_
      refine V.sub _ [1, 2, 3, 0] rfl ?_
      exact l_X1_sumFrom_27 hg hd hF hK
    · rw [if_neg hc] at hF
      cases Option.some.inj hF
      exact V.vret rfl dX1_sumFrom_24 hK
  · rw [if_neg hc] at hF
    cases Option.some.inj hF
    exact V.vret rfl dX1_sumFrom_5 hK
def f_X1_sumFrom_rec (n : Nat) : Nat → Int → Int → Mem → Option Mem
  | 0 => fun _ _ _ => none
  | k + 1 => fun x1 x2 M => f_X1_sumFrom n (f_X1_sumFrom_rec n k) x1 x2 M
theorem c_X1_sumFrom_rec {E : En} {n : Nat} : ∀ (k : Nat) {d : Nat} {x1 x2 : Int} {M z : Mem} (hd : 5 + k ≤ d) (hF : f_X1_sumFrom_rec n k x1 x2 M = some z), Cn E mX1_sumFrom d [rf E 13, vi x1, vi x2] M (fun v N => v = none ∧ z = N)
  | 0, _, _, _, _, _, _, hF => by cases hF
  | k + 1, d, x1, x2, M, z, hd, hF => by
    refine V.entry (by decide +kernel) (Nat.le_of_ble_eq_true rfl) ?_
    exact v_X1_sumFrom_0 (g := f_X1_sumFrom_rec n k) (fun y1 y2 N N' h => c_X1_sumFrom_rec k (by omega) h) (by omega) hF ⟨rfl, rfl⟩
abbrev mX1_greatest : MI := (yX1_greatest, cX1_greatest, 4, (some .int))
theorem okX1_greatest : OKV mX1_greatest 3 := ⟨gw_700, gw_701, gw_61, gw_702, (by decide +kernel), (by decide)⟩
def f_X1_greatest (n : Nat) (q1 : Nat) (x2 : Int) (x3 : Int) (M : Mem) : Option (Int × Mem) :=
  (f_X1_plan q1 x2 M).bind fun M1 =>
  (f_X1_sumFrom_rec n 8 0 x3 M1).bind fun M2 =>
  (rd M2 15 41 (M2 q1 10)).bind fun v3 =>
  some (v3, M2)
set_option maxRecDepth 10000 in
theorem v_X1_greatest_0 {E : En} {d : Nat} {Q : Po} {n : Nat} {q1 : Nat} {x2 : Int} {x3 : Int} {M : Mem} {z : Int × Mem} (hq1 : isX2 q1) (hd : 14 ≤ d) (hF : f_X1_greatest n q1 x2 x3 M = some z) (hK : Q (some (vi z.1)) z.2) : V E mX1_greatest d 0 [(0, rf E 13), (1, rf E q1), (2, vi x2), (3, vi x3)] [] M Q := by
  unfold f_X1_greatest at hF
  refine V.aload_n 0 0 0 rfl dX1_greatest_0 rfl ?_
  refine V.aload_n 1 1 1 rfl dX1_greatest_1 rfl ?_
  refine V.iload_n 2 2 2 rfl dX1_greatest_2 rfl ?_
  replace hF := Option.bind_eq_some_iff.mp hF
  obtain ⟨M1, hM1, hF⟩ := hF
  refine V.callV (d' := d - 1) [rf E q1, vi x2] [] (c_X1_plan hq1 (by omega) hM1) okX1_plan gw_703 rfl rfl (by decide) (hcX1 E _) rfl (Nat.le_of_ble_eq_true rfl) (by omega) dX1_greatest_3 ?_
  rintro _ _ ⟨rfl, rfl⟩
  show V E mX1_greatest d 6 [(0, rf E 13), (1, rf E q1), (2, vi x2), (3, vi x3)] [] M1 _
  refine V.aload_n 0 0 0 rfl dX1_greatest_6 rfl ?_
  refine V.iconst 0 dX1_greatest_7 ?_
  refine V.iload_n 3 3 3 rfl dX1_greatest_8 rfl ?_
  replace hF := Option.bind_eq_some_iff.mp hF
  obtain ⟨M2, hM2, hF⟩ := hF
  refine V.callS (d' := d - 1) [rf E 13, vi 0, vi x3] [] (c_X1_sumFrom_rec 8 (by omega) hM2) okX1_sumFrom gw_708 rfl rfl (Nat.le_of_ble_eq_true rfl) (by omega) dX1_greatest_9 ?_
  rintro _ _ ⟨rfl, rfl⟩
  show V E mX1_greatest d 12 [(0, rf E 13), (1, rf E q1), (2, vi x2), (3, vi x3)] [] M2 _
  refine V.aload_n 0 0 0 rfl dX1_greatest_12 rfl ?_
  refine V.get (by decide) (hcX1 E _) rfl inX1 0 (by decide) rfl gw_231 dX1_greatest_13 ?_
  refine V.iconst 0 dX1_greatest_16 ?_
  refine V.aaldA (j := 15) ar_14 (by rw [wr_0]; decide) (by rw [wr_0]; rfl) dX1_greatest_17 ?_
  refine V.aload_n 1 1 1 rfl dX1_greatest_18 rfl ?_
  refine V.get (ltX2 hq1) (hcX2 hq1 E _) rfl inX2 10 (by decide) rfl gw_161 dX1_greatest_19 ?_
  replace hF := Option.bind_eq_some_iff.mp hF
  obtain ⟨v3, hv3, hF⟩ := hF
  refine V.iald ar_15 hv3 dX1_greatest_22 ?_
  cases Option.some.inj hF
  exact V.iret rfl dX1_greatest_23 hK
theorem c_X1_greatest {E : En} {d : Nat} {n : Nat} {q1 : Nat} {x2 : Int} {x3 : Int} {M : Mem} {zr : Int} {zM : Mem} (hq1 : isX2 q1) (hd : 14 ≤ d) (hF : f_X1_greatest n q1 x2 x3 M = some (zr, zM)) : Cn E mX1_greatest d [rf E 13, rf E q1, vi x2, vi x3] M (fun v N => v = some (vi zr) ∧ zM = N) := by
  refine V.entry (by decide +kernel) (Nat.le_of_ble_eq_true rfl) ?_
  exact v_X1_greatest_0 hq1 hd hF ⟨rfl, rfl⟩
abbrev mX1_leastChoice : MI := (yX1_leastChoice, cX1_leastChoice, 5, (some .int))
theorem okX1_leastChoice : OKV mX1_leastChoice 4 := ⟨gw_738, gw_739, gw_61, gw_740, (by decide +kernel), (by decide)⟩
def f_X1_leastChoice (n : Nat) (q1 : Nat) (x2 : Int) (x3 : Int) (x4 : Int) (M : Mem) : Option (Int × Mem) :=
  (f_X1_plan q1 x2 M).bind fun M1 =>
  (f_X1_sumFrom_rec n 8 1 x3 M1).bind fun M2 =>
  (f_X2_oddsOf n q1 x3 M2).bind fun v3 =>
  (f_X2_priceIn q1 x4 M2).bind fun v4 =>
  (f_X1_choose n 1 (v3 * v4) M2).bind fun M5 =>
  (f_X2_foodIn n q1 x4 M5).bind fun v6 =>
  (f_X2_leftOf q1 v6 M5).bind fun v7 =>
  (rd M5 21 41 (mnn (M5 q1 8) v7)).bind fun v8 =>
  some (v8, M5)
set_option maxRecDepth 10000 in
theorem v_X1_leastChoice_0 {E : En} {d : Nat} {Q : Po} {n : Nat} {q1 : Nat} {x2 : Int} {x3 : Int} {x4 : Int} {M : Mem} {z : Int × Mem} (hq1 : isX2 q1) (hd : 14 ≤ d) (hF : f_X1_leastChoice n q1 x2 x3 x4 M = some z) (hK : Q (some (vi z.1)) z.2) : V E mX1_leastChoice d 0 [(0, rf E 13), (1, rf E q1), (2, vi x2), (3, vi x3), (4, vi x4)] [] M Q := by
  unfold f_X1_leastChoice at hF
  refine V.aload_n 0 0 0 rfl dX1_leastChoice_0 rfl ?_
  refine V.aload_n 1 1 1 rfl dX1_leastChoice_1 rfl ?_
  refine V.iload_n 2 2 2 rfl dX1_leastChoice_2 rfl ?_
  replace hF := Option.bind_eq_some_iff.mp hF
  obtain ⟨M1, hM1, hF⟩ := hF
  refine V.callV (d' := d - 1) [rf E q1, vi x2] [] (c_X1_plan hq1 (by omega) hM1) okX1_plan gw_703 rfl rfl (by decide) (hcX1 E _) rfl (Nat.le_of_ble_eq_true rfl) (by omega) dX1_leastChoice_3 ?_
  rintro _ _ ⟨rfl, rfl⟩
  show V E mX1_leastChoice d 6 [(0, rf E 13), (1, rf E q1), (2, vi x2), (3, vi x3), (4, vi x4)] [] M1 _
  refine V.aload_n 0 0 0 rfl dX1_leastChoice_6 rfl ?_
  refine V.iconst 1 dX1_leastChoice_7 ?_
  refine V.iload_n 3 3 3 rfl dX1_leastChoice_8 rfl ?_
  replace hF := Option.bind_eq_some_iff.mp hF
  obtain ⟨M2, hM2, hF⟩ := hF
  refine V.callS (d' := d - 1) [rf E 13, vi 1, vi x3] [] (c_X1_sumFrom_rec 8 (by omega) hM2) okX1_sumFrom gw_708 rfl rfl (Nat.le_of_ble_eq_true rfl) (by omega) dX1_leastChoice_9 ?_
  rintro _ _ ⟨rfl, rfl⟩
  show V E mX1_leastChoice d 12 [(0, rf E 13), (1, rf E q1), (2, vi x2), (3, vi x3), (4, vi x4)] [] M2 _
  refine V.aload_n 0 0 0 rfl dX1_leastChoice_12 rfl ?_
  refine V.iconst 1 dX1_leastChoice_13 ?_
  refine V.aload_n 1 1 1 rfl dX1_leastChoice_14 rfl ?_
  refine V.iload_n 3 3 3 rfl dX1_leastChoice_15 rfl ?_
  replace hF := Option.bind_eq_some_iff.mp hF
  obtain ⟨v3, hv3, hF⟩ := hF
  refine V.callV (d' := d - 1) [vi x3] [vi 1, rf E 13] (c_X2_oddsOf hq1 (by omega) hv3) okX2_oddsOf gw_719 rfl rfl (ltX2 hq1) (hcX2 hq1 E _) rfl (Nat.le_of_ble_eq_true rfl) (by omega) dX1_leastChoice_16 ?_
  rintro _ _ ⟨rfl, rfl⟩
  show V E mX1_leastChoice d 19 [(0, rf E 13), (1, rf E q1), (2, vi x2), (3, vi x3), (4, vi x4)] [vi v3, vi 1, rf E 13] M2 _
  refine V.aload_n 1 1 1 rfl dX1_leastChoice_19 rfl ?_
  refine V.iload 4 4 dX1_leastChoice_20 rfl ?_
  replace hF := Option.bind_eq_some_iff.mp hF
  obtain ⟨v4, hv4, hF⟩ := hF
  refine V.callV (d' := d - 1) [vi x4] [vi v3, vi 1, rf E 13] (c_X2_priceIn hq1 (by omega) hv4) okX2_priceIn gw_720 rfl rfl (ltX2 hq1) (hcX2 hq1 E _) rfl (Nat.le_of_ble_eq_true rfl) (by omega) dX1_leastChoice_22 ?_
  rintro _ _ ⟨rfl, rfl⟩
  show V E mX1_leastChoice d 25 [(0, rf E 13), (1, rf E q1), (2, vi x2), (3, vi x3), (4, vi x4)] [vi v4, vi v3, vi 1, rf E 13] M2 _
  refine V.imul dX1_leastChoice_25 ?_
  replace hF := Option.bind_eq_some_iff.mp hF
  obtain ⟨M5, hM5, hF⟩ := hF
  refine V.callV (d' := d - 1) [vi 1, vi (v3 * v4)] [] (c_X1_choose (by omega) hM5) okX1_choose gw_722 rfl rfl (by decide) (hcX1 E _) rfl (Nat.le_of_ble_eq_true rfl) (by omega) dX1_leastChoice_26 ?_
  rintro _ _ ⟨rfl, rfl⟩
  show V E mX1_leastChoice d 29 [(0, rf E 13), (1, rf E q1), (2, vi x2), (3, vi x3), (4, vi x4)] [] M5 _
  refine V.aload_n 0 0 0 rfl dX1_leastChoice_29 rfl ?_
  refine V.get (by decide) (hcX1 E _) rfl inX1 1 (by decide) rfl gw_232 dX1_leastChoice_30 ?_
  refine V.aload_n 1 1 1 rfl dX1_leastChoice_33 rfl ?_
  refine V.get (ltX2 hq1) (hcX2 hq1 E _) rfl inX2 8 (by decide) rfl gw_155 dX1_leastChoice_34 ?_
  refine V.aload_n 1 1 1 rfl dX1_leastChoice_37 rfl ?_
  refine V.aload_n 1 1 1 rfl dX1_leastChoice_38 rfl ?_
  refine V.iload 4 4 dX1_leastChoice_39 rfl ?_
  replace hF := Option.bind_eq_some_iff.mp hF
  obtain ⟨v6, hv6, hF⟩ := hF
  refine V.callV (d' := d - 1) [vi x4] [rf E q1, vi (M5 q1 8), rf E 21] (c_X2_foodIn hq1 (by omega) hv6) okX2_foodIn gw_741 rfl rfl (ltX2 hq1) (hcX2 hq1 E _) rfl (Nat.le_of_ble_eq_true rfl) (by omega) dX1_leastChoice_41 ?_
  rintro _ _ ⟨rfl, rfl⟩
  show V E mX1_leastChoice d 44 [(0, rf E 13), (1, rf E q1), (2, vi x2), (3, vi x3), (4, vi x4)] [vi v6, rf E q1, vi (M5 q1 8), rf E 21] M5 _
  replace hF := Option.bind_eq_some_iff.mp hF
  obtain ⟨v7, hv7, hF⟩ := hF
  refine V.callV (d' := d - 1) [vi v6] [vi (M5 q1 8), rf E 21] (c_X2_leftOf hq1 (by omega) hv7) okX2_leftOf gw_731 rfl rfl (ltX2 hq1) (hcX2 hq1 E _) rfl (Nat.le_of_ble_eq_true rfl) (by omega) dX1_leastChoice_44 ?_
  rintro _ _ ⟨rfl, rfl⟩
  show V E mX1_leastChoice d 47 [(0, rf E 13), (1, rf E q1), (2, vi x2), (3, vi x3), (4, vi x4)] [vi v7, vi (M5 q1 8), rf E 21] M5 _
  refine V.rmin gw_707 (Nat.le_of_ble_eq_true rfl) (by omega) dX1_leastChoice_47 ?_
  replace hF := Option.bind_eq_some_iff.mp hF
  obtain ⟨v8, hv8, hF⟩ := hF
  refine V.iald ar_21 hv8 dX1_leastChoice_50 ?_
  cases Option.some.inj hF
  exact V.iret rfl dX1_leastChoice_51 hK
theorem c_X1_leastChoice {E : En} {d : Nat} {n : Nat} {q1 : Nat} {x2 : Int} {x3 : Int} {x4 : Int} {M : Mem} {zr : Int} {zM : Mem} (hq1 : isX2 q1) (hd : 14 ≤ d) (hF : f_X1_leastChoice n q1 x2 x3 x4 M = some (zr, zM)) : Cn E mX1_leastChoice d [rf E 13, rf E q1, vi x2, vi x3, vi x4] M (fun v N => v = some (vi zr) ∧ zM = N) := by
  refine V.entry (by decide +kernel) (Nat.le_of_ble_eq_true rfl) ?_
  exact v_X1_leastChoice_0 hq1 hd hF ⟨rfl, rfl⟩
