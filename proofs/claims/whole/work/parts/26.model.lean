abbrev mX6_in : MI := (yX6_in, cX6_in, 6, (some .boolean))
theorem okX6_in : OKS mX6_in 3 := ⟨gw_967, gw_64, gw_968, (by decide +kernel), (by decide)⟩
def f_X6_in (x0 : Int) (x2 : Int) (x4 : Int) (M : Mem) : Option (Int) :=
  if wl x0 < wl x2 then
    some 0
  else
    if wl x4 < wl x0 then
      some 0
    else
      some 1
set_option maxRecDepth 10000 in
theorem v_X6_in_0 {E : En} {d : Nat} {Q : Po} {x0 : Int} {x2 : Int} {x4 : Int} {M : Mem} {z : Int}  (hd : 1 ≤ d) (hF : f_X6_in x0 x2 x4 M = some z) (hK : Q (some (vi z)) M) : V E mX6_in d 0 [(0, vl x0), (2, vl x2), (4, vl x4)] [] M Q := by
  unfold f_X6_in at hF
  refine V.lload_n 0 0 0 rfl dX6_in_0 rfl ?_
  refine V.lload_n 2 2 1 rfl dX6_in_1 rfl ?_
  refine V.lcmp_lt (tgt := 17) rfl rfl dX6_in_2 dX6_in_3 (by decide) (fun hc => ?_) (fun hc => ?_)
  · rw [if_pos hc] at hF
    refine V.iconst 0 dX6_in_17 ?_
    cases Option.some.inj hF
    exact V.zret rfl (Or.inl rfl) dX6_in_18 hK
  · rw [if_neg hc] at hF
    refine V.lload_n 0 0 0 rfl dX6_in_6 rfl ?_
    refine V.lload 4 2 dX6_in_7 rfl ?_
    refine V.lcmp_gt (tgt := 17) rfl rfl dX6_in_9 dX6_in_10 (by decide) (fun hc => ?_) (fun hc => ?_)
    · rw [if_pos hc] at hF
      refine V.iconst 0 dX6_in_17 ?_
      cases Option.some.inj hF
      exact V.zret rfl (Or.inl rfl) dX6_in_18 hK
    · rw [if_neg hc] at hF
      refine V.iconst 1 dX6_in_13 ?_
      refine V.goto (tgt := 18) dX6_in_14 (by decide) ?_
      cases Option.some.inj hF
      exact V.zret rfl (Or.inr rfl) dX6_in_18 hK
theorem c_X6_in {E : En} {d : Nat} {x0 : Int} {x2 : Int} {x4 : Int} {M : Mem} {z : Int}  (hd : 1 ≤ d) (hF : f_X6_in x0 x2 x4 M = some z) : Cn E mX6_in d [vl x0, vl x2, vl x4] M (fun v N => v = some (vi z) ∧ M = N) := by
  refine V.entry (by decide +kernel) (Nat.le_of_ble_eq_true rfl) ?_
  exact v_X6_in_0  hd hF ⟨rfl, rfl⟩
abbrev mX6_feed : MI := (yX6_feed, cX6_feed, 2, (some .int))
theorem okX6_feed : OKV mX6_feed 1 := ⟨gw_962, gw_963, gw_64, gw_964, (by decide +kernel), (by decide)⟩
def f_X6_feed (x1 : Int) (M : Mem) : Option (Int × Mem) :=
  (f_X6_in (wr x1) 0 127 M).bind fun v1 =>
  if wr v1 = 0 then
    some ((-1), M)
  else
    if wr (M 46 10) = 160 then
      some ((-3), M)
    else
      (wt M 51 160 (M 46 10) x1).bind fun M2 =>
      (some (st M2 46 10 ((M2 46 10) + 1))).bind fun M3 =>
      some (M3 46 10, M3)
set_option maxRecDepth 10000 in
theorem v_X6_feed_0 {E : En} {d : Nat} {Q : Po} {x1 : Int} {M : Mem} {z : Int × Mem}  (hd : 2 ≤ d) (hF : f_X6_feed x1 M = some z) (hK : Q (some (vi z.1)) z.2) : V E mX6_feed d 0 [(0, rf E 46), (1, vi x1)] [] M Q := by
  unfold f_X6_feed at hF
  refine V.iload_n 1 1 1 rfl dX6_feed_0 rfl ?_
  refine V.i2l dX6_feed_1 ?_
  refine V.lconst 0 0 (by decide) dX6_feed_2 ?_
  refine V.ldc2 51 127 127 (by decide) gw_965 dX6_feed_3 ?_
  replace hF := Option.bind_eq_some_iff.mp hF
  obtain ⟨v1, hv1, hF⟩ := hF
  refine V.callS (d' := d - 1) [vl (wr x1), vl 0, vl 127] [] (c_X6_in (by omega) hv1) okX6_in gw_966 rfl rfl (Nat.le_of_ble_eq_true rfl) (by omega) dX6_feed_6 ?_
  rintro _ _ ⟨rfl, rfl⟩
  show V E mX6_feed d 9 [(0, rf E 46), (1, vi x1)] [vi v1] M _
  refine V.if_ne (tgt := 14) rfl dX6_feed_9 (by decide) (fun hc => ?_) (fun hc => ?_)
  · rw [if_neg hc] at hF
    refine V.aload_n 0 0 0 rfl dX6_feed_14 rfl ?_
    refine V.get (by decide) (hcX6 E _) rfl inX6 10 (by decide) rfl gw_885 dX6_feed_15 ?_
    refine V.sipush 160 160 (by decide) dX6_feed_18 ?_
    refine V.icmp_ne (tgt := 27) rfl wr_160 dX6_feed_21 (by decide) (fun hc => ?_) (fun hc => ?_)
    · rw [if_neg hc] at hF
      refine V.aload_n 0 0 0 rfl dX6_feed_27 rfl ?_
      refine V.get (by decide) (hcX6 E _) rfl inX6 9 (by decide) rfl gw_884 dX6_feed_28 ?_
      refine V.aload_n 0 0 0 rfl dX6_feed_31 rfl ?_
      refine V.get (by decide) (hcX6 E _) rfl inX6 10 (by decide) rfl gw_885 dX6_feed_32 ?_
      refine V.iload_n 1 1 1 rfl dX6_feed_35 rfl ?_
      replace hF := Option.bind_eq_some_iff.mp hF
      obtain ⟨M2, hM2, hF⟩ := hF
      refine V.iast ar_51 hM2 dX6_feed_36 ?_
      refine V.aload_n 0 0 0 rfl dX6_feed_37 rfl ?_
      refine V.dup rfl dX6_feed_38 ?_
      refine V.get (by decide) (hcX6 E _) rfl inX6 10 (by decide) rfl gw_885 dX6_feed_39 ?_
      refine V.iconst 1 dX6_feed_42 ?_
      refine V.iadd dX6_feed_43 ?_
      replace hF := Option.bind_eq_some_iff.mp hF
      obtain ⟨M3, hM3, hF⟩ := hF
      refine V.put (x := (M2 46 10) + 1) (ty := .int) (Option.some.inj hM3) (by decide) (hcX6 E) rfl inX6 tyX6 tyX6_ok nmX6 (by decide) rfl (by decide +kernel) rfl rfl (Nat.le_of_ble_eq_true rfl) rfl gw_885 dX6_feed_44 ?_
      refine V.aload_n 0 0 0 rfl dX6_feed_47 rfl ?_
      refine V.get (by decide) (hcX6 E _) rfl inX6 10 (by decide) rfl gw_885 dX6_feed_48 ?_
      cases Option.some.inj hF
      exact V.iret rfl dX6_feed_51 hK
    · rw [if_pos hc] at hF
      refine V.bipush (-3) (-3) (by decide) dX6_feed_24 ?_
      cases Option.some.inj hF
      exact V.iret rfl dX6_feed_26 hK
  · rw [if_pos hc] at hF
    refine V.iconst (-1) dX6_feed_12 ?_
    cases Option.some.inj hF
    exact V.iret rfl dX6_feed_13 hK
theorem c_X6_feed {E : En} {d : Nat} {x1 : Int} {M : Mem} {zr : Int} {zM : Mem}  (hd : 2 ≤ d) (hF : f_X6_feed x1 M = some (zr, zM)) : Cn E mX6_feed d [rf E 46, vi x1] M (fun v N => v = some (vi zr) ∧ zM = N) := by
  refine V.entry (by decide +kernel) (Nat.le_of_ble_eq_true rfl) ?_
  exact v_X6_feed_0  hd hF ⟨rfl, rfl⟩
abbrev mX6_end : MI := (yX6_end, cX6_end, 3, (some .int))
theorem okX6_end : OKV mX6_end 1 := ⟨gw_970, gw_971, gw_64, gw_972, (by decide +kernel), (by decide)⟩
def f_X6_end (x1 : Int) (M : Mem) : Option (Int × Mem) :=
  (f_X6_in (wr x1) 0 (wr (M 46 10)) M).bind fun v1 =>
  if wr v1 = 0 then
    some ((-1), M)
  else
    (some (st M 46 10 x1)).bind fun M2 =>
    some (M 46 10, M2)
set_option maxRecDepth 10000 in
theorem v_X6_end_0 {E : En} {d : Nat} {Q : Po} {x1 : Int} {M : Mem} {z : Int × Mem}  (hd : 2 ≤ d) (hF : f_X6_end x1 M = some z) (hK : Q (some (vi z.1)) z.2) : V E mX6_end d 0 [(0, rf E 46), (1, vi x1)] [] M Q := by
  unfold f_X6_end at hF
  refine V.iload_n 1 1 1 rfl dX6_end_0 rfl ?_
  refine V.i2l dX6_end_1 ?_
  refine V.lconst 0 0 (by decide) dX6_end_2 ?_
  refine V.aload_n 0 0 0 rfl dX6_end_3 rfl ?_
  refine V.get (by decide) (hcX6 E _) rfl inX6 10 (by decide) rfl gw_885 dX6_end_4 ?_
  refine V.i2l dX6_end_7 ?_
  replace hF := Option.bind_eq_some_iff.mp hF
  obtain ⟨v1, hv1, hF⟩ := hF
  refine V.callS (d' := d - 1) [vl (wr x1), vl 0, vl (wr (M 46 10))] [] (c_X6_in (by omega) hv1) okX6_in gw_966 rfl rfl (Nat.le_of_ble_eq_true rfl) (by omega) dX6_end_8 ?_
  rintro _ _ ⟨rfl, rfl⟩
  show V E mX6_end d 11 [(0, rf E 46), (1, vi x1)] [vi v1] M _
  refine V.if_ne (tgt := 16) rfl dX6_end_11 (by decide) (fun hc => ?_) (fun hc => ?_)
  · rw [if_neg hc] at hF
    refine V.aload_n 0 0 0 rfl dX6_end_16 rfl ?_
    refine V.get (by decide) (hcX6 E _) rfl inX6 10 (by decide) rfl gw_885 dX6_end_17 ?_
    refine V.istore_n 2 2 [(2, vi (M 46 10)), (0, rf E 46), (1, vi x1)] rfl dX6_end_20 (by decide) rfl ?_
    refine V.aload_n 0 0 1 rfl dX6_end_21 rfl ?_
    refine V.iload_n 1 1 2 rfl dX6_end_22 rfl ?_
    replace hF := Option.bind_eq_some_iff.mp hF
    obtain ⟨M2, hM2, hF⟩ := hF
    refine V.put (x := x1) (ty := .int) (Option.some.inj hM2) (by decide) (hcX6 E) rfl inX6 tyX6 tyX6_ok nmX6 (by decide) rfl (by decide +kernel) rfl rfl (Nat.le_of_ble_eq_true rfl) rfl gw_885 dX6_end_23 ?_
    refine V.iload_n 2 2 0 rfl dX6_end_26 rfl ?_
    cases Option.some.inj hF
    exact V.iret rfl dX6_end_27 hK
  · rw [if_pos hc] at hF
    refine V.iconst (-1) dX6_end_14 ?_
    cases Option.some.inj hF
    exact V.iret rfl dX6_end_15 hK
theorem c_X6_end {E : En} {d : Nat} {x1 : Int} {M : Mem} {zr : Int} {zM : Mem}  (hd : 2 ≤ d) (hF : f_X6_end x1 M = some (zr, zM)) : Cn E mX6_end d [rf E 46, vi x1] M (fun v N => v = some (vi zr) ∧ zM = N) := by
  refine V.entry (by decide +kernel) (Nat.le_of_ble_eq_true rfl) ?_
  exact v_X6_end_0  hd hF ⟨rfl, rfl⟩
abbrev mX6_byteAt : MI := (yX6_byteAt, cX6_byteAt, 2, (some .int))
theorem okX6_byteAt : OKV mX6_byteAt 1 := ⟨gw_983, gw_26, gw_64, gw_984, (by decide +kernel), (by decide)⟩
def f_X6_byteAt (x1 : Int) (M : Mem) : Option (Int) :=
  if wr (M 46 10) ≤ wr x1 then
    some (-4)
  else
    (rd M 51 160 x1).bind fun v1 =>
    some v1
set_option maxRecDepth 10000 in
theorem v_X6_byteAt_0 {E : En} {d : Nat} {Q : Po} {x1 : Int} {M : Mem} {z : Int}  (hd : 1 ≤ d) (hF : f_X6_byteAt x1 M = some z) (hK : Q (some (vi z)) M) : V E mX6_byteAt d 0 [(0, rf E 46), (1, vi x1)] [] M Q := by
  unfold f_X6_byteAt at hF
  refine V.iload_n 1 1 1 rfl dX6_byteAt_0 rfl ?_
  refine V.aload_n 0 0 0 rfl dX6_byteAt_1 rfl ?_
  refine V.get (by decide) (hcX6 E _) rfl inX6 10 (by decide) rfl gw_885 dX6_byteAt_2 ?_
  refine V.icmp_ge (tgt := 17) rfl rfl dX6_byteAt_5 (by decide) (fun hc => ?_) (fun hc => ?_)
  · rw [if_pos hc] at hF
    refine V.bipush (-4) (-4) (by decide) dX6_byteAt_17 ?_
    cases Option.some.inj hF
    exact V.iret rfl dX6_byteAt_19 hK
  · rw [if_neg hc] at hF
    refine V.aload_n 0 0 0 rfl dX6_byteAt_8 rfl ?_
    refine V.get (by decide) (hcX6 E _) rfl inX6 9 (by decide) rfl gw_884 dX6_byteAt_9 ?_
    refine V.iload_n 1 1 1 rfl dX6_byteAt_12 rfl ?_
    replace hF := Option.bind_eq_some_iff.mp hF
    obtain ⟨v1, hv1, hF⟩ := hF
    refine V.iald ar_51 hv1 dX6_byteAt_13 ?_
    refine V.goto (tgt := 19) dX6_byteAt_14 (by decide) ?_
    cases Option.some.inj hF
    exact V.iret rfl dX6_byteAt_19 hK
theorem c_X6_byteAt {E : En} {d : Nat} {x1 : Int} {M : Mem} {z : Int}  (hd : 1 ≤ d) (hF : f_X6_byteAt x1 M = some z) : Cn E mX6_byteAt d [rf E 46, vi x1] M (fun v N => v = some (vi z) ∧ M = N) := by
  refine V.entry (by decide +kernel) (Nat.le_of_ble_eq_true rfl) ?_
  exact v_X6_byteAt_0  hd hF ⟨rfl, rfl⟩
abbrev mX6_fails : MI := (yX6_fails, cX6_fails, 2, none)
theorem okX6_fails : OKV mX6_fails 1 := ⟨gw_991, gw_27, gw_64, gw_992, (by decide +kernel), (by decide)⟩
def f_X6_fails (x1 : Int) (M : Mem) : Option (Mem) :=
  if wr (M 46 12) = 0 then
    (some (st M 46 12 x1)).bind fun M1 =>
    (some (st M1 46 13 (M1 46 15))).bind fun M2 =>
    some M2
  else
    some M
set_option maxRecDepth 10000 in
theorem v_X6_fails_0 {E : En} {d : Nat} {Q : Po} {x1 : Int} {M : Mem} {z : Mem}  (hd : 1 ≤ d) (hF : f_X6_fails x1 M = some z) (hK : Q none z) : V E mX6_fails d 0 [(0, rf E 46), (1, vi x1)] [] M Q := by
  unfold f_X6_fails at hF
  refine V.aload_n 0 0 0 rfl dX6_fails_0 rfl ?_
  refine V.get (by decide) (hcX6 E _) rfl inX6 12 (by decide) rfl gw_887 dX6_fails_1 ?_
  refine V.if_ne (tgt := 20) rfl dX6_fails_4 (by decide) (fun hc => ?_) (fun hc => ?_)
  · rw [if_neg hc] at hF
    cases Option.some.inj hF
    exact V.vret rfl dX6_fails_20 hK
  · rw [if_pos hc] at hF
    refine V.aload_n 0 0 0 rfl dX6_fails_7 rfl ?_
    refine V.iload_n 1 1 1 rfl dX6_fails_8 rfl ?_
    replace hF := Option.bind_eq_some_iff.mp hF
    obtain ⟨M1, hM1, hF⟩ := hF
    refine V.put (x := x1) (ty := .int) (Option.some.inj hM1) (by decide) (hcX6 E) rfl inX6 tyX6 tyX6_ok nmX6 (by decide) rfl (by decide +kernel) rfl rfl (Nat.le_of_ble_eq_true rfl) rfl gw_887 dX6_fails_9 ?_
    refine V.aload_n 0 0 0 rfl dX6_fails_12 rfl ?_
    refine V.aload_n 0 0 0 rfl dX6_fails_13 rfl ?_
    refine V.get (by decide) (hcX6 E _) rfl inX6 15 (by decide) rfl gw_890 dX6_fails_14 ?_
    replace hF := Option.bind_eq_some_iff.mp hF
    obtain ⟨M2, hM2, hF⟩ := hF
    refine V.put (x := M1 46 15) (ty := .int) (Option.some.inj hM2) (by decide) (hcX6 E) rfl inX6 tyX6 tyX6_ok nmX6 (by decide) rfl (by decide +kernel) rfl rfl (Nat.le_of_ble_eq_true rfl) rfl gw_888 dX6_fails_17 ?_
    cases Option.some.inj hF
    exact V.vret rfl dX6_fails_20 hK
theorem c_X6_fails {E : En} {d : Nat} {x1 : Int} {M : Mem} {z : Mem}  (hd : 1 ≤ d) (hF : f_X6_fails x1 M = some z) : Cn E mX6_fails d [rf E 46, vi x1] M (fun v N => v = none ∧ z = N) := by
  refine V.entry (by decide +kernel) (Nat.le_of_ble_eq_true rfl) ?_
  exact v_X6_fails_0  hd hF ⟨rfl, rfl⟩
abbrev mX6_wordHere : MI := (yX6_wordHere, cX6_wordHere, 4, (some .int))
theorem okX6_wordHere : OKV mX6_wordHere 0 := ⟨gw_999, gw_29, gw_64, gw_1000, (by decide +kernel), (by decide)⟩
def f_X6_wordHere_106 (n : Nat) (x1 : Int) (x2 : Int) (M : Mem) : Option ((Int) ⊕ (Int)) :=
  if wr x2 = 0 then
    some (.inl (x1 + 1))
  else
    some (.inr x1)
set_option maxRecDepth 10000 in
theorem v_X6_wordHere_106 {E : En} {d : Nat} {Q : Po} {n : Nat} {x1 : Int} {x2 : Int} {M : Mem} {z : (Int) ⊕ (Int)}  (hd : 2 ≤ d) (hF : f_X6_wordHere_106 n x1 x2 M = some z) (hC0 : ∀ s' : Int, z = (.inl s') → V E mX6_wordHere d 2 [(0, rf E 46), (1, vi (s'))] [] M Q) (hX : ∀ z0 : Int, z = (.inr z0) → Q (some (vi z0)) M) : V E mX6_wordHere d 106 [(0, rf E 46), (1, vi x1), (2, vi x2)] [] M Q := by
  unfold f_X6_wordHere_106 at hF
  refine V.iload_n 2 2 2 rfl dX6_wordHere_106 rfl ?_
  refine V.if_eq (tgt := 112) rfl dX6_wordHere_107 (by decide) (fun hc => ?_) (fun hc => ?_)
  · rw [if_pos hc] at hF
    refine V.iinc 1 1 1 [(1, vi (x1 + 1)), (0, rf E 46), (2, vi x2)] dX6_wordHere_112 rfl (by decide) rfl ?_
    refine V.goto (tgt := 2) dX6_wordHere_115 (by decide) ?_
    cases Option.some.inj hF
    refine V.sub _ [1, 0] rfl ?_
    exact hC0 _ rfl
  · rw [if_neg hc] at hF
    refine V.iload_n 1 1 1 rfl dX6_wordHere_110 rfl ?_
    cases Option.some.inj hF
    exact V.iret rfl dX6_wordHere_111 (hX _ rfl)
def f_X6_wordHere_99 (n : Nat) (x1 : Int) (x3 : Int) (s0 : Int) (M : Mem) : Option ((Int × Int) ⊕ ((Int) ⊕ (Int))) :=
  some (.inl (s0, x3 + 1))
set_option maxRecDepth 10000 in
theorem v_X6_wordHere_99 {E : En} {d : Nat} {Q : Po} {n : Nat} {x1 : Int} {x3 : Int} {s0 : Int} {M : Mem} {z : (Int × Int) ⊕ ((Int) ⊕ (Int))}  (hd : 2 ≤ d) (hF : f_X6_wordHere_99 n x1 x3 s0 M = some z) (hC0 : ∀ s' : Int × Int, z = (.inl s') → V E mX6_wordHere d 51 [(0, rf E 46), (1, vi x1), (2, vi (s'.1)), (3, vi (s'.2))] [] M Q) (hC1 : ∀ s' : Int, z = (.inr (.inl s')) → V E mX6_wordHere d 2 [(0, rf E 46), (1, vi (s'))] [] M Q) (hX : ∀ z0 : Int, z = (.inr (.inr z0)) → Q (some (vi z0)) M) : V E mX6_wordHere d 99 [(0, rf E 46), (1, vi x1), (3, vi x3)] [vi s0] M Q := by
  unfold f_X6_wordHere_99 at hF
  refine V.istore_n 2 2 [(2, vi s0), (0, rf E 46), (1, vi x1), (3, vi x3)] rfl dX6_wordHere_99 (by decide) rfl ?_
  refine V.iinc 3 3 1 [(3, vi (x3 + 1)), (2, vi s0), (0, rf E 46), (1, vi x1)] dX6_wordHere_100 rfl (by decide) rfl ?_
  refine V.goto (tgt := 51) dX6_wordHere_103 (by decide) ?_
  cases Option.some.inj hF
  refine V.sub _ [2, 3, 1, 0] rfl ?_
  exact hC0 _ rfl
def f_X6_wordHere_51 (n : Nat) (x1 : Int) (x2 : Int) (x3 : Int) (M : Mem) : Option ((Int × Int) ⊕ ((Int) ⊕ (Int))) :=
  if wr x2 = 0 then
    (f_X6_wordHere_106 n x1 x2 M).map Sum.inr
  else
    if wr ((M 46 14) - (M 46 15)) ≤ wr x3 then
      (f_X6_wordHere_106 n x1 x2 M).map Sum.inr
    else
      (f_X6_byteAt ((M 46 15) + x3) M).bind fun v1 =>
      (rd M 52 12 x1).bind fun v2 =>
      (rd M 53 54 (v2 + x3)).bind fun v3 =>
      if wr v1 = wr v3 then
        f_X6_wordHere_99 n x1 x3 1 M
      else
        f_X6_wordHere_99 n x1 x3 0 M
set_option maxRecDepth 10000 in
theorem v_X6_wordHere_51 {E : En} {d : Nat} {Q : Po} {n : Nat} {x1 : Int} {x2 : Int} {x3 : Int} {M : Mem} {z : (Int × Int) ⊕ ((Int) ⊕ (Int))}  (hd : 2 ≤ d) (hF : f_X6_wordHere_51 n x1 x2 x3 M = some z) (hC0 : ∀ s' : Int × Int, z = (.inl s') → V E mX6_wordHere d 51 [(0, rf E 46), (1, vi x1), (2, vi (s'.1)), (3, vi (s'.2))] [] M Q) (hC1 : ∀ s' : Int, z = (.inr (.inl s')) → V E mX6_wordHere d 2 [(0, rf E 46), (1, vi (s'))] [] M Q) (hX : ∀ z0 : Int, z = (.inr (.inr z0)) → Q (some (vi z0)) M) : V E mX6_wordHere d 51 [(0, rf E 46), (1, vi x1), (2, vi x2), (3, vi x3)] [] M Q := by
  unfold f_X6_wordHere_51 at hF
  refine V.iload_n 2 2 2 rfl dX6_wordHere_51 rfl ?_
  refine V.if_eq (tgt := 106) rfl dX6_wordHere_52 (by decide) (fun hc => ?_) (fun hc => ?_)
  · rw [if_pos hc] at hF
    replace hF := Option.map_eq_some_iff.mp hF
    obtain ⟨z0, hF, rfl⟩ := hF
    refine V.sub _ [0, 1, 2] rfl ?_
    exact v_X6_wordHere_106 hd hF (fun s' e => hC1 s' (congrArg Sum.inr e)) (fun z0 e => hX z0 (congrArg Sum.inr e))
  · rw [if_neg hc] at hF
    refine V.iload_n 3 3 3 rfl dX6_wordHere_55 rfl ?_
    refine V.aload_n 0 0 0 rfl dX6_wordHere_56 rfl ?_
    refine V.get (by decide) (hcX6 E _) rfl inX6 14 (by decide) rfl gw_889 dX6_wordHere_57 ?_
    refine V.aload_n 0 0 0 rfl dX6_wordHere_60 rfl ?_
    refine V.get (by decide) (hcX6 E _) rfl inX6 15 (by decide) rfl gw_890 dX6_wordHere_61 ?_
    refine V.isub dX6_wordHere_64 ?_
    refine V.icmp_ge (tgt := 106) rfl rfl dX6_wordHere_65 (by decide) (fun hc => ?_) (fun hc => ?_)
    · rw [if_pos hc] at hF
      replace hF := Option.map_eq_some_iff.mp hF
      obtain ⟨z0, hF, rfl⟩ := hF
      refine V.sub _ [0, 1, 2] rfl ?_
      exact v_X6_wordHere_106 hd hF (fun s' e => hC1 s' (congrArg Sum.inr e)) (fun z0 e => hX z0 (congrArg Sum.inr e))
    · rw [if_neg hc] at hF
      refine V.aload_n 0 0 0 rfl dX6_wordHere_68 rfl ?_
      refine V.aload_n 0 0 0 rfl dX6_wordHere_69 rfl ?_
      refine V.get (by decide) (hcX6 E _) rfl inX6 15 (by decide) rfl gw_890 dX6_wordHere_70 ?_
      refine V.iload_n 3 3 3 rfl dX6_wordHere_73 rfl ?_
      refine V.iadd dX6_wordHere_74 ?_
      replace hF := Option.bind_eq_some_iff.mp hF
      obtain ⟨v1, hv1, hF⟩ := hF
      refine V.callV (d' := d - 1) [vi ((M 46 15) + x3)] [] (c_X6_byteAt (by omega) hv1) okX6_byteAt gw_981 rfl rfl (by decide) (hcX6 E _) rfl (Nat.le_of_ble_eq_true rfl) (by omega) dX6_wordHere_75 ?_
      rintro _ _ ⟨rfl, rfl⟩
      show V E mX6_wordHere d 78 [(0, rf E 46), (1, vi x1), (2, vi x2), (3, vi x3)] [vi v1] M _
      refine V.aload_n 0 0 0 rfl dX6_wordHere_78 rfl ?_
      refine V.get (by decide) (hcX6 E _) rfl inX6 19 (by decide) rfl gw_894 dX6_wordHere_79 ?_
      refine V.aload_n 0 0 0 rfl dX6_wordHere_82 rfl ?_
      refine V.get (by decide) (hcX6 E _) rfl inX6 18 (by decide) rfl gw_893 dX6_wordHere_83 ?_
      refine V.iload_n 1 1 1 rfl dX6_wordHere_86 rfl ?_
      replace hF := Option.bind_eq_some_iff.mp hF
      obtain ⟨v2, hv2, hF⟩ := hF
      refine V.iald ar_52 hv2 dX6_wordHere_87 ?_
      refine V.iload_n 3 3 3 rfl dX6_wordHere_88 rfl ?_
      refine V.iadd dX6_wordHere_89 ?_
      replace hF := Option.bind_eq_some_iff.mp hF
      obtain ⟨v3, hv3, hF⟩ := hF
      refine V.iald ar_53 hv3 dX6_wordHere_90 ?_
      refine V.icmp_ne (tgt := 98) rfl rfl dX6_wordHere_91 (by decide) (fun hc => ?_) (fun hc => ?_)
      · rw [if_neg hc] at hF
        refine V.iconst 0 dX6_wordHere_98 ?_
        refine V.sub _ [0, 1, 3] rfl ?_
        exact v_X6_wordHere_99 hd hF hC0 hC1 hX
      · rw [if_pos hc] at hF
        refine V.iconst 1 dX6_wordHere_94 ?_
        refine V.goto (tgt := 99) dX6_wordHere_95 (by decide) ?_
        refine V.sub _ [0, 1, 3] rfl ?_
        exact v_X6_wordHere_99 hd hF hC0 hC1 hX
theorem l_X6_wordHere_51 {E : En} {d : Nat} {Q : Po} {n : Nat} {x1 : Int} {M : Mem} {k : Nat} {s : Int × Int} {z : (Int) ⊕ (Int)}  (hd : 2 ≤ d) (hF : lp (fun s => f_X6_wordHere_51 n x1 s.1 s.2 M) k s = some z) (hC0 : ∀ s' : Int, z = (.inl s') → V E mX6_wordHere d 2 [(0, rf E 46), (1, vi (s'))] [] M Q) (hX : ∀ z0 : Int, z = (.inr z0) → Q (some (vi z0)) M) : V E mX6_wordHere d 51 [(0, rf E 46), (1, vi x1), (2, vi s.1), (3, vi s.2)] [] M Q := by
  refine lp_ind (P := fun s => V E mX6_wordHere d 51 [(0, rf E 46), (1, vi x1), (2, vi s.1), (3, vi s.2)] [] M Q) (z0 := z) ?_ k s hF
  intro s z' hF hc hx
  exact v_X6_wordHere_51 hd hF (fun s' e => hc s' e) (fun s' e => hC0 s' (hx _ e).symm) (fun z0 e => hX z0 (hx _ e).symm)
def f_X6_wordHere_48 (n : Nat) (x1 : Int) (s0 : Int) (M : Mem) : Option ((Int) ⊕ (Int)) :=
  lp (fun s => f_X6_wordHere_51 n x1 s.1 s.2 M) n (s0, 0)
set_option maxRecDepth 10000 in
theorem v_X6_wordHere_48 {E : En} {d : Nat} {Q : Po} {n : Nat} {x1 : Int} {s0 : Int} {M : Mem} {z : (Int) ⊕ (Int)}  (hd : 2 ≤ d) (hF : f_X6_wordHere_48 n x1 s0 M = some z) (hC0 : ∀ s' : Int, z = (.inl s') → V E mX6_wordHere d 2 [(0, rf E 46), (1, vi (s'))] [] M Q) (hX : ∀ z0 : Int, z = (.inr z0) → Q (some (vi z0)) M) : V E mX6_wordHere d 48 [(0, rf E 46), (1, vi x1)] [vi s0] M Q := by
  unfold f_X6_wordHere_48 at hF
  refine V.istore_n 2 2 [(2, vi s0), (0, rf E 46), (1, vi x1)] rfl dX6_wordHere_48 (by decide) rfl ?_
  refine V.iconst 0 dX6_wordHere_49 ?_
  refine V.istore_n 3 3 [(3, vi 0), (2, vi s0), (0, rf E 46), (1, vi x1)] rfl dX6_wordHere_50 (by decide) rfl ?_
  refine V.sub _ [2, 3, 1, 0] rfl ?_
  exact l_X6_wordHere_51 hd hF hC0 hX
def f_X6_wordHere_2 (n : Nat) (x1 : Int) (M : Mem) : Option ((Int) ⊕ (Int)) :=
  if 11 ≤ wr x1 then
    some (.inr (-4))
  else
    if wr (M 46 16) = 1 then
      (rd M 52 12 (x1 + 1)).bind fun v1 =>
      (rd M 52 12 x1).bind fun v2 =>
      if wr ((M 46 14) - (M 46 15)) = wr (v1 - v2) then
        f_X6_wordHere_48 n x1 1 M
      else
        f_X6_wordHere_48 n x1 0 M
    else
      some (.inr (-4))
set_option maxRecDepth 10000 in
theorem v_X6_wordHere_2 {E : En} {d : Nat} {Q : Po} {n : Nat} {x1 : Int} {M : Mem} {z : (Int) ⊕ (Int)}  (hd : 2 ≤ d) (hF : f_X6_wordHere_2 n x1 M = some z) (hC0 : ∀ s' : Int, z = (.inl s') → V E mX6_wordHere d 2 [(0, rf E 46), (1, vi (s'))] [] M Q) (hX : ∀ z0 : Int, z = (.inr z0) → Q (some (vi z0)) M) : V E mX6_wordHere d 2 [(0, rf E 46), (1, vi x1)] [] M Q := by
  unfold f_X6_wordHere_2 at hF
  refine V.iload_n 1 1 1 rfl dX6_wordHere_2 rfl ?_
  refine V.bipush 11 11 (by decide) dX6_wordHere_3 ?_
  refine V.icmp_ge (tgt := 118) rfl wr_11 dX6_wordHere_5 (by decide) (fun hc => ?_) (fun hc => ?_)
  · rw [if_pos hc] at hF
    refine V.bipush (-4) (-4) (by decide) dX6_wordHere_118 ?_
    cases Option.some.inj hF
    exact V.iret rfl dX6_wordHere_120 (hX _ rfl)
  · rw [if_neg hc] at hF
    refine V.aload_n 0 0 0 rfl dX6_wordHere_8 rfl ?_
    refine V.get (by decide) (hcX6 E _) rfl inX6 16 (by decide) rfl gw_891 dX6_wordHere_9 ?_
    refine V.iconst 1 dX6_wordHere_12 ?_
    refine V.icmp_ne (tgt := 118) rfl wr_1 dX6_wordHere_13 (by decide) (fun hc => ?_) (fun hc => ?_)
    · rw [if_neg hc] at hF
      refine V.bipush (-4) (-4) (by decide) dX6_wordHere_118 ?_
      cases Option.some.inj hF
      exact V.iret rfl dX6_wordHere_120 (hX _ rfl)
    · rw [if_pos hc] at hF
      refine V.aload_n 0 0 0 rfl dX6_wordHere_16 rfl ?_
      refine V.get (by decide) (hcX6 E _) rfl inX6 14 (by decide) rfl gw_889 dX6_wordHere_17 ?_
      refine V.aload_n 0 0 0 rfl dX6_wordHere_20 rfl ?_
      refine V.get (by decide) (hcX6 E _) rfl inX6 15 (by decide) rfl gw_890 dX6_wordHere_21 ?_
      refine V.isub dX6_wordHere_24 ?_
      refine V.aload_n 0 0 0 rfl dX6_wordHere_25 rfl ?_
      refine V.get (by decide) (hcX6 E _) rfl inX6 18 (by decide) rfl gw_893 dX6_wordHere_26 ?_
      refine V.iload_n 1 1 1 rfl dX6_wordHere_29 rfl ?_
      refine V.iconst 1 dX6_wordHere_30 ?_
      refine V.iadd dX6_wordHere_31 ?_
      replace hF := Option.bind_eq_some_iff.mp hF
      obtain ⟨v1, hv1, hF⟩ := hF
      refine V.iald ar_52 hv1 dX6_wordHere_32 ?_
      refine V.aload_n 0 0 0 rfl dX6_wordHere_33 rfl ?_
      refine V.get (by decide) (hcX6 E _) rfl inX6 18 (by decide) rfl gw_893 dX6_wordHere_34 ?_
      refine V.iload_n 1 1 1 rfl dX6_wordHere_37 rfl ?_
      replace hF := Option.bind_eq_some_iff.mp hF
      obtain ⟨v2, hv2, hF⟩ := hF
      refine V.iald ar_52 hv2 dX6_wordHere_38 ?_
      refine V.isub dX6_wordHere_39 ?_
      refine V.icmp_ne (tgt := 47) rfl rfl dX6_wordHere_40 (by decide) (fun hc => ?_) (fun hc => ?_)
      · rw [if_neg hc] at hF
        refine V.iconst 0 dX6_wordHere_47 ?_
        exact v_X6_wordHere_48 hd hF hC0 hX
      · rw [if_pos hc] at hF
        refine V.iconst 1 dX6_wordHere_43 ?_
        refine V.goto (tgt := 48) dX6_wordHere_44 (by decide) ?_
        exact v_X6_wordHere_48 hd hF hC0 hX
theorem l_X6_wordHere_2 {E : En} {d : Nat} {Q : Po} {n : Nat} {M : Mem} {k : Nat} {s : Int} {z : Int}  (hd : 2 ≤ d) (hF : lp (fun s => f_X6_wordHere_2 n s M) k s = some z) (hK : Q (some (vi z)) M) : V E mX6_wordHere d 2 [(0, rf E 46), (1, vi s)] [] M Q := by
  refine lp_ind (P := fun s => V E mX6_wordHere d 2 [(0, rf E 46), (1, vi s)] [] M Q) (z0 := z) ?_ k s hF
  intro s z' hF hc hx
  exact v_X6_wordHere_2 hd hF (fun s' e => hc s' e) (fun z0 e => by rw [hx _ e]; exact hK)
def f_X6_wordHere (n : Nat) (M : Mem) : Option (Int) :=
  lp (fun s => f_X6_wordHere_2 n s M) n 0
set_option maxRecDepth 10000 in
theorem v_X6_wordHere_0 {E : En} {d : Nat} {Q : Po} {n : Nat} {M : Mem} {z : Int}  (hd : 2 ≤ d) (hF : f_X6_wordHere n M = some z) (hK : Q (some (vi z)) M) : V E mX6_wordHere d 0 [(0, rf E 46)] [] M Q := by
  unfold f_X6_wordHere at hF
  refine V.iconst 0 dX6_wordHere_0 ?_
  refine V.istore_n 1 1 [(1, vi 0), (0, rf E 46)] rfl dX6_wordHere_1 (by decide) rfl ?_
  refine V.sub _ [1, 0] rfl ?_
  exact l_X6_wordHere_2 hd hF hK
theorem c_X6_wordHere {E : En} {d : Nat} {n : Nat} {M : Mem} {z : Int}  (hd : 2 ≤ d) (hF : f_X6_wordHere n M = some z) : Cn E mX6_wordHere d [rf E 46] M (fun v N => v = some (vi z) ∧ M = N) := by
  refine V.entry (by decide +kernel) (Nat.le_of_ble_eq_true rfl) ?_
  exact v_X6_wordHere_0  hd hF ⟨rfl, rfl⟩
abbrev mX6_step : MI := (yX6_step, cX6_step, 2, none)
theorem okX6_step : OKV mX6_step 0 := ⟨gw_979, gw_25, gw_64, gw_980, (by decide +kernel), (by decide)⟩
def f_X6_step_217 (n : Nat) (M : Mem) : Option (Mem) :=
  (some (st M 46 16 2)).bind fun M1 =>
  if wr ((M1 46 14) - (M1 46 15)) ≤ 2 then
    some M1
  else
    (f_X6_fails 1 M1).bind fun M2 =>
    some M2
set_option maxRecDepth 10000 in
theorem v_X6_step_217 {E : En} {d : Nat} {Q : Po} {n : Nat} {M : Mem} {z : Mem}  (hd : 2 ≤ d) (hF : f_X6_step_217 n M = some z) (hK : Q none z) : V E mX6_step d 217 [(0, rf E 46)] [] M Q := by
  unfold f_X6_step_217 at hF
  refine V.aload_n 0 0 0 rfl dX6_step_217 rfl ?_
  refine V.iconst 2 dX6_step_218 ?_
  replace hF := Option.bind_eq_some_iff.mp hF
  obtain ⟨M1, hM1, hF⟩ := hF
  refine V.put (x := 2) (ty := .int) (Option.some.inj hM1) (by decide) (hcX6 E) rfl inX6 tyX6 tyX6_ok nmX6 (by decide) rfl (by decide +kernel) rfl rfl (Nat.le_of_ble_eq_true rfl) rfl gw_891 dX6_step_219 ?_
  refine V.aload_n 0 0 0 rfl dX6_step_222 rfl ?_
  refine V.get (by decide) (hcX6 E _) rfl inX6 14 (by decide) rfl gw_889 dX6_step_223 ?_
  refine V.aload_n 0 0 0 rfl dX6_step_226 rfl ?_
  refine V.get (by decide) (hcX6 E _) rfl inX6 15 (by decide) rfl gw_890 dX6_step_227 ?_
  refine V.isub dX6_step_230 ?_
  refine V.iconst 2 dX6_step_231 ?_
  refine V.icmp_le (tgt := 269) rfl wr_2 dX6_step_232 (by decide) (fun hc => ?_) (fun hc => ?_)
  · rw [if_pos hc] at hF
    cases Option.some.inj hF
    exact V.vret rfl dX6_step_269 hK
  · rw [if_neg hc] at hF
    refine V.aload_n 0 0 0 rfl dX6_step_235 rfl ?_
    refine V.iconst 1 dX6_step_236 ?_
    replace hF := Option.bind_eq_some_iff.mp hF
    obtain ⟨M2, hM2, hF⟩ := hF
    refine V.callV (d' := d - 1) [vi 1] [] (c_X6_fails (by omega) hM2) okX6_fails gw_989 rfl rfl (by decide) (hcX6 E _) rfl (Nat.le_of_ble_eq_true rfl) (by omega) dX6_step_237 ?_
    rintro _ _ ⟨rfl, rfl⟩
    show V E mX6_step d 240 [(0, rf E 46)] [] M2 _
    refine V.goto (tgt := 269) dX6_step_240 (by decide) ?_
    cases Option.some.inj hF
    exact V.vret rfl dX6_step_269 hK
def f_X6_step_201 (n : Nat) (s0 : Int) (M : Mem) : Option ((Mem) ⊕ (Mem)) :=
  (some (st M 46 17 s0)).bind fun M1 =>
  (some (st M1 46 14 ((M1 46 14) + 1))).bind fun M2 =>
  some (.inl M2)
set_option maxRecDepth 10000 in
theorem v_X6_step_201 {E : En} {d : Nat} {Q : Po} {n : Nat} {s0 : Int} {M : Mem} {z : (Mem) ⊕ (Mem)}  (hd : 2 ≤ d) (hF : f_X6_step_201 n s0 M = some z) (hC0 : ∀ s' : Mem, z = (.inl s') → V E mX6_step d 140 [(0, rf E 46)] [] s' Q) (hX : ∀ z0 : Mem, z = (.inr z0) → Q none z0) : V E mX6_step d 201 [(0, rf E 46)] [vi s0, rf E 46] M Q := by
  unfold f_X6_step_201 at hF
  replace hF := Option.bind_eq_some_iff.mp hF
  obtain ⟨M1, hM1, hF⟩ := hF
  refine V.put (x := s0) (ty := .int) (Option.some.inj hM1) (by decide) (hcX6 E) rfl inX6 tyX6 tyX6_ok nmX6 (by decide) rfl (by decide +kernel) rfl rfl (Nat.le_of_ble_eq_true rfl) rfl gw_892 dX6_step_201 ?_
  refine V.aload_n 0 0 0 rfl dX6_step_204 rfl ?_
  refine V.dup rfl dX6_step_205 ?_
  refine V.get (by decide) (hcX6 E _) rfl inX6 14 (by decide) rfl gw_889 dX6_step_206 ?_
  refine V.iconst 1 dX6_step_209 ?_
  refine V.iadd dX6_step_210 ?_
  replace hF := Option.bind_eq_some_iff.mp hF
  obtain ⟨M2, hM2, hF⟩ := hF
  refine V.put (x := (M1 46 14) + 1) (ty := .int) (Option.some.inj hM2) (by decide) (hcX6 E) rfl inX6 tyX6 tyX6_ok nmX6 (by decide) rfl (by decide +kernel) rfl rfl (Nat.le_of_ble_eq_true rfl) rfl gw_889 dX6_step_211 ?_
  refine V.goto (tgt := 140) dX6_step_214 (by decide) ?_
  cases Option.some.inj hF
  exact hC0 _ rfl
def f_X6_step_140 (n : Nat) (M : Mem) : Option ((Mem) ⊕ (Mem)) :=
  (f_X6_byteAt (M 46 14) M).bind fun v1 =>
  (f_X6_in (wr v1) 48 57 M).bind fun v2 =>
  if wr v2 = 0 then
    (f_X6_step_217 n M).map Sum.inr
  else
    if 2 ≤ wr ((M 46 14) - (M 46 15)) then
      f_X6_step_201 n (M 46 17) M
    else
      (f_X6_byteAt (M 46 14) M).bind fun v3 =>
      f_X6_step_201 n (((10 * (M 46 17)) + v3) - 48) M
set_option maxRecDepth 10000 in
theorem v_X6_step_140 {E : En} {d : Nat} {Q : Po} {n : Nat} {M : Mem} {z : (Mem) ⊕ (Mem)}  (hd : 2 ≤ d) (hF : f_X6_step_140 n M = some z) (hC0 : ∀ s' : Mem, z = (.inl s') → V E mX6_step d 140 [(0, rf E 46)] [] s' Q) (hX : ∀ z0 : Mem, z = (.inr z0) → Q none z0) : V E mX6_step d 140 [(0, rf E 46)] [] M Q := by
  unfold f_X6_step_140 at hF
  refine V.aload_n 0 0 0 rfl dX6_step_140 rfl ?_
  refine V.aload_n 0 0 0 rfl dX6_step_141 rfl ?_
  refine V.get (by decide) (hcX6 E _) rfl inX6 14 (by decide) rfl gw_889 dX6_step_142 ?_
  replace hF := Option.bind_eq_some_iff.mp hF
  obtain ⟨v1, hv1, hF⟩ := hF
  refine V.callV (d' := d - 1) [vi (M 46 14)] [] (c_X6_byteAt (by omega) hv1) okX6_byteAt gw_981 rfl rfl (by decide) (hcX6 E _) rfl (Nat.le_of_ble_eq_true rfl) (by omega) dX6_step_145 ?_
  rintro _ _ ⟨rfl, rfl⟩
  show V E mX6_step d 148 [(0, rf E 46)] [vi v1] M _
  refine V.i2l dX6_step_148 ?_
  refine V.ldc2 87 48 48 (by decide) gw_987 dX6_step_149 ?_
  refine V.ldc2 89 57 57 (by decide) gw_988 dX6_step_152 ?_
  replace hF := Option.bind_eq_some_iff.mp hF
  obtain ⟨v2, hv2, hF⟩ := hF
  refine V.callS (d' := d - 1) [vl (wr v1), vl 48, vl 57] [] (c_X6_in (by omega) hv2) okX6_in gw_966 rfl rfl (Nat.le_of_ble_eq_true rfl) (by omega) dX6_step_155 ?_
  rintro _ _ ⟨rfl, rfl⟩
  show V E mX6_step d 158 [(0, rf E 46)] [vi v2] M _
  refine V.if_eq (tgt := 217) rfl dX6_step_158 (by decide) (fun hc => ?_) (fun hc => ?_)
  · rw [if_pos hc] at hF
    replace hF := Option.map_eq_some_iff.mp hF
    obtain ⟨z0, hF, rfl⟩ := hF
    exact v_X6_step_217 hd hF (hX _ rfl)
  · rw [if_neg hc] at hF
    refine V.aload_n 0 0 0 rfl dX6_step_161 rfl ?_
    refine V.aload_n 0 0 0 rfl dX6_step_162 rfl ?_
    refine V.get (by decide) (hcX6 E _) rfl inX6 14 (by decide) rfl gw_889 dX6_step_163 ?_
    refine V.aload_n 0 0 0 rfl dX6_step_166 rfl ?_
    refine V.get (by decide) (hcX6 E _) rfl inX6 15 (by decide) rfl gw_890 dX6_step_167 ?_
    refine V.isub dX6_step_170 ?_
    refine V.iconst 2 dX6_step_171 ?_
    refine V.icmp_ge (tgt := 197) rfl wr_2 dX6_step_172 (by decide) (fun hc => ?_) (fun hc => ?_)
    · rw [if_pos hc] at hF
      refine V.aload_n 0 0 0 rfl dX6_step_197 rfl ?_
      refine V.get (by decide) (hcX6 E _) rfl inX6 17 (by decide) rfl gw_892 dX6_step_198 ?_
      exact v_X6_step_201 hd hF hC0 hX
    · rw [if_neg hc] at hF
      refine V.bipush 10 10 (by decide) dX6_step_175 ?_
      refine V.aload_n 0 0 0 rfl dX6_step_177 rfl ?_
      refine V.get (by decide) (hcX6 E _) rfl inX6 17 (by decide) rfl gw_892 dX6_step_178 ?_
      refine V.imul dX6_step_181 ?_
      refine V.aload_n 0 0 0 rfl dX6_step_182 rfl ?_
      refine V.aload_n 0 0 0 rfl dX6_step_183 rfl ?_
      refine V.get (by decide) (hcX6 E _) rfl inX6 14 (by decide) rfl gw_889 dX6_step_184 ?_
      replace hF := Option.bind_eq_some_iff.mp hF
      obtain ⟨v3, hv3, hF⟩ := hF
      refine V.callV (d' := d - 1) [vi (M 46 14)] [vi (10 * (M 46 17)), rf E 46] (c_X6_byteAt (by omega) hv3) okX6_byteAt gw_981 rfl rfl (by decide) (hcX6 E _) rfl (Nat.le_of_ble_eq_true rfl) (by omega) dX6_step_187 ?_
      rintro _ _ ⟨rfl, rfl⟩
      show V E mX6_step d 190 [(0, rf E 46)] [vi v3, vi (10 * (M 46 17)), rf E 46] M _
      refine V.iadd dX6_step_190 ?_
      refine V.bipush 48 48 (by decide) dX6_step_191 ?_
      refine V.isub dX6_step_193 ?_
      refine V.goto (tgt := 201) dX6_step_194 (by decide) ?_
      exact v_X6_step_201 hd hF hC0 hX
theorem l_X6_step_140 {E : En} {d : Nat} {Q : Po} {n : Nat} {k : Nat} {s : Mem} {z : Mem}  (hd : 2 ≤ d) (hF : lp (fun s => f_X6_step_140 n s) k s = some z) (hK : Q none z) : V E mX6_step d 140 [(0, rf E 46)] [] s Q := by
  refine lp_ind (P := fun s => V E mX6_step d 140 [(0, rf E 46)] [] s Q) (z0 := z) ?_ k s hF
  intro s z' hF hc hx
  exact v_X6_step_140 hd hF (fun s' e => hc s' e) (fun z0 e => by rw [hx _ e]; exact hK)
def f_X6_step_118 (n : Nat) (M : Mem) : Option (Mem) :=
  (some (st M 46 16 1)).bind fun M1 =>
  some M1
set_option maxRecDepth 10000 in
theorem v_X6_step_118 {E : En} {d : Nat} {Q : Po} {n : Nat} {M : Mem} {z : Mem}  (hd : 2 ≤ d) (hF : f_X6_step_118 n M = some z) (hK : Q none z) : V E mX6_step d 118 [(0, rf E 46)] [] M Q := by
  unfold f_X6_step_118 at hF
  refine V.aload_n 0 0 0 rfl dX6_step_118 rfl ?_
  refine V.iconst 1 dX6_step_119 ?_
  replace hF := Option.bind_eq_some_iff.mp hF
  obtain ⟨M1, hM1, hF⟩ := hF
  refine V.put (x := 1) (ty := .int) (Option.some.inj hM1) (by decide) (hcX6 E) rfl inX6 tyX6 tyX6_ok nmX6 (by decide) rfl (by decide +kernel) rfl rfl (Nat.le_of_ble_eq_true rfl) rfl gw_891 dX6_step_120 ?_
  refine V.goto (tgt := 269) dX6_step_123 (by decide) ?_
  cases Option.some.inj hF
  exact V.vret rfl dX6_step_269 hK
def f_X6_step_84 (n : Nat) (M : Mem) : Option ((Mem) ⊕ (Mem)) :=
  (f_X6_byteAt (M 46 14) M).bind fun v1 =>
  (f_X6_in (wr v1) 97 122 M).bind fun v2 =>
  if wr v2 = 0 then
    (f_X6_step_118 n M).map Sum.inr
  else
    (some (st M 46 14 ((M 46 14) + 1))).bind fun M3 =>
    some (.inl M3)
set_option maxRecDepth 10000 in
theorem v_X6_step_84 {E : En} {d : Nat} {Q : Po} {n : Nat} {M : Mem} {z : (Mem) ⊕ (Mem)}  (hd : 2 ≤ d) (hF : f_X6_step_84 n M = some z) (hC0 : ∀ s' : Mem, z = (.inl s') → V E mX6_step d 84 [(0, rf E 46)] [] s' Q) (hX : ∀ z0 : Mem, z = (.inr z0) → Q none z0) : V E mX6_step d 84 [(0, rf E 46)] [] M Q := by
  unfold f_X6_step_84 at hF
  refine V.aload_n 0 0 0 rfl dX6_step_84 rfl ?_
  refine V.aload_n 0 0 0 rfl dX6_step_85 rfl ?_
  refine V.get (by decide) (hcX6 E _) rfl inX6 14 (by decide) rfl gw_889 dX6_step_86 ?_
  replace hF := Option.bind_eq_some_iff.mp hF
  obtain ⟨v1, hv1, hF⟩ := hF
  refine V.callV (d' := d - 1) [vi (M 46 14)] [] (c_X6_byteAt (by omega) hv1) okX6_byteAt gw_981 rfl rfl (by decide) (hcX6 E _) rfl (Nat.le_of_ble_eq_true rfl) (by omega) dX6_step_89 ?_
  rintro _ _ ⟨rfl, rfl⟩
  show V E mX6_step d 92 [(0, rf E 46)] [vi v1] M _
  refine V.i2l dX6_step_92 ?_
  refine V.ldc2 83 97 97 (by decide) gw_985 dX6_step_93 ?_
  refine V.ldc2 85 122 122 (by decide) gw_986 dX6_step_96 ?_
  replace hF := Option.bind_eq_some_iff.mp hF
  obtain ⟨v2, hv2, hF⟩ := hF
  refine V.callS (d' := d - 1) [vl (wr v1), vl 97, vl 122] [] (c_X6_in (by omega) hv2) okX6_in gw_966 rfl rfl (Nat.le_of_ble_eq_true rfl) (by omega) dX6_step_99 ?_
  rintro _ _ ⟨rfl, rfl⟩
  show V E mX6_step d 102 [(0, rf E 46)] [vi v2] M _
  refine V.if_eq (tgt := 118) rfl dX6_step_102 (by decide) (fun hc => ?_) (fun hc => ?_)
  · rw [if_pos hc] at hF
    replace hF := Option.map_eq_some_iff.mp hF
    obtain ⟨z0, hF, rfl⟩ := hF
    exact v_X6_step_118 hd hF (hX _ rfl)
  · rw [if_neg hc] at hF
    refine V.aload_n 0 0 0 rfl dX6_step_105 rfl ?_
    refine V.dup rfl dX6_step_106 ?_
    refine V.get (by decide) (hcX6 E _) rfl inX6 14 (by decide) rfl gw_889 dX6_step_107 ?_
    refine V.iconst 1 dX6_step_110 ?_
    refine V.iadd dX6_step_111 ?_
    replace hF := Option.bind_eq_some_iff.mp hF
    obtain ⟨M3, hM3, hF⟩ := hF
    refine V.put (x := (M 46 14) + 1) (ty := .int) (Option.some.inj hM3) (by decide) (hcX6 E) rfl inX6 tyX6 tyX6_ok nmX6 (by decide) rfl (by decide +kernel) rfl rfl (Nat.le_of_ble_eq_true rfl) rfl gw_889 dX6_step_112 ?_
    refine V.goto (tgt := 84) dX6_step_115 (by decide) ?_
    cases Option.some.inj hF
    exact hC0 _ rfl
theorem l_X6_step_84 {E : En} {d : Nat} {Q : Po} {n : Nat} {k : Nat} {s : Mem} {z : Mem}  (hd : 2 ≤ d) (hF : lp (fun s => f_X6_step_84 n s) k s = some z) (hK : Q none z) : V E mX6_step d 84 [(0, rf E 46)] [] s Q := by
  refine lp_ind (P := fun s => V E mX6_step d 84 [(0, rf E 46)] [] s Q) (z0 := z) ?_ k s hF
  intro s z' hF hc hx
  exact v_X6_step_84 hd hF (fun s' e => hc s' e) (fun z0 e => by rw [hx _ e]; exact hK)
def f_X6_step_34 (n : Nat) (M : Mem) : Option (Mem) :=
  (some (st M 46 15 (M 46 14))).bind fun M1 =>
  (f_X6_byteAt (M1 46 14) M1).bind fun v2 =>
  (some (st M1 46 17 0)).bind fun M3 =>
  if wr v2 = (-4) then
    (some (st M3 46 16 0)).bind fun M9 =>
    some M9
  else
    (f_X6_in (wr v2) 97 122 M3).bind fun v4 =>
    if wr v4 = 0 then
      (f_X6_in (wr v2) 48 57 M3).bind fun v5 =>
      if wr v5 = 0 then
        (some (st M3 46 16 3)).bind fun M6 =>
        (some (st M6 46 14 ((M6 46 14) + 1))).bind fun M7 =>
        if wr v2 = 59 then
          some M7
        else
          (f_X6_fails 1 M7).bind fun M8 =>
          some M8
      else
        lp (fun s => f_X6_step_140 n s) n M3
    else
      lp (fun s => f_X6_step_84 n s) n M3
set_option maxRecDepth 10000 in
theorem v_X6_step_34 {E : En} {d : Nat} {Q : Po} {n : Nat} {M : Mem} {z : Mem}  (hd : 2 ≤ d) (hF : f_X6_step_34 n M = some z) (hK : Q none z) : V E mX6_step d 34 [(0, rf E 46)] [] M Q := by
  unfold f_X6_step_34 at hF
  refine V.aload_n 0 0 0 rfl dX6_step_34 rfl ?_
  refine V.aload_n 0 0 0 rfl dX6_step_35 rfl ?_
  refine V.get (by decide) (hcX6 E _) rfl inX6 14 (by decide) rfl gw_889 dX6_step_36 ?_
  replace hF := Option.bind_eq_some_iff.mp hF
  obtain ⟨M1, hM1, hF⟩ := hF
  refine V.put (x := M 46 14) (ty := .int) (Option.some.inj hM1) (by decide) (hcX6 E) rfl inX6 tyX6 tyX6_ok nmX6 (by decide) rfl (by decide +kernel) rfl rfl (Nat.le_of_ble_eq_true rfl) rfl gw_890 dX6_step_39 ?_
  refine V.aload_n 0 0 0 rfl dX6_step_42 rfl ?_
  refine V.aload_n 0 0 0 rfl dX6_step_43 rfl ?_
  refine V.get (by decide) (hcX6 E _) rfl inX6 14 (by decide) rfl gw_889 dX6_step_44 ?_
  replace hF := Option.bind_eq_some_iff.mp hF
  obtain ⟨v2, hv2, hF⟩ := hF
  refine V.callV (d' := d - 1) [vi (M1 46 14)] [] (c_X6_byteAt (by omega) hv2) okX6_byteAt gw_981 rfl rfl (by decide) (hcX6 E _) rfl (Nat.le_of_ble_eq_true rfl) (by omega) dX6_step_47 ?_
  rintro _ _ ⟨rfl, rfl⟩
  show V E mX6_step d 50 [(0, rf E 46)] [vi v2] M1 _
  refine V.istore_n 1 1 [(1, vi v2), (0, rf E 46)] rfl dX6_step_50 (by decide) rfl ?_
  refine V.aload_n 0 0 1 rfl dX6_step_51 rfl ?_
  refine V.iconst 0 dX6_step_52 ?_
  replace hF := Option.bind_eq_some_iff.mp hF
  obtain ⟨M3, hM3, hF⟩ := hF
  refine V.put (x := 0) (ty := .int) (Option.some.inj hM3) (by decide) (hcX6 E) rfl inX6 tyX6 tyX6_ok nmX6 (by decide) rfl (by decide +kernel) rfl rfl (Nat.le_of_ble_eq_true rfl) rfl gw_892 dX6_step_53 ?_
  refine V.iload_n 1 1 0 rfl dX6_step_56 rfl ?_
  refine V.bipush (-4) (-4) (by decide) dX6_step_57 ?_
  refine V.icmp_ne (tgt := 70) rfl wr_m4 dX6_step_59 (by decide) (fun hc => ?_) (fun hc => ?_)
  · rw [if_neg hc] at hF
    refine V.iload_n 1 1 0 rfl dX6_step_70 rfl ?_
    refine V.i2l dX6_step_71 ?_
    refine V.ldc2 83 97 97 (by decide) gw_985 dX6_step_72 ?_
    refine V.ldc2 85 122 122 (by decide) gw_986 dX6_step_75 ?_
    replace hF := Option.bind_eq_some_iff.mp hF
    obtain ⟨v4, hv4, hF⟩ := hF
    refine V.callS (d' := d - 1) [vl (wr v2), vl 97, vl 122] [] (c_X6_in (by omega) hv4) okX6_in gw_966 rfl rfl (Nat.le_of_ble_eq_true rfl) (by omega) dX6_step_78 ?_
    rintro _ _ ⟨rfl, rfl⟩
    show V E mX6_step d 81 [(1, vi v2), (0, rf E 46)] [vi v4] M3 _
    refine V.if_eq (tgt := 126) rfl dX6_step_81 (by decide) (fun hc => ?_) (fun hc => ?_)
    · rw [if_pos hc] at hF
      refine V.iload_n 1 1 0 rfl dX6_step_126 rfl ?_
      refine V.i2l dX6_step_127 ?_
      refine V.ldc2 87 48 48 (by decide) gw_987 dX6_step_128 ?_
      refine V.ldc2 89 57 57 (by decide) gw_988 dX6_step_131 ?_
      replace hF := Option.bind_eq_some_iff.mp hF
      obtain ⟨v5, hv5, hF⟩ := hF
      refine V.callS (d' := d - 1) [vl (wr v2), vl 48, vl 57] [] (c_X6_in (by omega) hv5) okX6_in gw_966 rfl rfl (Nat.le_of_ble_eq_true rfl) (by omega) dX6_step_134 ?_
      rintro _ _ ⟨rfl, rfl⟩
      show V E mX6_step d 137 [(1, vi v2), (0, rf E 46)] [vi v5] M3 _
      refine V.if_eq (tgt := 243) rfl dX6_step_137 (by decide) (fun hc => ?_) (fun hc => ?_)
      · rw [if_pos hc] at hF
        refine V.aload_n 0 0 1 rfl dX6_step_243 rfl ?_
        refine V.iconst 3 dX6_step_244 ?_
        replace hF := Option.bind_eq_some_iff.mp hF
        obtain ⟨M6, hM6, hF⟩ := hF
        refine V.put (x := 3) (ty := .int) (Option.some.inj hM6) (by decide) (hcX6 E) rfl inX6 tyX6 tyX6_ok nmX6 (by decide) rfl (by decide +kernel) rfl rfl (Nat.le_of_ble_eq_true rfl) rfl gw_891 dX6_step_245 ?_
        refine V.aload_n 0 0 1 rfl dX6_step_248 rfl ?_
        refine V.dup rfl dX6_step_249 ?_
        refine V.get (by decide) (hcX6 E _) rfl inX6 14 (by decide) rfl gw_889 dX6_step_250 ?_
        refine V.iconst 1 dX6_step_253 ?_
        refine V.iadd dX6_step_254 ?_
        replace hF := Option.bind_eq_some_iff.mp hF
        obtain ⟨M7, hM7, hF⟩ := hF
        refine V.put (x := (M6 46 14) + 1) (ty := .int) (Option.some.inj hM7) (by decide) (hcX6 E) rfl inX6 tyX6 tyX6_ok nmX6 (by decide) rfl (by decide +kernel) rfl rfl (Nat.le_of_ble_eq_true rfl) rfl gw_889 dX6_step_255 ?_
        refine V.iload_n 1 1 0 rfl dX6_step_258 rfl ?_
        refine V.bipush 59 59 (by decide) dX6_step_259 ?_
        refine V.icmp_eq (tgt := 269) rfl wr_59 dX6_step_261 (by decide) (fun hc => ?_) (fun hc => ?_)
        · rw [if_pos hc] at hF
          cases Option.some.inj hF
          exact V.vret rfl dX6_step_269 hK
        · rw [if_neg hc] at hF
          refine V.aload_n 0 0 1 rfl dX6_step_264 rfl ?_
          refine V.iconst 1 dX6_step_265 ?_
          replace hF := Option.bind_eq_some_iff.mp hF
          obtain ⟨M8, hM8, hF⟩ := hF
          refine V.callV (d' := d - 1) [vi 1] [] (c_X6_fails (by omega) hM8) okX6_fails gw_989 rfl rfl (by decide) (hcX6 E _) rfl (Nat.le_of_ble_eq_true rfl) (by omega) dX6_step_266 ?_
          rintro _ _ ⟨rfl, rfl⟩
          show V E mX6_step d 269 [(1, vi v2), (0, rf E 46)] [] M8 _
          cases Option.some.inj hF
          exact V.vret rfl dX6_step_269 hK
      · rw [if_neg hc] at hF
        refine V.sub _ [1] rfl ?_
        exact l_X6_step_140 hd hF hK
    · rw [if_neg hc] at hF
      refine V.sub _ [1] rfl ?_
      exact l_X6_step_84 hd hF hK
  · rw [if_pos hc] at hF
    refine V.aload_n 0 0 1 rfl dX6_step_62 rfl ?_
    refine V.iconst 0 dX6_step_63 ?_
    replace hF := Option.bind_eq_some_iff.mp hF
    obtain ⟨M9, hM9, hF⟩ := hF
    refine V.put (x := 0) (ty := .int) (Option.some.inj hM9) (by decide) (hcX6 E) rfl inX6 tyX6 tyX6_ok nmX6 (by decide) rfl (by decide +kernel) rfl rfl (Nat.le_of_ble_eq_true rfl) rfl gw_891 dX6_step_64 ?_
    refine V.goto (tgt := 269) dX6_step_67 (by decide) ?_
    cases Option.some.inj hF
    exact V.vret rfl dX6_step_269 hK
def f_X6_step_8 (n : Nat) (M : Mem) : Option ((Mem) ⊕ (Mem)) :=
  (f_X6_byteAt (M 46 14) M).bind fun v1 =>
  if wr v1 = 32 then
    (some (st M 46 14 ((M 46 14) + 1))).bind fun M2 =>
    some (.inl M2)
  else
    (f_X6_step_34 n M).map Sum.inr
set_option maxRecDepth 10000 in
theorem v_X6_step_8 {E : En} {d : Nat} {Q : Po} {n : Nat} {M : Mem} {z : (Mem) ⊕ (Mem)}  (hd : 2 ≤ d) (hF : f_X6_step_8 n M = some z) (hC0 : ∀ s' : Mem, z = (.inl s') → V E mX6_step d 8 [(0, rf E 46)] [] s' Q) (hX : ∀ z0 : Mem, z = (.inr z0) → Q none z0) : V E mX6_step d 8 [(0, rf E 46)] [] M Q := by
  unfold f_X6_step_8 at hF
  refine V.aload_n 0 0 0 rfl dX6_step_8 rfl ?_
  refine V.aload_n 0 0 0 rfl dX6_step_9 rfl ?_
  refine V.get (by decide) (hcX6 E _) rfl inX6 14 (by decide) rfl gw_889 dX6_step_10 ?_
  replace hF := Option.bind_eq_some_iff.mp hF
  obtain ⟨v1, hv1, hF⟩ := hF
  refine V.callV (d' := d - 1) [vi (M 46 14)] [] (c_X6_byteAt (by omega) hv1) okX6_byteAt gw_981 rfl rfl (by decide) (hcX6 E _) rfl (Nat.le_of_ble_eq_true rfl) (by omega) dX6_step_13 ?_
  rintro _ _ ⟨rfl, rfl⟩
  show V E mX6_step d 16 [(0, rf E 46)] [vi v1] M _
  refine V.bipush 32 32 (by decide) dX6_step_16 ?_
  refine V.icmp_ne (tgt := 34) rfl wr_32 dX6_step_18 (by decide) (fun hc => ?_) (fun hc => ?_)
  · rw [if_neg hc] at hF
    replace hF := Option.map_eq_some_iff.mp hF
    obtain ⟨z0, hF, rfl⟩ := hF
    exact v_X6_step_34 hd hF (hX _ rfl)
  · rw [if_pos hc] at hF
    refine V.aload_n 0 0 0 rfl dX6_step_21 rfl ?_
    refine V.dup rfl dX6_step_22 ?_
    refine V.get (by decide) (hcX6 E _) rfl inX6 14 (by decide) rfl gw_889 dX6_step_23 ?_
    refine V.iconst 1 dX6_step_26 ?_
    refine V.iadd dX6_step_27 ?_
    replace hF := Option.bind_eq_some_iff.mp hF
    obtain ⟨M2, hM2, hF⟩ := hF
    refine V.put (x := (M 46 14) + 1) (ty := .int) (Option.some.inj hM2) (by decide) (hcX6 E) rfl inX6 tyX6 tyX6_ok nmX6 (by decide) rfl (by decide +kernel) rfl rfl (Nat.le_of_ble_eq_true rfl) rfl gw_889 dX6_step_28 ?_
    refine V.goto (tgt := 8) dX6_step_31 (by decide) ?_
    cases Option.some.inj hF
    exact hC0 _ rfl
theorem l_X6_step_8 {E : En} {d : Nat} {Q : Po} {n : Nat} {k : Nat} {s : Mem} {z : Mem}  (hd : 2 ≤ d) (hF : lp (fun s => f_X6_step_8 n s) k s = some z) (hK : Q none z) : V E mX6_step d 8 [(0, rf E 46)] [] s Q := by
  refine lp_ind (P := fun s => V E mX6_step d 8 [(0, rf E 46)] [] s Q) (z0 := z) ?_ k s hF
  intro s z' hF hc hx
  exact v_X6_step_8 hd hF (fun s' e => hc s' e) (fun z0 e => by rw [hx _ e]; exact hK)
def f_X6_step (n : Nat) (M : Mem) : Option (Mem) :=
  if wr (M 46 12) ≤ 0 then
    lp (fun s => f_X6_step_8 n s) n M
  else
    some M
set_option maxRecDepth 10000 in
theorem v_X6_step_0 {E : En} {d : Nat} {Q : Po} {n : Nat} {M : Mem} {z : Mem}  (hd : 2 ≤ d) (hF : f_X6_step n M = some z) (hK : Q none z) : V E mX6_step d 0 [(0, rf E 46)] [] M Q := by
  unfold f_X6_step at hF
  refine V.aload_n 0 0 0 rfl dX6_step_0 rfl ?_
  refine V.get (by decide) (hcX6 E _) rfl inX6 12 (by decide) rfl gw_887 dX6_step_1 ?_
  refine V.if_le (tgt := 8) rfl dX6_step_4 (by decide) (fun hc => ?_) (fun hc => ?_)
  · rw [if_pos hc] at hF
    exact l_X6_step_8 hd hF hK
  · rw [if_neg hc] at hF
    cases Option.some.inj hF
    exact V.vret rfl dX6_step_7 hK
theorem c_X6_step {E : En} {d : Nat} {n : Nat} {M : Mem} {z : Mem}  (hd : 2 ≤ d) (hF : f_X6_step n M = some z) : Cn E mX6_step d [rf E 46] M (fun v N => v = none ∧ z = N) := by
  refine V.entry (by decide +kernel) (Nat.le_of_ble_eq_true rfl) ?_
  exact v_X6_step_0  hd hF ⟨rfl, rfl⟩
abbrev mX6_number : MI := (yX6_number, cX6_number, 4, (some .int))
theorem okX6_number : OKV mX6_number 2 := ⟨gw_1004, gw_30, gw_64, gw_1005, (by decide +kernel), (by decide)⟩
def f_X6_number_62 (n : Nat) (s0 : Int) (M : Mem) : Option (Int × Mem) :=
  (f_X6_step n M).bind fun M1 =>
  some (s0, M1)
set_option maxRecDepth 10000 in
theorem v_X6_number_62 {E : En} {d : Nat} {Q : Po} {n : Nat} {s0 : Int} {M : Mem} {z : Int × Mem}  (hd : 3 ≤ d) (hF : f_X6_number_62 n s0 M = some z) (hK : Q (some (vi z.1)) z.2) : V E mX6_number d 62 [(0, rf E 46)] [vi s0] M Q := by
  unfold f_X6_number_62 at hF
  refine V.istore_n 3 3 [(3, vi s0), (0, rf E 46)] rfl dX6_number_62 (by decide) rfl ?_
  refine V.aload_n 0 0 1 rfl dX6_number_63 rfl ?_
  replace hF := Option.bind_eq_some_iff.mp hF
  obtain ⟨M1, hM1, hF⟩ := hF
  refine V.callV (d' := d - 1) [] [] (c_X6_step (by omega) hM1) okX6_step gw_977 rfl rfl (by decide) (hcX6 E _) rfl (Nat.le_of_ble_eq_true rfl) (by omega) dX6_number_64 ?_
  rintro _ _ ⟨rfl, rfl⟩
  show V E mX6_number d 67 [(3, vi s0), (0, rf E 46)] [] M1 _
  refine V.iload_n 3 3 0 rfl dX6_number_67 rfl ?_
  cases Option.some.inj hF
  exact V.iret rfl dX6_number_68 hK
def f_X6_number_47 (n : Nat) (x1 : Int) (M : Mem) : Option (Int × Mem) :=
  if wr (M 46 12) = 0 then
    f_X6_number_62 n (M 46 17) M
  else
    f_X6_number_62 n x1 M
set_option maxRecDepth 10000 in
theorem v_X6_number_47 {E : En} {d : Nat} {Q : Po} {n : Nat} {x1 : Int} {M : Mem} {z : Int × Mem}  (hd : 3 ≤ d) (hF : f_X6_number_47 n x1 M = some z) (hK : Q (some (vi z.1)) z.2) : V E mX6_number d 47 [(0, rf E 46), (1, vi x1)] [] M Q := by
  unfold f_X6_number_47 at hF
  refine V.aload_n 0 0 0 rfl dX6_number_47 rfl ?_
  refine V.get (by decide) (hcX6 E _) rfl inX6 12 (by decide) rfl gw_887 dX6_number_48 ?_
  refine V.if_ne (tgt := 61) rfl dX6_number_51 (by decide) (fun hc => ?_) (fun hc => ?_)
  · rw [if_neg hc] at hF
    refine V.iload_n 1 1 1 rfl dX6_number_61 rfl ?_
    refine V.sub _ [0] rfl ?_
    exact v_X6_number_62 hd hF hK
  · rw [if_pos hc] at hF
    refine V.aload_n 0 0 0 rfl dX6_number_54 rfl ?_
    refine V.get (by decide) (hcX6 E _) rfl inX6 17 (by decide) rfl gw_892 dX6_number_55 ?_
    refine V.goto (tgt := 62) dX6_number_58 (by decide) ?_
    refine V.sub _ [0] rfl ?_
    exact v_X6_number_62 hd hF hK
def f_X6_number_20 (n : Nat) (x1 : Int) (x2 : Int) (M : Mem) : Option (Int × Mem) :=
  if wr (M 46 12) = 0 then
    (f_X6_in (wr (M 46 17)) (wr x1) (wr x2) M).bind fun v1 =>
    if wr v1 = 0 then
      (f_X6_fails 3 M).bind fun M2 =>
      f_X6_number_47 n x1 M2
    else
      f_X6_number_47 n x1 M
  else
    f_X6_number_47 n x1 M
set_option maxRecDepth 10000 in
theorem v_X6_number_20 {E : En} {d : Nat} {Q : Po} {n : Nat} {x1 : Int} {x2 : Int} {M : Mem} {z : Int × Mem}  (hd : 3 ≤ d) (hF : f_X6_number_20 n x1 x2 M = some z) (hK : Q (some (vi z.1)) z.2) : V E mX6_number d 20 [(0, rf E 46), (1, vi x1), (2, vi x2)] [] M Q := by
  unfold f_X6_number_20 at hF
  refine V.aload_n 0 0 0 rfl dX6_number_20 rfl ?_
  refine V.get (by decide) (hcX6 E _) rfl inX6 12 (by decide) rfl gw_887 dX6_number_21 ?_
  refine V.if_ne (tgt := 47) rfl dX6_number_24 (by decide) (fun hc => ?_) (fun hc => ?_)
  · rw [if_neg hc] at hF
    refine V.sub _ [0, 1] rfl ?_
    exact v_X6_number_47 hd hF hK
  · rw [if_pos hc] at hF
    refine V.aload_n 0 0 0 rfl dX6_number_27 rfl ?_
    refine V.get (by decide) (hcX6 E _) rfl inX6 17 (by decide) rfl gw_892 dX6_number_28 ?_
    refine V.i2l dX6_number_31 ?_
    refine V.iload_n 1 1 1 rfl dX6_number_32 rfl ?_
    refine V.i2l dX6_number_33 ?_
    refine V.iload_n 2 2 2 rfl dX6_number_34 rfl ?_
    refine V.i2l dX6_number_35 ?_
    replace hF := Option.bind_eq_some_iff.mp hF
    obtain ⟨v1, hv1, hF⟩ := hF
    refine V.callS (d' := d - 1) [vl (wr (M 46 17)), vl (wr x1), vl (wr x2)] [] (c_X6_in (by omega) hv1) okX6_in gw_966 rfl rfl (Nat.le_of_ble_eq_true rfl) (by omega) dX6_number_36 ?_
    rintro _ _ ⟨rfl, rfl⟩
    show V E mX6_number d 39 [(0, rf E 46), (1, vi x1), (2, vi x2)] [vi v1] M _
    refine V.if_ne (tgt := 47) rfl dX6_number_39 (by decide) (fun hc => ?_) (fun hc => ?_)
    · rw [if_neg hc] at hF
      refine V.sub _ [0, 1] rfl ?_
      exact v_X6_number_47 hd hF hK
    · rw [if_pos hc] at hF
      refine V.aload_n 0 0 0 rfl dX6_number_42 rfl ?_
      refine V.iconst 3 dX6_number_43 ?_
      replace hF := Option.bind_eq_some_iff.mp hF
      obtain ⟨M2, hM2, hF⟩ := hF
      refine V.callV (d' := d - 1) [vi 3] [] (c_X6_fails (by omega) hM2) okX6_fails gw_989 rfl rfl (by decide) (hcX6 E _) rfl (Nat.le_of_ble_eq_true rfl) (by omega) dX6_number_44 ?_
      rintro _ _ ⟨rfl, rfl⟩
      show V E mX6_number d 47 [(0, rf E 46), (1, vi x1), (2, vi x2)] [] M2 _
      refine V.sub _ [0, 1] rfl ?_
      exact v_X6_number_47 hd hF hK
def f_X6_number (n : Nat) (x1 : Int) (x2 : Int) (M : Mem) : Option (Int × Mem) :=
  if wr (M 46 12) = 0 then
    if wr (M 46 16) = 2 then
      f_X6_number_20 n x1 x2 M
    else
      (f_X6_fails 2 M).bind fun M1 =>
      f_X6_number_20 n x1 x2 M1
  else
    f_X6_number_20 n x1 x2 M
set_option maxRecDepth 10000 in
theorem v_X6_number_0 {E : En} {d : Nat} {Q : Po} {n : Nat} {x1 : Int} {x2 : Int} {M : Mem} {z : Int × Mem}  (hd : 3 ≤ d) (hF : f_X6_number n x1 x2 M = some z) (hK : Q (some (vi z.1)) z.2) : V E mX6_number d 0 [(0, rf E 46), (1, vi x1), (2, vi x2)] [] M Q := by
  unfold f_X6_number at hF
  refine V.aload_n 0 0 0 rfl dX6_number_0 rfl ?_
  refine V.get (by decide) (hcX6 E _) rfl inX6 12 (by decide) rfl gw_887 dX6_number_1 ?_
  refine V.if_ne (tgt := 20) rfl dX6_number_4 (by decide) (fun hc => ?_) (fun hc => ?_)
  · rw [if_neg hc] at hF
    exact v_X6_number_20 hd hF hK
  · rw [if_pos hc] at hF
    refine V.aload_n 0 0 0 rfl dX6_number_7 rfl ?_
    refine V.get (by decide) (hcX6 E _) rfl inX6 16 (by decide) rfl gw_891 dX6_number_8 ?_
    refine V.iconst 2 dX6_number_11 ?_
    refine V.icmp_eq (tgt := 20) rfl wr_2 dX6_number_12 (by decide) (fun hc => ?_) (fun hc => ?_)
    · rw [if_pos hc] at hF
      exact v_X6_number_20 hd hF hK
    · rw [if_neg hc] at hF
      refine V.aload_n 0 0 0 rfl dX6_number_15 rfl ?_
      refine V.iconst 2 dX6_number_16 ?_
      replace hF := Option.bind_eq_some_iff.mp hF
      obtain ⟨M1, hM1, hF⟩ := hF
      refine V.callV (d' := d - 1) [vi 2] [] (c_X6_fails (by omega) hM1) okX6_fails gw_989 rfl rfl (by decide) (hcX6 E _) rfl (Nat.le_of_ble_eq_true rfl) (by omega) dX6_number_17 ?_
      rintro _ _ ⟨rfl, rfl⟩
      show V E mX6_number d 20 [(0, rf E 46), (1, vi x1), (2, vi x2)] [] M1 _
      exact v_X6_number_20 hd hF hK
theorem c_X6_number {E : En} {d : Nat} {n : Nat} {x1 : Int} {x2 : Int} {M : Mem} {zr : Int} {zM : Mem}  (hd : 3 ≤ d) (hF : f_X6_number n x1 x2 M = some (zr, zM)) : Cn E mX6_number d [rf E 46, vi x1, vi x2] M (fun v N => v = some (vi zr) ∧ zM = N) := by
  refine V.entry (by decide +kernel) (Nat.le_of_ble_eq_true rfl) ?_
  exact v_X6_number_0  hd hF ⟨rfl, rfl⟩
abbrev mX6_readDream : MI := (yX6_readDream, cX6_readDream, 4, none)
theorem okX6_readDream : OKV mX6_readDream 0 := ⟨gw_1008, gw_31, gw_64, gw_1009, (by decide +kernel), (by decide)⟩
def f_X6_readDream_110 (n : Nat) (x1 : Int) (x2 : Int) (M : Mem) : Option (Mem) :=
  if wr x1 = 0 then
    (f_X6_fails 3 M).bind fun M7 =>
    some M7
  else
    (wt M 50 4 (M 46 7) x2).bind fun M1 =>
    (f_X6_step n M1).bind fun M2 =>
    (f_X6_number n 1 9 M2).bind fun (v3, M4) =>
    (wt M4 49 25 (8 + (M2 46 7)) v3).bind fun M5 =>
    (some (st M5 46 7 ((M5 46 7) + 1))).bind fun M6 =>
    some M6
set_option maxRecDepth 10000 in
theorem v_X6_readDream_110 {E : En} {d : Nat} {Q : Po} {n : Nat} {x1 : Int} {x2 : Int} {M : Mem} {z : Mem}  (hd : 4 ≤ d) (hF : f_X6_readDream_110 n x1 x2 M = some z) (hK : Q none z) : V E mX6_readDream d 110 [(0, rf E 46), (1, vi x1), (2, vi x2)] [] M Q := by
  unfold f_X6_readDream_110 at hF
  refine V.iload_n 1 1 1 rfl dX6_readDream_110 rfl ?_
  refine V.if_ne (tgt := 120) rfl dX6_readDream_111 (by decide) (fun hc => ?_) (fun hc => ?_)
  · rw [if_neg hc] at hF
    refine V.aload_n 0 0 0 rfl dX6_readDream_120 rfl ?_
    refine V.get (by decide) (hcX6 E _) rfl inX6 5 (by decide) rfl gw_880 dX6_readDream_121 ?_
    refine V.aload_n 0 0 0 rfl dX6_readDream_124 rfl ?_
    refine V.get (by decide) (hcX6 E _) rfl inX6 7 (by decide) rfl gw_882 dX6_readDream_125 ?_
    refine V.iload_n 2 2 2 rfl dX6_readDream_128 rfl ?_
    replace hF := Option.bind_eq_some_iff.mp hF
    obtain ⟨M1, hM1, hF⟩ := hF
    refine V.iast ar_50 hM1 dX6_readDream_129 ?_
    refine V.aload_n 0 0 0 rfl dX6_readDream_130 rfl ?_
    replace hF := Option.bind_eq_some_iff.mp hF
    obtain ⟨M2, hM2, hF⟩ := hF
    refine V.callV (d' := d - 1) [] [] (c_X6_step (by omega) hM2) okX6_step gw_977 rfl rfl (by decide) (hcX6 E _) rfl (Nat.le_of_ble_eq_true rfl) (by omega) dX6_readDream_131 ?_
    rintro _ _ ⟨rfl, rfl⟩
    show V E mX6_readDream d 134 [(0, rf E 46), (1, vi x1), (2, vi x2)] [] M2 _
    refine V.aload_n 0 0 0 rfl dX6_readDream_134 rfl ?_
    refine V.get (by decide) (hcX6 E _) rfl inX6 4 (by decide) rfl gw_879 dX6_readDream_135 ?_
    refine V.bipush 8 8 (by decide) dX6_readDream_138 ?_
    refine V.aload_n 0 0 0 rfl dX6_readDream_140 rfl ?_
    refine V.get (by decide) (hcX6 E _) rfl inX6 7 (by decide) rfl gw_882 dX6_readDream_141 ?_
    refine V.iadd dX6_readDream_144 ?_
    refine V.aload_n 0 0 0 rfl dX6_readDream_145 rfl ?_
    refine V.iconst 1 dX6_readDream_146 ?_
    refine V.bipush 9 9 (by decide) dX6_readDream_147 ?_
    replace hF := Option.bind_eq_some_iff.mp hF
    obtain ⟨⟨v3, M4⟩, hv3, hF⟩ := hF
    dsimp only at hF
    refine V.callV (d' := d - 1) [vi 1, vi 9] [vi (8 + (M2 46 7)), rf E 49] (c_X6_number (by omega) hv3) okX6_number gw_1002 rfl rfl (by decide) (hcX6 E _) rfl (Nat.le_of_ble_eq_true rfl) (by omega) dX6_readDream_149 ?_
    rintro _ _ ⟨rfl, rfl⟩
    show V E mX6_readDream d 152 [(0, rf E 46), (1, vi x1), (2, vi x2)] [vi v3, vi (8 + (M2 46 7)), rf E 49] M4 _
    replace hF := Option.bind_eq_some_iff.mp hF
    obtain ⟨M5, hM5, hF⟩ := hF
    refine V.iast ar_49 hM5 dX6_readDream_152 ?_
    refine V.aload_n 0 0 0 rfl dX6_readDream_153 rfl ?_
    refine V.dup rfl dX6_readDream_154 ?_
    refine V.get (by decide) (hcX6 E _) rfl inX6 7 (by decide) rfl gw_882 dX6_readDream_155 ?_
    refine V.iconst 1 dX6_readDream_158 ?_
    refine V.iadd dX6_readDream_159 ?_
    replace hF := Option.bind_eq_some_iff.mp hF
    obtain ⟨M6, hM6, hF⟩ := hF
    refine V.put (x := (M5 46 7) + 1) (ty := .int) (Option.some.inj hM6) (by decide) (hcX6 E) rfl inX6 tyX6 tyX6_ok nmX6 (by decide) rfl (by decide +kernel) rfl rfl (Nat.le_of_ble_eq_true rfl) rfl gw_882 dX6_readDream_160 ?_
    cases Option.some.inj hF
    exact V.vret rfl dX6_readDream_163 hK
  · rw [if_pos hc] at hF
    refine V.aload_n 0 0 0 rfl dX6_readDream_114 rfl ?_
    refine V.iconst 3 dX6_readDream_115 ?_
    replace hF := Option.bind_eq_some_iff.mp hF
    obtain ⟨M7, hM7, hF⟩ := hF
    refine V.callV (d' := d - 1) [vi 3] [] (c_X6_fails (by omega) hM7) okX6_fails gw_989 rfl rfl (by decide) (hcX6 E _) rfl (Nat.le_of_ble_eq_true rfl) (by omega) dX6_readDream_116 ?_
    rintro _ _ ⟨rfl, rfl⟩
    show V E mX6_readDream d 119 [(0, rf E 46), (1, vi x1), (2, vi x2)] [] M7 _
    cases Option.some.inj hF
    exact V.vret rfl dX6_readDream_119 hK
def f_X6_readDream_102 (n : Nat) (x1 : Int) (x3 : Int) (s0 : Int) (s1 : Int) (M : Mem) : Option ((Int × Int × Int) ⊕ (Mem)) :=
  some (.inl (x1, bOr s1 s0, x3 + 1))
set_option maxRecDepth 10000 in
theorem v_X6_readDream_102 {E : En} {d : Nat} {Q : Po} {n : Nat} {x1 : Int} {x3 : Int} {s0 : Int} {s1 : Int} {M : Mem} {z : (Int × Int × Int) ⊕ (Mem)}  (hd : 4 ≤ d) (hF : f_X6_readDream_102 n x1 x3 s0 s1 M = some z) (hC0 : ∀ s' : Int × Int × Int, z = (.inl s') → V E mX6_readDream d 41 [(0, rf E 46), (1, vi (s'.1)), (2, vi (s'.2.1)), (3, vi (s'.2.2))] [] M Q) (hX : ∀ z0 : Mem, z = (.inr z0) → Q none z0) : V E mX6_readDream d 102 [(0, rf E 46), (1, vi x1), (3, vi x3)] [vi s0, vi s1] M Q := by
  unfold f_X6_readDream_102 at hF
  refine V.ior dX6_readDream_102 ?_
  refine V.istore_n 2 2 [(2, vi (bOr s1 s0)), (0, rf E 46), (1, vi x1), (3, vi x3)] rfl dX6_readDream_103 (by decide) rfl ?_
  refine V.iinc 3 3 1 [(3, vi (x3 + 1)), (2, vi (bOr s1 s0)), (0, rf E 46), (1, vi x1)] dX6_readDream_104 rfl (by decide) rfl ?_
  refine V.goto (tgt := 41) dX6_readDream_107 (by decide) ?_
  cases Option.some.inj hF
  refine V.sub _ [2, 3, 1, 0] rfl ?_
  exact hC0 _ rfl
def f_X6_readDream_78 (n : Nat) (x2 : Int) (x3 : Int) (s0 : Int) (M : Mem) : Option ((Int × Int × Int) ⊕ (Mem)) :=
  (f_X6_byteAt x3 M).bind fun v1 =>
  if wr v1 = 102 then
    f_X6_readDream_102 n s0 x3 (bShl 1 (x3 - (M 46 15))) x2 M
  else
    f_X6_readDream_102 n s0 x3 0 x2 M
set_option maxRecDepth 10000 in
theorem v_X6_readDream_78 {E : En} {d : Nat} {Q : Po} {n : Nat} {x2 : Int} {x3 : Int} {s0 : Int} {M : Mem} {z : (Int × Int × Int) ⊕ (Mem)}  (hd : 4 ≤ d) (hF : f_X6_readDream_78 n x2 x3 s0 M = some z) (hC0 : ∀ s' : Int × Int × Int, z = (.inl s') → V E mX6_readDream d 41 [(0, rf E 46), (1, vi (s'.1)), (2, vi (s'.2.1)), (3, vi (s'.2.2))] [] M Q) (hX : ∀ z0 : Mem, z = (.inr z0) → Q none z0) : V E mX6_readDream d 78 [(0, rf E 46), (2, vi x2), (3, vi x3)] [vi s0] M Q := by
  unfold f_X6_readDream_78 at hF
  refine V.istore_n 1 1 [(1, vi s0), (0, rf E 46), (2, vi x2), (3, vi x3)] rfl dX6_readDream_78 (by decide) rfl ?_
  refine V.iload_n 2 2 2 rfl dX6_readDream_79 rfl ?_
  refine V.aload_n 0 0 1 rfl dX6_readDream_80 rfl ?_
  refine V.iload_n 3 3 3 rfl dX6_readDream_81 rfl ?_
  replace hF := Option.bind_eq_some_iff.mp hF
  obtain ⟨v1, hv1, hF⟩ := hF
  refine V.callV (d' := d - 1) [vi x3] [vi x2] (c_X6_byteAt (by omega) hv1) okX6_byteAt gw_981 rfl rfl (by decide) (hcX6 E _) rfl (Nat.le_of_ble_eq_true rfl) (by omega) dX6_readDream_82 ?_
  rintro _ _ ⟨rfl, rfl⟩
  show V E mX6_readDream d 85 [(1, vi s0), (0, rf E 46), (2, vi x2), (3, vi x3)] [vi v1, vi x2] M _
  refine V.bipush 102 102 (by decide) dX6_readDream_85 ?_
  refine V.icmp_ne (tgt := 101) rfl wr_102 dX6_readDream_87 (by decide) (fun hc => ?_) (fun hc => ?_)
  · rw [if_neg hc] at hF
    refine V.iconst 0 dX6_readDream_101 ?_
    refine V.sub _ [1, 0, 3] rfl ?_
    exact v_X6_readDream_102 hd hF hC0 hX
  · rw [if_pos hc] at hF
    refine V.iconst 1 dX6_readDream_90 ?_
    refine V.iload_n 3 3 3 rfl dX6_readDream_91 rfl ?_
    refine V.aload_n 0 0 1 rfl dX6_readDream_92 rfl ?_
    refine V.get (by decide) (hcX6 E _) rfl inX6 15 (by decide) rfl gw_890 dX6_readDream_93 ?_
    refine V.isub dX6_readDream_96 ?_
    refine V.ishl dX6_readDream_97 ?_
    refine V.goto (tgt := 102) dX6_readDream_98 (by decide) ?_
    refine V.sub _ [1, 0, 3] rfl ?_
    exact v_X6_readDream_102 hd hF hC0 hX
def f_X6_readDream_73 (n : Nat) (x2 : Int) (x3 : Int) (M : Mem) : Option ((Int × Int × Int) ⊕ (Mem)) :=
  f_X6_readDream_78 n x2 x3 1 M
set_option maxRecDepth 10000 in
theorem v_X6_readDream_73 {E : En} {d : Nat} {Q : Po} {n : Nat} {x2 : Int} {x3 : Int} {M : Mem} {z : (Int × Int × Int) ⊕ (Mem)}  (hd : 4 ≤ d) (hF : f_X6_readDream_73 n x2 x3 M = some z) (hC0 : ∀ s' : Int × Int × Int, z = (.inl s') → V E mX6_readDream d 41 [(0, rf E 46), (1, vi (s'.1)), (2, vi (s'.2.1)), (3, vi (s'.2.2))] [] M Q) (hX : ∀ z0 : Mem, z = (.inr z0) → Q none z0) : V E mX6_readDream d 73 [(0, rf E 46), (2, vi x2), (3, vi x3)] [] M Q := by
  unfold f_X6_readDream_73 at hF
  refine V.iconst 1 dX6_readDream_73 ?_
  refine V.goto (tgt := 78) dX6_readDream_74 (by decide) ?_
  exact v_X6_readDream_78 hd hF hC0 hX
def f_X6_readDream_41 (n : Nat) (x1 : Int) (x2 : Int) (x3 : Int) (M : Mem) : Option ((Int × Int × Int) ⊕ (Mem)) :=
  if wr (M 46 14) ≤ wr x3 then
    (f_X6_readDream_110 n x1 x2 M).map Sum.inr
  else
    if wr x1 = 0 then
      (f_X6_readDream_110 n x1 x2 M).map Sum.inr
    else
      (f_X6_byteAt x3 M).bind fun v1 =>
      if wr v1 = 102 then
        f_X6_readDream_73 n x2 x3 M
      else
        (f_X6_byteAt x3 M).bind fun v2 =>
        if wr v2 = 108 then
          f_X6_readDream_73 n x2 x3 M
        else
          f_X6_readDream_78 n x2 x3 0 M
set_option maxRecDepth 10000 in
theorem v_X6_readDream_41 {E : En} {d : Nat} {Q : Po} {n : Nat} {x1 : Int} {x2 : Int} {x3 : Int} {M : Mem} {z : (Int × Int × Int) ⊕ (Mem)}  (hd : 4 ≤ d) (hF : f_X6_readDream_41 n x1 x2 x3 M = some z) (hC0 : ∀ s' : Int × Int × Int, z = (.inl s') → V E mX6_readDream d 41 [(0, rf E 46), (1, vi (s'.1)), (2, vi (s'.2.1)), (3, vi (s'.2.2))] [] M Q) (hX : ∀ z0 : Mem, z = (.inr z0) → Q none z0) : V E mX6_readDream d 41 [(0, rf E 46), (1, vi x1), (2, vi x2), (3, vi x3)] [] M Q := by
  unfold f_X6_readDream_41 at hF
  refine V.iload_n 3 3 3 rfl dX6_readDream_41 rfl ?_
  refine V.aload_n 0 0 0 rfl dX6_readDream_42 rfl ?_
  refine V.get (by decide) (hcX6 E _) rfl inX6 14 (by decide) rfl gw_889 dX6_readDream_43 ?_
  refine V.icmp_ge (tgt := 110) rfl rfl dX6_readDream_46 (by decide) (fun hc => ?_) (fun hc => ?_)
  · rw [if_pos hc] at hF
    replace hF := Option.map_eq_some_iff.mp hF
    obtain ⟨z0, hF, rfl⟩ := hF
    refine V.sub _ [0, 1, 2] rfl ?_
    exact v_X6_readDream_110 hd hF (hX _ rfl)
  · rw [if_neg hc] at hF
    refine V.iload_n 1 1 1 rfl dX6_readDream_49 rfl ?_
    refine V.if_eq (tgt := 110) rfl dX6_readDream_50 (by decide) (fun hc => ?_) (fun hc => ?_)
    · rw [if_pos hc] at hF
      replace hF := Option.map_eq_some_iff.mp hF
      obtain ⟨z0, hF, rfl⟩ := hF
      refine V.sub _ [0, 1, 2] rfl ?_
      exact v_X6_readDream_110 hd hF (hX _ rfl)
    · rw [if_neg hc] at hF
      refine V.aload_n 0 0 0 rfl dX6_readDream_53 rfl ?_
      refine V.iload_n 3 3 3 rfl dX6_readDream_54 rfl ?_
      replace hF := Option.bind_eq_some_iff.mp hF
      obtain ⟨v1, hv1, hF⟩ := hF
      refine V.callV (d' := d - 1) [vi x3] [] (c_X6_byteAt (by omega) hv1) okX6_byteAt gw_981 rfl rfl (by decide) (hcX6 E _) rfl (Nat.le_of_ble_eq_true rfl) (by omega) dX6_readDream_55 ?_
      rintro _ _ ⟨rfl, rfl⟩
      show V E mX6_readDream d 58 [(0, rf E 46), (1, vi x1), (2, vi x2), (3, vi x3)] [vi v1] M _
      refine V.bipush 102 102 (by decide) dX6_readDream_58 ?_
      refine V.icmp_eq (tgt := 73) rfl wr_102 dX6_readDream_60 (by decide) (fun hc => ?_) (fun hc => ?_)
      · rw [if_pos hc] at hF
        refine V.sub _ [0, 2, 3] rfl ?_
        exact v_X6_readDream_73 hd hF hC0 hX
      · rw [if_neg hc] at hF
        refine V.aload_n 0 0 0 rfl dX6_readDream_63 rfl ?_
        refine V.iload_n 3 3 3 rfl dX6_readDream_64 rfl ?_
        replace hF := Option.bind_eq_some_iff.mp hF
        obtain ⟨v2, hv2, hF⟩ := hF
        refine V.callV (d' := d - 1) [vi x3] [] (c_X6_byteAt (by omega) hv2) okX6_byteAt gw_981 rfl rfl (by decide) (hcX6 E _) rfl (Nat.le_of_ble_eq_true rfl) (by omega) dX6_readDream_65 ?_
        rintro _ _ ⟨rfl, rfl⟩
        show V E mX6_readDream d 68 [(0, rf E 46), (1, vi x1), (2, vi x2), (3, vi x3)] [vi v2] M _
        refine V.bipush 108 108 (by decide) dX6_readDream_68 ?_
        refine V.icmp_ne (tgt := 77) rfl wr_108 dX6_readDream_70 (by decide) (fun hc => ?_) (fun hc => ?_)
        · rw [if_neg hc] at hF
          refine V.iconst 0 dX6_readDream_77 ?_
          refine V.sub _ [0, 2, 3] rfl ?_
          exact v_X6_readDream_78 hd hF hC0 hX
        · rw [if_pos hc] at hF
          refine V.sub _ [0, 2, 3] rfl ?_
          exact v_X6_readDream_73 hd hF hC0 hX
theorem l_X6_readDream_41 {E : En} {d : Nat} {Q : Po} {n : Nat} {M : Mem} {k : Nat} {s : Int × Int × Int} {z : Mem}  (hd : 4 ≤ d) (hF : lp (fun s => f_X6_readDream_41 n s.1 s.2.1 s.2.2 M) k s = some z) (hK : Q none z) : V E mX6_readDream d 41 [(0, rf E 46), (1, vi s.1), (2, vi s.2.1), (3, vi s.2.2)] [] M Q := by
  refine lp_ind (P := fun s => V E mX6_readDream d 41 [(0, rf E 46), (1, vi s.1), (2, vi s.2.1), (3, vi s.2.2)] [] M Q) (z0 := z) ?_ k s hF
  intro s z' hF hc hx
  exact v_X6_readDream_41 hd hF (fun s' e => hc s' e) (fun z0 e => by rw [hx _ e]; exact hK)
def f_X6_readDream_33 (n : Nat) (s0 : Int) (M : Mem) : Option (Mem) :=
  lp (fun s => f_X6_readDream_41 n s.1 s.2.1 s.2.2 M) n (s0, 0, M 46 15)
set_option maxRecDepth 10000 in
theorem v_X6_readDream_33 {E : En} {d : Nat} {Q : Po} {n : Nat} {s0 : Int} {M : Mem} {z : Mem}  (hd : 4 ≤ d) (hF : f_X6_readDream_33 n s0 M = some z) (hK : Q none z) : V E mX6_readDream d 33 [(0, rf E 46)] [vi s0] M Q := by
  unfold f_X6_readDream_33 at hF
  refine V.istore_n 1 1 [(1, vi s0), (0, rf E 46)] rfl dX6_readDream_33 (by decide) rfl ?_
  refine V.iconst 0 dX6_readDream_34 ?_
  refine V.istore_n 2 2 [(2, vi 0), (1, vi s0), (0, rf E 46)] rfl dX6_readDream_35 (by decide) rfl ?_
  refine V.aload_n 0 0 2 rfl dX6_readDream_36 rfl ?_
  refine V.get (by decide) (hcX6 E _) rfl inX6 15 (by decide) rfl gw_890 dX6_readDream_37 ?_
  refine V.istore_n 3 3 [(3, vi (M 46 15)), (2, vi 0), (1, vi s0), (0, rf E 46)] rfl dX6_readDream_40 (by decide) rfl ?_
  refine V.sub _ [3, 2, 1, 0] rfl ?_
  exact l_X6_readDream_41 hd hF hK
def f_X6_readDream (n : Nat) (M : Mem) : Option (Mem) :=
  if wr (M 46 16) = 1 then
    if 8 < wr ((M 46 14) - (M 46 15)) then
      f_X6_readDream_33 n 0 M
    else
      f_X6_readDream_33 n 1 M
  else
    (f_X6_fails 2 M).bind fun M1 =>
    some M1
set_option maxRecDepth 10000 in
theorem v_X6_readDream_0 {E : En} {d : Nat} {Q : Po} {n : Nat} {M : Mem} {z : Mem}  (hd : 4 ≤ d) (hF : f_X6_readDream n M = some z) (hK : Q none z) : V E mX6_readDream d 0 [(0, rf E 46)] [] M Q := by
  unfold f_X6_readDream at hF
  refine V.aload_n 0 0 0 rfl dX6_readDream_0 rfl ?_
  refine V.get (by decide) (hcX6 E _) rfl inX6 16 (by decide) rfl gw_891 dX6_readDream_1 ?_
  refine V.iconst 1 dX6_readDream_4 ?_
  refine V.icmp_eq (tgt := 14) rfl wr_1 dX6_readDream_5 (by decide) (fun hc => ?_) (fun hc => ?_)
  · rw [if_pos hc] at hF
    refine V.aload_n 0 0 0 rfl dX6_readDream_14 rfl ?_
    refine V.get (by decide) (hcX6 E _) rfl inX6 14 (by decide) rfl gw_889 dX6_readDream_15 ?_
    refine V.aload_n 0 0 0 rfl dX6_readDream_18 rfl ?_
    refine V.get (by decide) (hcX6 E _) rfl inX6 15 (by decide) rfl gw_890 dX6_readDream_19 ?_
    refine V.isub dX6_readDream_22 ?_
    refine V.bipush 8 8 (by decide) dX6_readDream_23 ?_
    refine V.icmp_gt (tgt := 32) rfl wr_8 dX6_readDream_25 (by decide) (fun hc => ?_) (fun hc => ?_)
    · rw [if_pos hc] at hF
      refine V.iconst 0 dX6_readDream_32 ?_
      exact v_X6_readDream_33 hd hF hK
    · rw [if_neg hc] at hF
      refine V.iconst 1 dX6_readDream_28 ?_
      refine V.goto (tgt := 33) dX6_readDream_29 (by decide) ?_
      exact v_X6_readDream_33 hd hF hK
  · rw [if_neg hc] at hF
    refine V.aload_n 0 0 0 rfl dX6_readDream_8 rfl ?_
    refine V.iconst 2 dX6_readDream_9 ?_
    replace hF := Option.bind_eq_some_iff.mp hF
    obtain ⟨M1, hM1, hF⟩ := hF
    refine V.callV (d' := d - 1) [vi 2] [] (c_X6_fails (by omega) hM1) okX6_fails gw_989 rfl rfl (by decide) (hcX6 E _) rfl (Nat.le_of_ble_eq_true rfl) (by omega) dX6_readDream_10 ?_
    rintro _ _ ⟨rfl, rfl⟩
    show V E mX6_readDream d 13 [(0, rf E 46)] [] M1 _
    cases Option.some.inj hF
    exact V.vret rfl dX6_readDream_13 hK
theorem c_X6_readDream {E : En} {d : Nat} {n : Nat} {M : Mem} {z : Mem}  (hd : 4 ≤ d) (hF : f_X6_readDream n M = some z) : Cn E mX6_readDream d [rf E 46] M (fun v N => v = none ∧ z = N) := by
  refine V.entry (by decide +kernel) (Nat.le_of_ble_eq_true rfl) ?_
  exact v_X6_readDream_0  hd hF ⟨rfl, rfl⟩
abbrev mX6_readOnce : MI := (yX6_readOnce, cX6_readOnce, 3, none)
theorem okX6_readOnce : OKV mX6_readOnce 1 := ⟨gw_1012, gw_32, gw_64, gw_1013, (by decide +kernel), (by decide)⟩
def f_X6_readOnce_182 (n : Nat) (x2 : Int) (M : Mem) : Option (Mem) :=
  (some (st M 49 19 x2)).bind fun M1 =>
  (f_X6_step n M1).bind fun M2 =>
  (f_X6_number n 0 9 M2).bind fun (v3, M4) =>
  (some (st M4 49 20 v3)).bind fun M5 =>
  some M5
set_option maxRecDepth 10000 in
theorem v_X6_readOnce_182 {E : En} {d : Nat} {Q : Po} {n : Nat} {x2 : Int} {M : Mem} {z : Mem}  (hd : 4 ≤ d) (hF : f_X6_readOnce_182 n x2 M = some z) (hK : Q none z) : V E mX6_readOnce d 182 [(0, rf E 46), (2, vi x2)] [] M Q := by
  unfold f_X6_readOnce_182 at hF
  refine V.aload_n 0 0 0 rfl dX6_readOnce_182 rfl ?_
  refine V.get (by decide) (hcX6 E _) rfl inX6 4 (by decide) rfl gw_879 dX6_readOnce_183 ?_
  refine V.bipush 19 19 (by decide) dX6_readOnce_186 ?_
  refine V.iload_n 2 2 1 rfl dX6_readOnce_188 rfl ?_
  replace hF := Option.bind_eq_some_iff.mp hF
  obtain ⟨M1, hM1, hF⟩ := hF
  refine V.iast ar_49 ((wt_lit 19 19 wr_19 (by decide)).trans hM1) dX6_readOnce_189 ?_
  refine V.aload_n 0 0 0 rfl dX6_readOnce_190 rfl ?_
  replace hF := Option.bind_eq_some_iff.mp hF
  obtain ⟨M2, hM2, hF⟩ := hF
  refine V.callV (d' := d - 1) [] [] (c_X6_step (by omega) hM2) okX6_step gw_977 rfl rfl (by decide) (hcX6 E _) rfl (Nat.le_of_ble_eq_true rfl) (by omega) dX6_readOnce_191 ?_
  rintro _ _ ⟨rfl, rfl⟩
  show V E mX6_readOnce d 194 [(0, rf E 46), (2, vi x2)] [] M2 _
  refine V.aload_n 0 0 0 rfl dX6_readOnce_194 rfl ?_
  refine V.get (by decide) (hcX6 E _) rfl inX6 4 (by decide) rfl gw_879 dX6_readOnce_195 ?_
  refine V.bipush 20 20 (by decide) dX6_readOnce_198 ?_
  refine V.aload_n 0 0 0 rfl dX6_readOnce_200 rfl ?_
  refine V.iconst 0 dX6_readOnce_201 ?_
  refine V.bipush 9 9 (by decide) dX6_readOnce_202 ?_
  replace hF := Option.bind_eq_some_iff.mp hF
  obtain ⟨⟨v3, M4⟩, hv3, hF⟩ := hF
  dsimp only at hF
  refine V.callV (d' := d - 1) [vi 0, vi 9] [vi 20, rf E 49] (c_X6_number (by omega) hv3) okX6_number gw_1002 rfl rfl (by decide) (hcX6 E _) rfl (Nat.le_of_ble_eq_true rfl) (by omega) dX6_readOnce_204 ?_
  rintro _ _ ⟨rfl, rfl⟩
  show V E mX6_readOnce d 207 [(0, rf E 46), (2, vi x2)] [vi v3, vi 20, rf E 49] M4 _
  replace hF := Option.bind_eq_some_iff.mp hF
  obtain ⟨M5, hM5, hF⟩ := hF
  refine V.iast ar_49 ((wt_lit 20 20 wr_20 (by decide)).trans hM5) dX6_readOnce_207 ?_
  cases Option.some.inj hF
  exact V.vret rfl dX6_readOnce_208 hK
def f_X6_readOnce_88 (n : Nat) (x2 : Int) (M : Mem) : Option (Mem) :=
  (f_X6_number n 0 9 M).bind fun (v1, M2) =>
  (some (st M2 49 15 v1)).bind fun M3 =>
  (f_X6_number n 0 x2 M3).bind fun (v4, M5) =>
  (some (st M5 49 16 v4)).bind fun M6 =>
  some M6
set_option maxRecDepth 10000 in
theorem v_X6_readOnce_88 {E : En} {d : Nat} {Q : Po} {n : Nat} {x2 : Int} {M : Mem} {z : Mem}  (hd : 4 ≤ d) (hF : f_X6_readOnce_88 n x2 M = some z) (hK : Q none z) : V E mX6_readOnce d 88 [(0, rf E 46), (2, vi x2)] [] M Q := by
  unfold f_X6_readOnce_88 at hF
  refine V.aload_n 0 0 0 rfl dX6_readOnce_88 rfl ?_
  refine V.get (by decide) (hcX6 E _) rfl inX6 4 (by decide) rfl gw_879 dX6_readOnce_89 ?_
  refine V.bipush 15 15 (by decide) dX6_readOnce_92 ?_
  refine V.aload_n 0 0 0 rfl dX6_readOnce_94 rfl ?_
  refine V.iconst 0 dX6_readOnce_95 ?_
  refine V.bipush 9 9 (by decide) dX6_readOnce_96 ?_
  replace hF := Option.bind_eq_some_iff.mp hF
  obtain ⟨⟨v1, M2⟩, hv1, hF⟩ := hF
  dsimp only at hF
  refine V.callV (d' := d - 1) [vi 0, vi 9] [vi 15, rf E 49] (c_X6_number (by omega) hv1) okX6_number gw_1002 rfl rfl (by decide) (hcX6 E _) rfl (Nat.le_of_ble_eq_true rfl) (by omega) dX6_readOnce_98 ?_
  rintro _ _ ⟨rfl, rfl⟩
  show V E mX6_readOnce d 101 [(0, rf E 46), (2, vi x2)] [vi v1, vi 15, rf E 49] M2 _
  replace hF := Option.bind_eq_some_iff.mp hF
  obtain ⟨M3, hM3, hF⟩ := hF
  refine V.iast ar_49 ((wt_lit 15 15 wr_15 (by decide)).trans hM3) dX6_readOnce_101 ?_
  refine V.aload_n 0 0 0 rfl dX6_readOnce_102 rfl ?_
  refine V.get (by decide) (hcX6 E _) rfl inX6 4 (by decide) rfl gw_879 dX6_readOnce_103 ?_
  refine V.bipush 16 16 (by decide) dX6_readOnce_106 ?_
  refine V.aload_n 0 0 0 rfl dX6_readOnce_108 rfl ?_
  refine V.iconst 0 dX6_readOnce_109 ?_
  refine V.iload_n 2 2 1 rfl dX6_readOnce_110 rfl ?_
  replace hF := Option.bind_eq_some_iff.mp hF
  obtain ⟨⟨v4, M5⟩, hv4, hF⟩ := hF
  dsimp only at hF
  refine V.callV (d' := d - 1) [vi 0, vi x2] [vi 16, rf E 49] (c_X6_number (by omega) hv4) okX6_number gw_1002 rfl rfl (by decide) (hcX6 E _) rfl (Nat.le_of_ble_eq_true rfl) (by omega) dX6_readOnce_111 ?_
  rintro _ _ ⟨rfl, rfl⟩
  show V E mX6_readOnce d 114 [(0, rf E 46), (2, vi x2)] [vi v4, vi 16, rf E 49] M5 _
  replace hF := Option.bind_eq_some_iff.mp hF
  obtain ⟨M6, hM6, hF⟩ := hF
  refine V.iast ar_49 ((wt_lit 16 16 wr_16 (by decide)).trans hM6) dX6_readOnce_114 ?_
  refine V.goto (tgt := 208) dX6_readOnce_115 (by decide) ?_
  cases Option.some.inj hF
  exact V.vret rfl dX6_readOnce_208 hK
def f_X6_readOnce (n : Nat) (x1 : Int) (M : Mem) : Option (Mem) :=
  if wr x1 = 2 then
    (f_X6_number n 0 40 M).bind fun (v13, M14) =>
    (some (st M14 49 12 v13)).bind fun M15 =>
    (f_X6_number n 0 20 M15).bind fun (v16, M17) =>
    (some (st M17 49 13 v16)).bind fun M18 =>
    some M18
  else
    if wr x1 = 3 then
      (f_X6_number n 0 40 M).bind fun (v9, M10) =>
      (some (st M10 49 14 (40 - v9))).bind fun M11 =>
      if wr (M11 46 12) = 0 then
        if wr (M11 46 16) = 2 then
          if wr (M11 46 17) = 1 then
            (f_X6_fails 3 M11).bind fun M12 =>
            f_X6_readOnce_88 n v9 M12
          else
            f_X6_readOnce_88 n v9 M11
        else
          f_X6_readOnce_88 n v9 M11
      else
        f_X6_readOnce_88 n v9 M11
    else
      if wr x1 = 4 then
        (f_X6_number n 0 9 M).bind fun (v3, M4) =>
        (some (st M4 49 18 (v3 - 1))).bind fun M5 =>
        (f_X6_number n 0 9 M5).bind fun (v6, M7) =>
        (some (st M7 49 17 (v6 - 1))).bind fun M8 =>
        some M8
      else
        (f_X6_wordHere n M).bind fun v1 =>
        if wr (M 46 12) = 0 then
          if 0 ≤ wr (v1 - 6) then
            f_X6_readOnce_182 n (v1 - 6) M
          else
            (f_X6_fails 2 M).bind fun M2 =>
            f_X6_readOnce_182 n (v1 - 6) M2
        else
          f_X6_readOnce_182 n (v1 - 6) M
set_option maxRecDepth 10000 in
theorem v_X6_readOnce_0 {E : En} {d : Nat} {Q : Po} {n : Nat} {x1 : Int} {M : Mem} {z : Mem}  (hd : 4 ≤ d) (hF : f_X6_readOnce n x1 M = some z) (hK : Q none z) : V E mX6_readOnce d 0 [(0, rf E 46), (1, vi x1)] [] M Q := by
  unfold f_X6_readOnce at hF
  refine V.iload_n 1 1 1 rfl dX6_readOnce_0 rfl ?_
  refine V.iconst 2 dX6_readOnce_1 ?_
  refine V.icmp_ne (tgt := 36) rfl wr_2 dX6_readOnce_2 (by decide) (fun hc => ?_) (fun hc => ?_)
  · rw [if_neg hc] at hF
    refine V.iload_n 1 1 1 rfl dX6_readOnce_36 rfl ?_
    refine V.iconst 3 dX6_readOnce_37 ?_
    refine V.icmp_ne (tgt := 118) rfl wr_3 dX6_readOnce_38 (by decide) (fun hc => ?_) (fun hc => ?_)
    · rw [if_neg hc] at hF
      refine V.iload_n 1 1 1 rfl dX6_readOnce_118 rfl ?_
      refine V.iconst 4 dX6_readOnce_119 ?_
      refine V.icmp_ne (tgt := 158) rfl wr_4 dX6_readOnce_120 (by decide) (fun hc => ?_) (fun hc => ?_)
      · rw [if_neg hc] at hF
        refine V.aload_n 0 0 0 rfl dX6_readOnce_158 rfl ?_
        replace hF := Option.bind_eq_some_iff.mp hF
        obtain ⟨v1, hv1, hF⟩ := hF
        refine V.callV (d' := d - 1) [] [] (c_X6_wordHere (by omega) hv1) okX6_wordHere gw_997 rfl rfl (by decide) (hcX6 E _) rfl (Nat.le_of_ble_eq_true rfl) (by omega) dX6_readOnce_159 ?_
        rintro _ _ ⟨rfl, rfl⟩
        show V E mX6_readOnce d 162 [(0, rf E 46), (1, vi x1)] [vi v1] M _
        refine V.bipush 6 6 (by decide) dX6_readOnce_162 ?_
        refine V.isub dX6_readOnce_164 ?_
        refine V.istore_n 2 2 [(2, vi (v1 - 6)), (0, rf E 46), (1, vi x1)] rfl dX6_readOnce_165 (by decide) rfl ?_
        refine V.aload_n 0 0 1 rfl dX6_readOnce_166 rfl ?_
        refine V.get (by decide) (hcX6 E _) rfl inX6 12 (by decide) rfl gw_887 dX6_readOnce_167 ?_
        refine V.if_ne (tgt := 182) rfl dX6_readOnce_170 (by decide) (fun hc => ?_) (fun hc => ?_)
        · rw [if_neg hc] at hF
          refine V.sub _ [1, 0] rfl ?_
          exact v_X6_readOnce_182 hd hF hK
        · rw [if_pos hc] at hF
          refine V.iload_n 2 2 0 rfl dX6_readOnce_173 rfl ?_
          refine V.if_ge (tgt := 182) rfl dX6_readOnce_174 (by decide) (fun hc => ?_) (fun hc => ?_)
          · rw [if_pos hc] at hF
            refine V.sub _ [1, 0] rfl ?_
            exact v_X6_readOnce_182 hd hF hK
          · rw [if_neg hc] at hF
            refine V.aload_n 0 0 1 rfl dX6_readOnce_177 rfl ?_
            refine V.iconst 2 dX6_readOnce_178 ?_
            replace hF := Option.bind_eq_some_iff.mp hF
            obtain ⟨M2, hM2, hF⟩ := hF
            refine V.callV (d' := d - 1) [vi 2] [] (c_X6_fails (by omega) hM2) okX6_fails gw_989 rfl rfl (by decide) (hcX6 E _) rfl (Nat.le_of_ble_eq_true rfl) (by omega) dX6_readOnce_179 ?_
            rintro _ _ ⟨rfl, rfl⟩
            show V E mX6_readOnce d 182 [(2, vi (v1 - 6)), (0, rf E 46), (1, vi x1)] [] M2 _
            refine V.sub _ [1, 0] rfl ?_
            exact v_X6_readOnce_182 hd hF hK
      · rw [if_pos hc] at hF
        refine V.aload_n 0 0 0 rfl dX6_readOnce_123 rfl ?_
        refine V.get (by decide) (hcX6 E _) rfl inX6 4 (by decide) rfl gw_879 dX6_readOnce_124 ?_
        refine V.bipush 18 18 (by decide) dX6_readOnce_127 ?_
        refine V.aload_n 0 0 0 rfl dX6_readOnce_129 rfl ?_
        refine V.iconst 0 dX6_readOnce_130 ?_
        refine V.bipush 9 9 (by decide) dX6_readOnce_131 ?_
        replace hF := Option.bind_eq_some_iff.mp hF
        obtain ⟨⟨v3, M4⟩, hv3, hF⟩ := hF
        dsimp only at hF
        refine V.callV (d' := d - 1) [vi 0, vi 9] [vi 18, rf E 49] (c_X6_number (by omega) hv3) okX6_number gw_1002 rfl rfl (by decide) (hcX6 E _) rfl (Nat.le_of_ble_eq_true rfl) (by omega) dX6_readOnce_133 ?_
        rintro _ _ ⟨rfl, rfl⟩
        show V E mX6_readOnce d 136 [(0, rf E 46), (1, vi x1)] [vi v3, vi 18, rf E 49] M4 _
        refine V.iconst 1 dX6_readOnce_136 ?_
        refine V.isub dX6_readOnce_137 ?_
        replace hF := Option.bind_eq_some_iff.mp hF
        obtain ⟨M5, hM5, hF⟩ := hF
        refine V.iast ar_49 ((wt_lit 18 18 wr_18 (by decide)).trans hM5) dX6_readOnce_138 ?_
        refine V.aload_n 0 0 0 rfl dX6_readOnce_139 rfl ?_
        refine V.get (by decide) (hcX6 E _) rfl inX6 4 (by decide) rfl gw_879 dX6_readOnce_140 ?_
        refine V.bipush 17 17 (by decide) dX6_readOnce_143 ?_
        refine V.aload_n 0 0 0 rfl dX6_readOnce_145 rfl ?_
        refine V.iconst 0 dX6_readOnce_146 ?_
        refine V.bipush 9 9 (by decide) dX6_readOnce_147 ?_
        replace hF := Option.bind_eq_some_iff.mp hF
        obtain ⟨⟨v6, M7⟩, hv6, hF⟩ := hF
        dsimp only at hF
        refine V.callV (d' := d - 1) [vi 0, vi 9] [vi 17, rf E 49] (c_X6_number (by omega) hv6) okX6_number gw_1002 rfl rfl (by decide) (hcX6 E _) rfl (Nat.le_of_ble_eq_true rfl) (by omega) dX6_readOnce_149 ?_
        rintro _ _ ⟨rfl, rfl⟩
        show V E mX6_readOnce d 152 [(0, rf E 46), (1, vi x1)] [vi v6, vi 17, rf E 49] M7 _
        refine V.iconst 1 dX6_readOnce_152 ?_
        refine V.isub dX6_readOnce_153 ?_
        replace hF := Option.bind_eq_some_iff.mp hF
        obtain ⟨M8, hM8, hF⟩ := hF
        refine V.iast ar_49 ((wt_lit 17 17 wr_17 (by decide)).trans hM8) dX6_readOnce_154 ?_
        refine V.goto (tgt := 208) dX6_readOnce_155 (by decide) ?_
        cases Option.some.inj hF
        exact V.vret rfl dX6_readOnce_208 hK
    · rw [if_pos hc] at hF
      refine V.aload_n 0 0 0 rfl dX6_readOnce_41 rfl ?_
      refine V.iconst 0 dX6_readOnce_42 ?_
      refine V.bipush 40 40 (by decide) dX6_readOnce_43 ?_
      replace hF := Option.bind_eq_some_iff.mp hF
      obtain ⟨⟨v9, M10⟩, hv9, hF⟩ := hF
      dsimp only at hF
      refine V.callV (d' := d - 1) [vi 0, vi 40] [] (c_X6_number (by omega) hv9) okX6_number gw_1002 rfl rfl (by decide) (hcX6 E _) rfl (Nat.le_of_ble_eq_true rfl) (by omega) dX6_readOnce_45 ?_
      rintro _ _ ⟨rfl, rfl⟩
      show V E mX6_readOnce d 48 [(0, rf E 46), (1, vi x1)] [vi v9] M10 _
      refine V.istore_n 2 2 [(2, vi v9), (0, rf E 46), (1, vi x1)] rfl dX6_readOnce_48 (by decide) rfl ?_
      refine V.aload_n 0 0 1 rfl dX6_readOnce_49 rfl ?_
      refine V.get (by decide) (hcX6 E _) rfl inX6 4 (by decide) rfl gw_879 dX6_readOnce_50 ?_
      refine V.bipush 14 14 (by decide) dX6_readOnce_53 ?_
      refine V.bipush 40 40 (by decide) dX6_readOnce_55 ?_
      refine V.iload_n 2 2 0 rfl dX6_readOnce_57 rfl ?_
      refine V.isub dX6_readOnce_58 ?_
      replace hF := Option.bind_eq_some_iff.mp hF
      obtain ⟨M11, hM11, hF⟩ := hF
      refine V.iast ar_49 ((wt_lit 14 14 wr_14 (by decide)).trans hM11) dX6_readOnce_59 ?_
      refine V.aload_n 0 0 1 rfl dX6_readOnce_60 rfl ?_
      refine V.get (by decide) (hcX6 E _) rfl inX6 12 (by decide) rfl gw_887 dX6_readOnce_61 ?_
      refine V.if_ne (tgt := 88) rfl dX6_readOnce_64 (by decide) (fun hc => ?_) (fun hc => ?_)
      · rw [if_neg hc] at hF
        refine V.sub _ [1, 0] rfl ?_
        exact v_X6_readOnce_88 hd hF hK
      · rw [if_pos hc] at hF
        refine V.aload_n 0 0 1 rfl dX6_readOnce_67 rfl ?_
        refine V.get (by decide) (hcX6 E _) rfl inX6 16 (by decide) rfl gw_891 dX6_readOnce_68 ?_
        refine V.iconst 2 dX6_readOnce_71 ?_
        refine V.icmp_ne (tgt := 88) rfl wr_2 dX6_readOnce_72 (by decide) (fun hc => ?_) (fun hc => ?_)
        · rw [if_neg hc] at hF
          refine V.sub _ [1, 0] rfl ?_
          exact v_X6_readOnce_88 hd hF hK
        · rw [if_pos hc] at hF
          refine V.aload_n 0 0 1 rfl dX6_readOnce_75 rfl ?_
          refine V.get (by decide) (hcX6 E _) rfl inX6 17 (by decide) rfl gw_892 dX6_readOnce_76 ?_
          refine V.iconst 1 dX6_readOnce_79 ?_
          refine V.icmp_ne (tgt := 88) rfl wr_1 dX6_readOnce_80 (by decide) (fun hc => ?_) (fun hc => ?_)
          · rw [if_neg hc] at hF
            refine V.sub _ [1, 0] rfl ?_
            exact v_X6_readOnce_88 hd hF hK
          · rw [if_pos hc] at hF
            refine V.aload_n 0 0 1 rfl dX6_readOnce_83 rfl ?_
            refine V.iconst 3 dX6_readOnce_84 ?_
            replace hF := Option.bind_eq_some_iff.mp hF
            obtain ⟨M12, hM12, hF⟩ := hF
            refine V.callV (d' := d - 1) [vi 3] [] (c_X6_fails (by omega) hM12) okX6_fails gw_989 rfl rfl (by decide) (hcX6 E _) rfl (Nat.le_of_ble_eq_true rfl) (by omega) dX6_readOnce_85 ?_
            rintro _ _ ⟨rfl, rfl⟩
            show V E mX6_readOnce d 88 [(2, vi v9), (0, rf E 46), (1, vi x1)] [] M12 _
            refine V.sub _ [1, 0] rfl ?_
            exact v_X6_readOnce_88 hd hF hK
  · rw [if_pos hc] at hF
    refine V.aload_n 0 0 0 rfl dX6_readOnce_5 rfl ?_
    refine V.get (by decide) (hcX6 E _) rfl inX6 4 (by decide) rfl gw_879 dX6_readOnce_6 ?_
    refine V.bipush 12 12 (by decide) dX6_readOnce_9 ?_
    refine V.aload_n 0 0 0 rfl dX6_readOnce_11 rfl ?_
    refine V.iconst 0 dX6_readOnce_12 ?_
    refine V.bipush 40 40 (by decide) dX6_readOnce_13 ?_
    replace hF := Option.bind_eq_some_iff.mp hF
    obtain ⟨⟨v13, M14⟩, hv13, hF⟩ := hF
    dsimp only at hF
    refine V.callV (d' := d - 1) [vi 0, vi 40] [vi 12, rf E 49] (c_X6_number (by omega) hv13) okX6_number gw_1002 rfl rfl (by decide) (hcX6 E _) rfl (Nat.le_of_ble_eq_true rfl) (by omega) dX6_readOnce_15 ?_
    rintro _ _ ⟨rfl, rfl⟩
    show V E mX6_readOnce d 18 [(0, rf E 46), (1, vi x1)] [vi v13, vi 12, rf E 49] M14 _
    replace hF := Option.bind_eq_some_iff.mp hF
    obtain ⟨M15, hM15, hF⟩ := hF
    refine V.iast ar_49 ((wt_lit 12 12 wr_12 (by decide)).trans hM15) dX6_readOnce_18 ?_
    refine V.aload_n 0 0 0 rfl dX6_readOnce_19 rfl ?_
    refine V.get (by decide) (hcX6 E _) rfl inX6 4 (by decide) rfl gw_879 dX6_readOnce_20 ?_
    refine V.bipush 13 13 (by decide) dX6_readOnce_23 ?_
    refine V.aload_n 0 0 0 rfl dX6_readOnce_25 rfl ?_
    refine V.iconst 0 dX6_readOnce_26 ?_
    refine V.bipush 20 20 (by decide) dX6_readOnce_27 ?_
    replace hF := Option.bind_eq_some_iff.mp hF
    obtain ⟨⟨v16, M17⟩, hv16, hF⟩ := hF
    dsimp only at hF
    refine V.callV (d' := d - 1) [vi 0, vi 20] [vi 13, rf E 49] (c_X6_number (by omega) hv16) okX6_number gw_1002 rfl rfl (by decide) (hcX6 E _) rfl (Nat.le_of_ble_eq_true rfl) (by omega) dX6_readOnce_29 ?_
    rintro _ _ ⟨rfl, rfl⟩
    show V E mX6_readOnce d 32 [(0, rf E 46), (1, vi x1)] [vi v16, vi 13, rf E 49] M17 _
    replace hF := Option.bind_eq_some_iff.mp hF
    obtain ⟨M18, hM18, hF⟩ := hF
    refine V.iast ar_49 ((wt_lit 13 13 wr_13 (by decide)).trans hM18) dX6_readOnce_32 ?_
    refine V.goto (tgt := 208) dX6_readOnce_33 (by decide) ?_
    cases Option.some.inj hF
    exact V.vret rfl dX6_readOnce_208 hK
theorem c_X6_readOnce {E : En} {d : Nat} {n : Nat} {x1 : Int} {M : Mem} {z : Mem}  (hd : 4 ≤ d) (hF : f_X6_readOnce n x1 M = some z) : Cn E mX6_readOnce d [rf E 46, vi x1] M (fun v N => v = none ∧ z = N) := by
  refine V.entry (by decide +kernel) (Nat.le_of_ble_eq_true rfl) ?_
  exact v_X6_readOnce_0  hd hF ⟨rfl, rfl⟩
abbrev mX6_readLine : MI := (yX6_readLine, cX6_readLine, 2, none)
theorem okX6_readLine : OKV mX6_readLine 0 := ⟨gw_995, gw_28, gw_64, gw_996, (by decide +kernel), (by decide)⟩
def f_X6_readLine_191 (n : Nat) (M : Mem) : Option (Mem) :=
  (f_X6_step n M).bind fun M1 =>
  some M1
set_option maxRecDepth 10000 in
theorem v_X6_readLine_191 {E : En} {d : Nat} {Q : Po} {n : Nat} {M : Mem} {z : Mem}  (hd : 5 ≤ d) (hF : f_X6_readLine_191 n M = some z) (hK : Q none z) : V E mX6_readLine d 191 [(0, rf E 46)] [] M Q := by
  unfold f_X6_readLine_191 at hF
  refine V.aload_n 0 0 0 rfl dX6_readLine_191 rfl ?_
  replace hF := Option.bind_eq_some_iff.mp hF
  obtain ⟨M1, hM1, hF⟩ := hF
  refine V.callV (d' := d - 1) [] [] (c_X6_step (by omega) hM1) okX6_step gw_977 rfl rfl (by decide) (hcX6 E _) rfl (Nat.le_of_ble_eq_true rfl) (by omega) dX6_readLine_192 ?_
  rintro _ _ ⟨rfl, rfl⟩
  show V E mX6_readLine d 195 [(0, rf E 46)] [] M1 _
  cases Option.some.inj hF
  exact V.vret rfl dX6_readLine_195 hK
def f_X6_readLine_171 (n : Nat) (M : Mem) : Option (Mem) :=
  if wr (M 46 12) = 0 then
    if wr (M 46 16) = 3 then
      f_X6_readLine_191 n M
    else
      (f_X6_fails 2 M).bind fun M1 =>
      f_X6_readLine_191 n M1
  else
    f_X6_readLine_191 n M
set_option maxRecDepth 10000 in
theorem v_X6_readLine_171 {E : En} {d : Nat} {Q : Po} {n : Nat} {M : Mem} {z : Mem}  (hd : 5 ≤ d) (hF : f_X6_readLine_171 n M = some z) (hK : Q none z) : V E mX6_readLine d 171 [(0, rf E 46)] [] M Q := by
  unfold f_X6_readLine_171 at hF
  refine V.aload_n 0 0 0 rfl dX6_readLine_171 rfl ?_
  refine V.get (by decide) (hcX6 E _) rfl inX6 12 (by decide) rfl gw_887 dX6_readLine_172 ?_
  refine V.if_ne (tgt := 191) rfl dX6_readLine_175 (by decide) (fun hc => ?_) (fun hc => ?_)
  · rw [if_neg hc] at hF
    exact v_X6_readLine_191 hd hF hK
  · rw [if_pos hc] at hF
    refine V.aload_n 0 0 0 rfl dX6_readLine_178 rfl ?_
    refine V.get (by decide) (hcX6 E _) rfl inX6 16 (by decide) rfl gw_891 dX6_readLine_179 ?_
    refine V.iconst 3 dX6_readLine_182 ?_
    refine V.icmp_eq (tgt := 191) rfl wr_3 dX6_readLine_183 (by decide) (fun hc => ?_) (fun hc => ?_)
    · rw [if_pos hc] at hF
      exact v_X6_readLine_191 hd hF hK
    · rw [if_neg hc] at hF
      refine V.aload_n 0 0 0 rfl dX6_readLine_186 rfl ?_
      refine V.iconst 2 dX6_readLine_187 ?_
      replace hF := Option.bind_eq_some_iff.mp hF
      obtain ⟨M1, hM1, hF⟩ := hF
      refine V.callV (d' := d - 1) [vi 2] [] (c_X6_fails (by omega) hM1) okX6_fails gw_989 rfl rfl (by decide) (hcX6 E _) rfl (Nat.le_of_ble_eq_true rfl) (by omega) dX6_readLine_188 ?_
      rintro _ _ ⟨rfl, rfl⟩
      show V E mX6_readLine d 191 [(0, rf E 46)] [] M1 _
      exact v_X6_readLine_191 hd hF hK
def f_X6_readLine_75 (n : Nat) (x1 : Int) (M : Mem) : Option (Mem) :=
  (some (st M 46 8 (bOr (M 46 8) (bShl 1 x1)))).bind fun M1 =>
  (f_X6_step n M1).bind fun M2 =>
  if wr (M2 46 12) ≤ 0 then
    if wr x1 = 0 then
      (f_X6_number n 0 9 M2).bind fun (v5, M6) =>
      (wt M6 49 25 ((2 * (M2 46 6)) + 1) v5).bind fun M7 =>
      (f_X6_number n 0 9 M7).bind fun (v8, M9) =>
      (wt M9 49 25 (2 * (M7 46 6)) v8).bind fun M10 =>
      (some (st M10 46 6 ((M10 46 6) + 1))).bind fun M11 =>
      f_X6_readLine_171 n M11
    else
      if wr x1 = 1 then
        (f_X6_readDream n M2).bind fun M4 =>
        f_X6_readLine_171 n M4
      else
        (f_X6_readOnce n x1 M2).bind fun M3 =>
        f_X6_readLine_171 n M3
  else
    some M2
set_option maxRecDepth 10000 in
theorem v_X6_readLine_75 {E : En} {d : Nat} {Q : Po} {n : Nat} {x1 : Int} {M : Mem} {z : Mem}  (hd : 5 ≤ d) (hF : f_X6_readLine_75 n x1 M = some z) (hK : Q none z) : V E mX6_readLine d 75 [(0, rf E 46), (1, vi x1)] [] M Q := by
  unfold f_X6_readLine_75 at hF
  refine V.aload_n 0 0 0 rfl dX6_readLine_75 rfl ?_
  refine V.dup rfl dX6_readLine_76 ?_
  refine V.get (by decide) (hcX6 E _) rfl inX6 8 (by decide) rfl gw_883 dX6_readLine_77 ?_
  refine V.iconst 1 dX6_readLine_80 ?_
  refine V.iload_n 1 1 1 rfl dX6_readLine_81 rfl ?_
  refine V.ishl dX6_readLine_82 ?_
  refine V.ior dX6_readLine_83 ?_
  replace hF := Option.bind_eq_some_iff.mp hF
  obtain ⟨M1, hM1, hF⟩ := hF
  refine V.put (x := bOr (M 46 8) (bShl 1 x1)) (ty := .int) (Option.some.inj hM1) (by decide) (hcX6 E) rfl inX6 tyX6 tyX6_ok nmX6 (by decide) rfl (by decide +kernel) rfl rfl (Nat.le_of_ble_eq_true rfl) rfl gw_883 dX6_readLine_84 ?_
  refine V.aload_n 0 0 0 rfl dX6_readLine_87 rfl ?_
  replace hF := Option.bind_eq_some_iff.mp hF
  obtain ⟨M2, hM2, hF⟩ := hF
  refine V.callV (d' := d - 1) [] [] (c_X6_step (by omega) hM2) okX6_step gw_977 rfl rfl (by decide) (hcX6 E _) rfl (Nat.le_of_ble_eq_true rfl) (by omega) dX6_readLine_88 ?_
  rintro _ _ ⟨rfl, rfl⟩
  show V E mX6_readLine d 91 [(0, rf E 46), (1, vi x1)] [] M2 _
  refine V.aload_n 0 0 0 rfl dX6_readLine_91 rfl ?_
  refine V.get (by decide) (hcX6 E _) rfl inX6 12 (by decide) rfl gw_887 dX6_readLine_92 ?_
  refine V.if_le (tgt := 99) rfl dX6_readLine_95 (by decide) (fun hc => ?_) (fun hc => ?_)
  · rw [if_pos hc] at hF
    refine V.iload_n 1 1 1 rfl dX6_readLine_99 rfl ?_
    refine V.if_ne (tgt := 154) rfl dX6_readLine_100 (by decide) (fun hc => ?_) (fun hc => ?_)
    · rw [if_neg hc] at hF
      refine V.iload_n 1 1 1 rfl dX6_readLine_154 rfl ?_
      refine V.iconst 1 dX6_readLine_155 ?_
      refine V.icmp_ne (tgt := 166) rfl wr_1 dX6_readLine_156 (by decide) (fun hc => ?_) (fun hc => ?_)
      · rw [if_neg hc] at hF
        refine V.aload_n 0 0 0 rfl dX6_readLine_166 rfl ?_
        refine V.iload_n 1 1 1 rfl dX6_readLine_167 rfl ?_
        replace hF := Option.bind_eq_some_iff.mp hF
        obtain ⟨M3, hM3, hF⟩ := hF
        refine V.callV (d' := d - 1) [vi x1] [] (c_X6_readOnce (by omega) hM3) okX6_readOnce gw_1010 rfl rfl (by decide) (hcX6 E _) rfl (Nat.le_of_ble_eq_true rfl) (by omega) dX6_readLine_168 ?_
        rintro _ _ ⟨rfl, rfl⟩
        show V E mX6_readLine d 171 [(0, rf E 46), (1, vi x1)] [] M3 _
        refine V.sub _ [0] rfl ?_
        exact v_X6_readLine_171 hd hF hK
      · rw [if_pos hc] at hF
        refine V.aload_n 0 0 0 rfl dX6_readLine_159 rfl ?_
        replace hF := Option.bind_eq_some_iff.mp hF
        obtain ⟨M4, hM4, hF⟩ := hF
        refine V.callV (d' := d - 1) [] [] (c_X6_readDream (by omega) hM4) okX6_readDream gw_1006 rfl rfl (by decide) (hcX6 E _) rfl (Nat.le_of_ble_eq_true rfl) (by omega) dX6_readLine_160 ?_
        rintro _ _ ⟨rfl, rfl⟩
        show V E mX6_readLine d 163 [(0, rf E 46), (1, vi x1)] [] M4 _
        refine V.goto (tgt := 171) dX6_readLine_163 (by decide) ?_
        refine V.sub _ [0] rfl ?_
        exact v_X6_readLine_171 hd hF hK
    · rw [if_pos hc] at hF
      refine V.aload_n 0 0 0 rfl dX6_readLine_103 rfl ?_
      refine V.get (by decide) (hcX6 E _) rfl inX6 4 (by decide) rfl gw_879 dX6_readLine_104 ?_
      refine V.iconst 2 dX6_readLine_107 ?_
      refine V.aload_n 0 0 0 rfl dX6_readLine_108 rfl ?_
      refine V.get (by decide) (hcX6 E _) rfl inX6 6 (by decide) rfl gw_881 dX6_readLine_109 ?_
      refine V.imul dX6_readLine_112 ?_
      refine V.iconst 1 dX6_readLine_113 ?_
      refine V.iadd dX6_readLine_114 ?_
      refine V.aload_n 0 0 0 rfl dX6_readLine_115 rfl ?_
      refine V.iconst 0 dX6_readLine_116 ?_
      refine V.bipush 9 9 (by decide) dX6_readLine_117 ?_
      replace hF := Option.bind_eq_some_iff.mp hF
      obtain ⟨⟨v5, M6⟩, hv5, hF⟩ := hF
      dsimp only at hF
      refine V.callV (d' := d - 1) [vi 0, vi 9] [vi ((2 * (M2 46 6)) + 1), rf E 49] (c_X6_number (by omega) hv5) okX6_number gw_1002 rfl rfl (by decide) (hcX6 E _) rfl (Nat.le_of_ble_eq_true rfl) (by omega) dX6_readLine_119 ?_
      rintro _ _ ⟨rfl, rfl⟩
      show V E mX6_readLine d 122 [(0, rf E 46), (1, vi x1)] [vi v5, vi ((2 * (M2 46 6)) + 1), rf E 49] M6 _
      replace hF := Option.bind_eq_some_iff.mp hF
      obtain ⟨M7, hM7, hF⟩ := hF
      refine V.iast ar_49 hM7 dX6_readLine_122 ?_
      refine V.aload_n 0 0 0 rfl dX6_readLine_123 rfl ?_
      refine V.get (by decide) (hcX6 E _) rfl inX6 4 (by decide) rfl gw_879 dX6_readLine_124 ?_
      refine V.iconst 2 dX6_readLine_127 ?_
      refine V.aload_n 0 0 0 rfl dX6_readLine_128 rfl ?_
      refine V.get (by decide) (hcX6 E _) rfl inX6 6 (by decide) rfl gw_881 dX6_readLine_129 ?_
      refine V.imul dX6_readLine_132 ?_
      refine V.aload_n 0 0 0 rfl dX6_readLine_133 rfl ?_
      refine V.iconst 0 dX6_readLine_134 ?_
      refine V.bipush 9 9 (by decide) dX6_readLine_135 ?_
      replace hF := Option.bind_eq_some_iff.mp hF
      obtain ⟨⟨v8, M9⟩, hv8, hF⟩ := hF
      dsimp only at hF
      refine V.callV (d' := d - 1) [vi 0, vi 9] [vi (2 * (M7 46 6)), rf E 49] (c_X6_number (by omega) hv8) okX6_number gw_1002 rfl rfl (by decide) (hcX6 E _) rfl (Nat.le_of_ble_eq_true rfl) (by omega) dX6_readLine_137 ?_
      rintro _ _ ⟨rfl, rfl⟩
      show V E mX6_readLine d 140 [(0, rf E 46), (1, vi x1)] [vi v8, vi (2 * (M7 46 6)), rf E 49] M9 _
      replace hF := Option.bind_eq_some_iff.mp hF
      obtain ⟨M10, hM10, hF⟩ := hF
      refine V.iast ar_49 hM10 dX6_readLine_140 ?_
      refine V.aload_n 0 0 0 rfl dX6_readLine_141 rfl ?_
      refine V.dup rfl dX6_readLine_142 ?_
      refine V.get (by decide) (hcX6 E _) rfl inX6 6 (by decide) rfl gw_881 dX6_readLine_143 ?_
      refine V.iconst 1 dX6_readLine_146 ?_
      refine V.iadd dX6_readLine_147 ?_
      replace hF := Option.bind_eq_some_iff.mp hF
      obtain ⟨M11, hM11, hF⟩ := hF
      refine V.put (x := (M10 46 6) + 1) (ty := .int) (Option.some.inj hM11) (by decide) (hcX6 E) rfl inX6 tyX6 tyX6_ok nmX6 (by decide) rfl (by decide +kernel) rfl rfl (Nat.le_of_ble_eq_true rfl) rfl gw_881 dX6_readLine_148 ?_
      refine V.goto (tgt := 171) dX6_readLine_151 (by decide) ?_
      refine V.sub _ [0] rfl ?_
      exact v_X6_readLine_171 hd hF hK
  · rw [if_neg hc] at hF
    cases Option.some.inj hF
    exact V.vret rfl dX6_readLine_98 hK
def f_X6_readLine_53 (n : Nat) (x1 : Int) (M : Mem) : Option (Mem) :=
  if wr x1 ≤ 1 then
    f_X6_readLine_75 n x1 M
  else
    if wr (bAnd (bShr (M 46 8) x1) 1) = 1 then
      (f_X6_fails 4 M).bind fun M1 =>
      f_X6_readLine_75 n x1 M1
    else
      f_X6_readLine_75 n x1 M
set_option maxRecDepth 10000 in
theorem v_X6_readLine_53 {E : En} {d : Nat} {Q : Po} {n : Nat} {x1 : Int} {M : Mem} {z : Mem}  (hd : 5 ≤ d) (hF : f_X6_readLine_53 n x1 M = some z) (hK : Q none z) : V E mX6_readLine d 53 [(0, rf E 46), (1, vi x1)] [] M Q := by
  unfold f_X6_readLine_53 at hF
  refine V.iload_n 1 1 1 rfl dX6_readLine_53 rfl ?_
  refine V.iconst 1 dX6_readLine_54 ?_
  refine V.icmp_le (tgt := 75) rfl wr_1 dX6_readLine_55 (by decide) (fun hc => ?_) (fun hc => ?_)
  · rw [if_pos hc] at hF
    exact v_X6_readLine_75 hd hF hK
  · rw [if_neg hc] at hF
    refine V.aload_n 0 0 0 rfl dX6_readLine_58 rfl ?_
    refine V.get (by decide) (hcX6 E _) rfl inX6 8 (by decide) rfl gw_883 dX6_readLine_59 ?_
    refine V.iload_n 1 1 1 rfl dX6_readLine_62 rfl ?_
    refine V.ishr dX6_readLine_63 ?_
    refine V.iconst 1 dX6_readLine_64 ?_
    refine V.iand dX6_readLine_65 ?_
    refine V.iconst 1 dX6_readLine_66 ?_
    refine V.icmp_ne (tgt := 75) rfl wr_1 dX6_readLine_67 (by decide) (fun hc => ?_) (fun hc => ?_)
    · rw [if_neg hc] at hF
      exact v_X6_readLine_75 hd hF hK
    · rw [if_pos hc] at hF
      refine V.aload_n 0 0 0 rfl dX6_readLine_70 rfl ?_
      refine V.iconst 4 dX6_readLine_71 ?_
      replace hF := Option.bind_eq_some_iff.mp hF
      obtain ⟨M1, hM1, hF⟩ := hF
      refine V.callV (d' := d - 1) [vi 4] [] (c_X6_fails (by omega) hM1) okX6_fails gw_989 rfl rfl (by decide) (hcX6 E _) rfl (Nat.le_of_ble_eq_true rfl) (by omega) dX6_readLine_72 ?_
      rintro _ _ ⟨rfl, rfl⟩
      show V E mX6_readLine d 75 [(0, rf E 46), (1, vi x1)] [] M1 _
      exact v_X6_readLine_75 hd hF hK
def f_X6_readLine_48 (n : Nat) (x1 : Int) (M : Mem) : Option (Mem) :=
  (f_X6_fails 5 M).bind fun M1 =>
  f_X6_readLine_53 n x1 M1
set_option maxRecDepth 10000 in
theorem v_X6_readLine_48 {E : En} {d : Nat} {Q : Po} {n : Nat} {x1 : Int} {M : Mem} {z : Mem}  (hd : 5 ≤ d) (hF : f_X6_readLine_48 n x1 M = some z) (hK : Q none z) : V E mX6_readLine d 48 [(0, rf E 46), (1, vi x1)] [] M Q := by
  unfold f_X6_readLine_48 at hF
  refine V.aload_n 0 0 0 rfl dX6_readLine_48 rfl ?_
  refine V.iconst 5 dX6_readLine_49 ?_
  replace hF := Option.bind_eq_some_iff.mp hF
  obtain ⟨M1, hM1, hF⟩ := hF
  refine V.callV (d' := d - 1) [vi 5] [] (c_X6_fails (by omega) hM1) okX6_fails gw_989 rfl rfl (by decide) (hcX6 E _) rfl (Nat.le_of_ble_eq_true rfl) (by omega) dX6_readLine_50 ?_
  rintro _ _ ⟨rfl, rfl⟩
  show V E mX6_readLine d 53 [(0, rf E 46), (1, vi x1)] [] M1 _
  exact v_X6_readLine_53 hd hF hK
def f_X6_readLine_35 (n : Nat) (x1 : Int) (M : Mem) : Option (Mem) :=
  if wr x1 = 1 then
    if wr (M 46 7) = 4 then
      f_X6_readLine_48 n x1 M
    else
      f_X6_readLine_53 n x1 M
  else
    f_X6_readLine_53 n x1 M
set_option maxRecDepth 10000 in
theorem v_X6_readLine_35 {E : En} {d : Nat} {Q : Po} {n : Nat} {x1 : Int} {M : Mem} {z : Mem}  (hd : 5 ≤ d) (hF : f_X6_readLine_35 n x1 M = some z) (hK : Q none z) : V E mX6_readLine d 35 [(0, rf E 46), (1, vi x1)] [] M Q := by
  unfold f_X6_readLine_35 at hF
  refine V.iload_n 1 1 1 rfl dX6_readLine_35 rfl ?_
  refine V.iconst 1 dX6_readLine_36 ?_
  refine V.icmp_ne (tgt := 53) rfl wr_1 dX6_readLine_37 (by decide) (fun hc => ?_) (fun hc => ?_)
  · rw [if_neg hc] at hF
    exact v_X6_readLine_53 hd hF hK
  · rw [if_pos hc] at hF
    refine V.aload_n 0 0 0 rfl dX6_readLine_40 rfl ?_
    refine V.get (by decide) (hcX6 E _) rfl inX6 7 (by decide) rfl gw_882 dX6_readLine_41 ?_
    refine V.iconst 4 dX6_readLine_44 ?_
    refine V.icmp_ne (tgt := 53) rfl wr_4 dX6_readLine_45 (by decide) (fun hc => ?_) (fun hc => ?_)
    · rw [if_neg hc] at hF
      exact v_X6_readLine_53 hd hF hK
    · rw [if_pos hc] at hF
      exact v_X6_readLine_48 hd hF hK
def f_X6_readLine (n : Nat) (M : Mem) : Option (Mem) :=
  (f_X6_wordHere n M).bind fun v1 =>
  (f_X6_in (wr v1) 0 5 M).bind fun v2 =>
  if wr v2 = 0 then
    (f_X6_fails 2 M).bind fun M3 =>
    some M3
  else
    if wr v1 = 0 then
      if wr (M 46 6) = 4 then
        f_X6_readLine_48 n v1 M
      else
        f_X6_readLine_35 n v1 M
    else
      f_X6_readLine_35 n v1 M
set_option maxRecDepth 10000 in
theorem v_X6_readLine_0 {E : En} {d : Nat} {Q : Po} {n : Nat} {M : Mem} {z : Mem}  (hd : 5 ≤ d) (hF : f_X6_readLine n M = some z) (hK : Q none z) : V E mX6_readLine d 0 [(0, rf E 46)] [] M Q := by
  unfold f_X6_readLine at hF
  refine V.aload_n 0 0 0 rfl dX6_readLine_0 rfl ?_
  replace hF := Option.bind_eq_some_iff.mp hF
  obtain ⟨v1, hv1, hF⟩ := hF
  refine V.callV (d' := d - 1) [] [] (c_X6_wordHere (by omega) hv1) okX6_wordHere gw_997 rfl rfl (by decide) (hcX6 E _) rfl (Nat.le_of_ble_eq_true rfl) (by omega) dX6_readLine_1 ?_
  rintro _ _ ⟨rfl, rfl⟩
  show V E mX6_readLine d 4 [(0, rf E 46)] [vi v1] M _
  refine V.istore_n 1 1 [(1, vi v1), (0, rf E 46)] rfl dX6_readLine_4 (by decide) rfl ?_
  refine V.iload_n 1 1 0 rfl dX6_readLine_5 rfl ?_
  refine V.i2l dX6_readLine_6 ?_
  refine V.lconst 0 0 (by decide) dX6_readLine_7 ?_
  refine V.ldc2 109 5 5 (by decide) gw_1001 dX6_readLine_8 ?_
  replace hF := Option.bind_eq_some_iff.mp hF
  obtain ⟨v2, hv2, hF⟩ := hF
  refine V.callS (d' := d - 1) [vl (wr v1), vl 0, vl 5] [] (c_X6_in (by omega) hv2) okX6_in gw_966 rfl rfl (Nat.le_of_ble_eq_true rfl) (by omega) dX6_readLine_11 ?_
  rintro _ _ ⟨rfl, rfl⟩
  show V E mX6_readLine d 14 [(1, vi v1), (0, rf E 46)] [vi v2] M _
  refine V.if_ne (tgt := 23) rfl dX6_readLine_14 (by decide) (fun hc => ?_) (fun hc => ?_)
  · rw [if_neg hc] at hF
    refine V.iload_n 1 1 0 rfl dX6_readLine_23 rfl ?_
    refine V.if_ne (tgt := 35) rfl dX6_readLine_24 (by decide) (fun hc => ?_) (fun hc => ?_)
    · rw [if_neg hc] at hF
      refine V.sub _ [1, 0] rfl ?_
      exact v_X6_readLine_35 hd hF hK
    · rw [if_pos hc] at hF
      refine V.aload_n 0 0 1 rfl dX6_readLine_27 rfl ?_
      refine V.get (by decide) (hcX6 E _) rfl inX6 6 (by decide) rfl gw_881 dX6_readLine_28 ?_
      refine V.iconst 4 dX6_readLine_31 ?_
      refine V.icmp_eq (tgt := 48) rfl wr_4 dX6_readLine_32 (by decide) (fun hc => ?_) (fun hc => ?_)
      · rw [if_pos hc] at hF
        refine V.sub _ [1, 0] rfl ?_
        exact v_X6_readLine_48 hd hF hK
      · rw [if_neg hc] at hF
        refine V.sub _ [1, 0] rfl ?_
        exact v_X6_readLine_35 hd hF hK
  · rw [if_pos hc] at hF
    refine V.aload_n 0 0 1 rfl dX6_readLine_17 rfl ?_
    refine V.iconst 2 dX6_readLine_18 ?_
    replace hF := Option.bind_eq_some_iff.mp hF
    obtain ⟨M3, hM3, hF⟩ := hF
    refine V.callV (d' := d - 1) [vi 2] [] (c_X6_fails (by omega) hM3) okX6_fails gw_989 rfl rfl (by decide) (hcX6 E _) rfl (Nat.le_of_ble_eq_true rfl) (by omega) dX6_readLine_19 ?_
    rintro _ _ ⟨rfl, rfl⟩
    show V E mX6_readLine d 22 [(1, vi v1), (0, rf E 46)] [] M3 _
    cases Option.some.inj hF
    exact V.vret rfl dX6_readLine_22 hK
theorem c_X6_readLine {E : En} {d : Nat} {n : Nat} {M : Mem} {z : Mem}  (hd : 5 ≤ d) (hF : f_X6_readLine n M = some z) : Cn E mX6_readLine d [rf E 46] M (fun v N => v = none ∧ z = N) := by
  refine V.entry (by decide +kernel) (Nat.le_of_ble_eq_true rfl) ?_
  exact v_X6_readLine_0  hd hF ⟨rfl, rfl⟩
abbrev mX6_text : MI := (yX6_text, cX6_text, 3, (some .int))
theorem okX6_text : OKV mX6_text 0 := ⟨gw_974, gw_975, gw_64, gw_976, (by decide +kernel), (by decide)⟩
def f_X6_text_146 (n : Nat) (x1 : Int) (M : Mem) : Option (Int × Mem) :=
  (some (st M 46 1 (M 46 6))).bind fun M1 =>
  (some (st M1 46 3 (M1 46 7))).bind fun M2 =>
  (some (st M2 46 22 0)).bind fun M3 =>
  (some (st M3 56 0 0)).bind fun M4 =>
  (some (st M4 56 1 0)).bind fun M5 =>
  some (x1, M5)
set_option maxRecDepth 10000 in
theorem v_X6_text_146 {E : En} {d : Nat} {Q : Po} {n : Nat} {x1 : Int} {M : Mem} {z : Int × Mem}  (hd : 6 ≤ d) (hF : f_X6_text_146 n x1 M = some z) (hK : Q (some (vi z.1)) z.2) : V E mX6_text d 146 [(0, rf E 46), (1, vi x1)] [] M Q := by
  unfold f_X6_text_146 at hF
  refine V.aload_n 0 0 0 rfl dX6_text_146 rfl ?_
  refine V.aload_n 0 0 0 rfl dX6_text_147 rfl ?_
  refine V.get (by decide) (hcX6 E _) rfl inX6 6 (by decide) rfl gw_881 dX6_text_148 ?_
  replace hF := Option.bind_eq_some_iff.mp hF
  obtain ⟨M1, hM1, hF⟩ := hF
  refine V.put (x := M 46 6) (ty := .int) (Option.some.inj hM1) (by decide) (hcX6 E) rfl inX6 tyX6 tyX6_ok nmX6 (by decide) rfl (by decide +kernel) rfl rfl (Nat.le_of_ble_eq_true rfl) rfl gw_876 dX6_text_151 ?_
  refine V.aload_n 0 0 0 rfl dX6_text_154 rfl ?_
  refine V.aload_n 0 0 0 rfl dX6_text_155 rfl ?_
  refine V.get (by decide) (hcX6 E _) rfl inX6 7 (by decide) rfl gw_882 dX6_text_156 ?_
  replace hF := Option.bind_eq_some_iff.mp hF
  obtain ⟨M2, hM2, hF⟩ := hF
  refine V.put (x := M1 46 7) (ty := .int) (Option.some.inj hM2) (by decide) (hcX6 E) rfl inX6 tyX6 tyX6_ok nmX6 (by decide) rfl (by decide +kernel) rfl rfl (Nat.le_of_ble_eq_true rfl) rfl gw_878 dX6_text_159 ?_
  refine V.aload_n 0 0 0 rfl dX6_text_162 rfl ?_
  refine V.iconst 0 dX6_text_163 ?_
  replace hF := Option.bind_eq_some_iff.mp hF
  obtain ⟨M3, hM3, hF⟩ := hF
  refine V.put (x := 0) (ty := .int) (Option.some.inj hM3) (by decide) (hcX6 E) rfl inX6 tyX6 tyX6_ok nmX6 (by decide) rfl (by decide +kernel) rfl rfl (Nat.le_of_ble_eq_true rfl) rfl gw_897 dX6_text_164 ?_
  refine V.aload_n 0 0 0 rfl dX6_text_167 rfl ?_
  refine V.get (by decide) (hcX6 E _) rfl inX6 23 (by decide) rfl gw_898 dX6_text_168 ?_
  refine V.iconst 0 dX6_text_171 ?_
  refine V.iconst 0 dX6_text_172 ?_
  replace hF := Option.bind_eq_some_iff.mp hF
  obtain ⟨M4, hM4, hF⟩ := hF
  refine V.zast ar_56 (Or.inl rfl) ((wt_lit 0 0 wr_0 (by decide)).trans hM4) dX6_text_173 ?_
  refine V.aload_n 0 0 0 rfl dX6_text_174 rfl ?_
  refine V.get (by decide) (hcX6 E _) rfl inX6 23 (by decide) rfl gw_898 dX6_text_175 ?_
  refine V.iconst 1 dX6_text_178 ?_
  refine V.iconst 0 dX6_text_179 ?_
  replace hF := Option.bind_eq_some_iff.mp hF
  obtain ⟨M5, hM5, hF⟩ := hF
  refine V.zast ar_56 (Or.inl rfl) ((wt_lit 1 1 wr_1 (by decide)).trans hM5) dX6_text_180 ?_
  refine V.iload_n 1 1 1 rfl dX6_text_181 rfl ?_
  cases Option.some.inj hF
  exact V.iret rfl dX6_text_182 hK
def f_X6_text_106 (n : Nat) (x1 : Int) (x2 : Int) (M : Mem) : Option ((Int × Mem) ⊕ (Int × Mem)) :=
  if 25 ≤ wr x2 then
    (f_X6_text_146 n x1 M).map Sum.inr
  else
    (rd M 49 25 x2).bind fun v1 =>
    (wt M 47 125 x2 v1).bind fun M2 =>
    (rd M2 50 4 ((wr x2).tmod (wr 4))).bind fun v3 =>
    (wt M2 48 4 ((wr x2).tmod (wr 4)) v3).bind fun M4 =>
    some (.inl (x2 + 1, M4))
set_option maxRecDepth 10000 in
theorem v_X6_text_106 {E : En} {d : Nat} {Q : Po} {n : Nat} {x1 : Int} {x2 : Int} {M : Mem} {z : (Int × Mem) ⊕ (Int × Mem)}  (hd : 6 ≤ d) (hF : f_X6_text_106 n x1 x2 M = some z) (hC0 : ∀ s' : Int × Mem, z = (.inl s') → V E mX6_text d 106 [(0, rf E 46), (1, vi x1), (2, vi (s'.1))] [] s'.2 Q) (hX : ∀ z0 : Int × Mem, z = (.inr z0) → Q (some (vi z0.1)) z0.2) : V E mX6_text d 106 [(0, rf E 46), (1, vi x1), (2, vi x2)] [] M Q := by
  unfold f_X6_text_106 at hF
  refine V.iload_n 2 2 2 rfl dX6_text_106 rfl ?_
  refine V.bipush 25 25 (by decide) dX6_text_107 ?_
  refine V.icmp_ge (tgt := 146) rfl wr_25 dX6_text_109 (by decide) (fun hc => ?_) (fun hc => ?_)
  · rw [if_pos hc] at hF
    replace hF := Option.map_eq_some_iff.mp hF
    obtain ⟨z0, hF, rfl⟩ := hF
    refine V.sub _ [0, 1] rfl ?_
    exact v_X6_text_146 hd hF (hX _ rfl)
  · rw [if_neg hc] at hF
    refine V.aload_n 0 0 0 rfl dX6_text_112 rfl ?_
    refine V.get (by decide) (hcX6 E _) rfl inX6 0 (by decide) rfl gw_875 dX6_text_113 ?_
    refine V.iload_n 2 2 2 rfl dX6_text_116 rfl ?_
    refine V.aload_n 0 0 0 rfl dX6_text_117 rfl ?_
    refine V.get (by decide) (hcX6 E _) rfl inX6 4 (by decide) rfl gw_879 dX6_text_118 ?_
    refine V.iload_n 2 2 2 rfl dX6_text_121 rfl ?_
    replace hF := Option.bind_eq_some_iff.mp hF
    obtain ⟨v1, hv1, hF⟩ := hF
    refine V.iald ar_49 hv1 dX6_text_122 ?_
    replace hF := Option.bind_eq_some_iff.mp hF
    obtain ⟨M2, hM2, hF⟩ := hF
    refine V.iast ar_47 hM2 dX6_text_123 ?_
    refine V.aload_n 0 0 0 rfl dX6_text_124 rfl ?_
    refine V.get (by decide) (hcX6 E _) rfl inX6 2 (by decide) rfl gw_877 dX6_text_125 ?_
    refine V.iload_n 2 2 2 rfl dX6_text_128 rfl ?_
    refine V.iconst 4 dX6_text_129 ?_
    refine V.irem (by decide) dX6_text_130 ?_
    refine V.aload_n 0 0 0 rfl dX6_text_131 rfl ?_
    refine V.get (by decide) (hcX6 E _) rfl inX6 5 (by decide) rfl gw_880 dX6_text_132 ?_
    refine V.iload_n 2 2 2 rfl dX6_text_135 rfl ?_
    refine V.iconst 4 dX6_text_136 ?_
    refine V.irem (by decide) dX6_text_137 ?_
    replace hF := Option.bind_eq_some_iff.mp hF
    obtain ⟨v3, hv3, hF⟩ := hF
    refine V.iald ar_50 hv3 dX6_text_138 ?_
    replace hF := Option.bind_eq_some_iff.mp hF
    obtain ⟨M4, hM4, hF⟩ := hF
    refine V.iast ar_48 hM4 dX6_text_139 ?_
    refine V.iinc 2 2 1 [(2, vi (x2 + 1)), (0, rf E 46), (1, vi x1)] dX6_text_140 rfl (by decide) rfl ?_
    refine V.goto (tgt := 106) dX6_text_143 (by decide) ?_
    cases Option.some.inj hF
    refine V.sub _ [1, 2, 0] rfl ?_
    exact hC0 _ rfl
theorem l_X6_text_106 {E : En} {d : Nat} {Q : Po} {n : Nat} {x1 : Int} {k : Nat} {s : Int × Mem} {z : Int × Mem}  (hd : 6 ≤ d) (hF : lp (fun s => f_X6_text_106 n x1 s.1 s.2) k s = some z) (hK : Q (some (vi z.1)) z.2) : V E mX6_text d 106 [(0, rf E 46), (1, vi x1), (2, vi s.1)] [] s.2 Q := by
  refine lp_ind (P := fun s => V E mX6_text d 106 [(0, rf E 46), (1, vi x1), (2, vi s.1)] [] s.2 Q) (z0 := z) ?_ k s hF
  intro s z' hF hc hx
  exact v_X6_text_106 hd hF (fun s' e => hc s' e) (fun z0 e => by rw [hx _ e]; exact hK)
def f_X6_text_76 (n : Nat) (x1 : Int) (M : Mem) : Option (Int × Mem) :=
  (some (st M 46 10 0)).bind fun M1 =>
  (some (st M1 46 11 (M1 46 12))).bind fun M2 =>
  if wr (M2 46 12) ≤ 0 then
    lp (fun s => f_X6_text_106 n x1 s.1 s.2) n (0, M2)
  else
    some ((-10) - (M2 46 13), M2)
set_option maxRecDepth 10000 in
theorem v_X6_text_76 {E : En} {d : Nat} {Q : Po} {n : Nat} {x1 : Int} {M : Mem} {z : Int × Mem}  (hd : 6 ≤ d) (hF : f_X6_text_76 n x1 M = some z) (hK : Q (some (vi z.1)) z.2) : V E mX6_text d 76 [(0, rf E 46), (1, vi x1)] [] M Q := by
  unfold f_X6_text_76 at hF
  refine V.aload_n 0 0 0 rfl dX6_text_76 rfl ?_
  refine V.iconst 0 dX6_text_77 ?_
  replace hF := Option.bind_eq_some_iff.mp hF
  obtain ⟨M1, hM1, hF⟩ := hF
  refine V.put (x := 0) (ty := .int) (Option.some.inj hM1) (by decide) (hcX6 E) rfl inX6 tyX6 tyX6_ok nmX6 (by decide) rfl (by decide +kernel) rfl rfl (Nat.le_of_ble_eq_true rfl) rfl gw_885 dX6_text_78 ?_
  refine V.aload_n 0 0 0 rfl dX6_text_81 rfl ?_
  refine V.aload_n 0 0 0 rfl dX6_text_82 rfl ?_
  refine V.get (by decide) (hcX6 E _) rfl inX6 12 (by decide) rfl gw_887 dX6_text_83 ?_
  replace hF := Option.bind_eq_some_iff.mp hF
  obtain ⟨M2, hM2, hF⟩ := hF
  refine V.put (x := M1 46 12) (ty := .int) (Option.some.inj hM2) (by decide) (hcX6 E) rfl inX6 tyX6 tyX6_ok nmX6 (by decide) rfl (by decide +kernel) rfl rfl (Nat.le_of_ble_eq_true rfl) rfl gw_886 dX6_text_86 ?_
  refine V.aload_n 0 0 0 rfl dX6_text_89 rfl ?_
  refine V.get (by decide) (hcX6 E _) rfl inX6 12 (by decide) rfl gw_887 dX6_text_90 ?_
  refine V.if_le (tgt := 104) rfl dX6_text_93 (by decide) (fun hc => ?_) (fun hc => ?_)
  · rw [if_pos hc] at hF
    refine V.iconst 0 dX6_text_104 ?_
    refine V.istore_n 2 2 [(2, vi 0), (0, rf E 46), (1, vi x1)] rfl dX6_text_105 (by decide) rfl ?_
    refine V.sub _ [1, 2, 0] rfl ?_
    exact l_X6_text_106 hd hF hK
  · rw [if_neg hc] at hF
    refine V.bipush (-10) (-10) (by decide) dX6_text_96 ?_
    refine V.aload_n 0 0 0 rfl dX6_text_98 rfl ?_
    refine V.get (by decide) (hcX6 E _) rfl inX6 13 (by decide) rfl gw_888 dX6_text_99 ?_
    refine V.isub dX6_text_102 ?_
    cases Option.some.inj hF
    exact V.iret rfl dX6_text_103 hK
def f_X6_text_52 (n : Nat) (x1 : Int) (M : Mem) : Option ((Int × Mem) ⊕ (Int × Mem)) :=
  if wr (M 46 12) = 0 then
    if wr (M 46 16) = 0 then
      (f_X6_text_76 n x1 M).map Sum.inr
    else
      (f_X6_readLine n M).bind fun M1 =>
      some (.inl (x1 + 1, M1))
  else
    (f_X6_text_76 n x1 M).map Sum.inr
set_option maxRecDepth 10000 in
theorem v_X6_text_52 {E : En} {d : Nat} {Q : Po} {n : Nat} {x1 : Int} {M : Mem} {z : (Int × Mem) ⊕ (Int × Mem)}  (hd : 6 ≤ d) (hF : f_X6_text_52 n x1 M = some z) (hC0 : ∀ s' : Int × Mem, z = (.inl s') → V E mX6_text d 52 [(0, rf E 46), (1, vi (s'.1))] [] s'.2 Q) (hX : ∀ z0 : Int × Mem, z = (.inr z0) → Q (some (vi z0.1)) z0.2) : V E mX6_text d 52 [(0, rf E 46), (1, vi x1)] [] M Q := by
  unfold f_X6_text_52 at hF
  refine V.aload_n 0 0 0 rfl dX6_text_52 rfl ?_
  refine V.get (by decide) (hcX6 E _) rfl inX6 12 (by decide) rfl gw_887 dX6_text_53 ?_
  refine V.if_ne (tgt := 76) rfl dX6_text_56 (by decide) (fun hc => ?_) (fun hc => ?_)
  · rw [if_neg hc] at hF
    replace hF := Option.map_eq_some_iff.mp hF
    obtain ⟨z0, hF, rfl⟩ := hF
    exact v_X6_text_76 hd hF (hX _ rfl)
  · rw [if_pos hc] at hF
    refine V.aload_n 0 0 0 rfl dX6_text_59 rfl ?_
    refine V.get (by decide) (hcX6 E _) rfl inX6 16 (by decide) rfl gw_891 dX6_text_60 ?_
    refine V.if_eq (tgt := 76) rfl dX6_text_63 (by decide) (fun hc => ?_) (fun hc => ?_)
    · rw [if_pos hc] at hF
      replace hF := Option.map_eq_some_iff.mp hF
      obtain ⟨z0, hF, rfl⟩ := hF
      exact v_X6_text_76 hd hF (hX _ rfl)
    · rw [if_neg hc] at hF
      refine V.aload_n 0 0 0 rfl dX6_text_66 rfl ?_
      replace hF := Option.bind_eq_some_iff.mp hF
      obtain ⟨M1, hM1, hF⟩ := hF
      refine V.callV (d' := d - 1) [] [] (c_X6_readLine (by omega) hM1) okX6_readLine gw_993 rfl rfl (by decide) (hcX6 E _) rfl (Nat.le_of_ble_eq_true rfl) (by omega) dX6_text_67 ?_
      rintro _ _ ⟨rfl, rfl⟩
      show V E mX6_text d 70 [(0, rf E 46), (1, vi x1)] [] M1 _
      refine V.iinc 1 1 1 [(1, vi (x1 + 1)), (0, rf E 46)] dX6_text_70 rfl (by decide) rfl ?_
      refine V.goto (tgt := 52) dX6_text_73 (by decide) ?_
      cases Option.some.inj hF
      refine V.sub _ [1, 0] rfl ?_
      exact hC0 _ rfl
theorem l_X6_text_52 {E : En} {d : Nat} {Q : Po} {n : Nat} {k : Nat} {s : Int × Mem} {z : Int × Mem}  (hd : 6 ≤ d) (hF : lp (fun s => f_X6_text_52 n s.1 s.2) k s = some z) (hK : Q (some (vi z.1)) z.2) : V E mX6_text d 52 [(0, rf E 46), (1, vi s.1)] [] s.2 Q := by
  refine lp_ind (P := fun s => V E mX6_text d 52 [(0, rf E 46), (1, vi s.1)] [] s.2 Q) (z0 := z) ?_ k s hF
  intro s z' hF hc hx
  exact v_X6_text_52 hd hF (fun s' e => hc s' e) (fun z0 e => by rw [hx _ e]; exact hK)
def f_X6_text_48 (n : Nat) (x1 : Int) (M : Mem) : Option (Int × Mem) :=
  (f_X6_step n M).bind fun M1 =>
  lp (fun s => f_X6_text_52 n s.1 s.2) n (x1, M1)
set_option maxRecDepth 10000 in
theorem v_X6_text_48 {E : En} {d : Nat} {Q : Po} {n : Nat} {x1 : Int} {M : Mem} {z : Int × Mem}  (hd : 6 ≤ d) (hF : f_X6_text_48 n x1 M = some z) (hK : Q (some (vi z.1)) z.2) : V E mX6_text d 48 [(0, rf E 46), (1, vi x1)] [] M Q := by
  unfold f_X6_text_48 at hF
  refine V.aload_n 0 0 0 rfl dX6_text_48 rfl ?_
  replace hF := Option.bind_eq_some_iff.mp hF
  obtain ⟨M1, hM1, hF⟩ := hF
  refine V.callV (d' := d - 1) [] [] (c_X6_step (by omega) hM1) okX6_step gw_977 rfl rfl (by decide) (hcX6 E _) rfl (Nat.le_of_ble_eq_true rfl) (by omega) dX6_text_49 ?_
  rintro _ _ ⟨rfl, rfl⟩
  show V E mX6_text d 52 [(0, rf E 46), (1, vi x1)] [] M1 _
  exact l_X6_text_52 hd hF hK
def f_X6_text_29 (n : Nat) (x1 : Int) (x2 : Int) (M : Mem) : Option ((Int × Mem) ⊕ (Int × Mem)) :=
  if 25 ≤ wr x2 then
    (f_X6_text_48 n x1 M).map Sum.inr
  else
    (wt M 49 25 x2 0).bind fun M1 =>
    some (.inl (x2 + 1, M1))
set_option maxRecDepth 10000 in
theorem v_X6_text_29 {E : En} {d : Nat} {Q : Po} {n : Nat} {x1 : Int} {x2 : Int} {M : Mem} {z : (Int × Mem) ⊕ (Int × Mem)}  (hd : 6 ≤ d) (hF : f_X6_text_29 n x1 x2 M = some z) (hC0 : ∀ s' : Int × Mem, z = (.inl s') → V E mX6_text d 29 [(0, rf E 46), (1, vi x1), (2, vi (s'.1))] [] s'.2 Q) (hX : ∀ z0 : Int × Mem, z = (.inr z0) → Q (some (vi z0.1)) z0.2) : V E mX6_text d 29 [(0, rf E 46), (1, vi x1), (2, vi x2)] [] M Q := by
  unfold f_X6_text_29 at hF
  refine V.iload_n 2 2 2 rfl dX6_text_29 rfl ?_
  refine V.bipush 25 25 (by decide) dX6_text_30 ?_
  refine V.icmp_ge (tgt := 48) rfl wr_25 dX6_text_32 (by decide) (fun hc => ?_) (fun hc => ?_)
  · rw [if_pos hc] at hF
    replace hF := Option.map_eq_some_iff.mp hF
    obtain ⟨z0, hF, rfl⟩ := hF
    refine V.sub _ [0, 1] rfl ?_
    exact v_X6_text_48 hd hF (hX _ rfl)
  · rw [if_neg hc] at hF
    refine V.aload_n 0 0 0 rfl dX6_text_35 rfl ?_
    refine V.get (by decide) (hcX6 E _) rfl inX6 4 (by decide) rfl gw_879 dX6_text_36 ?_
    refine V.iload_n 2 2 2 rfl dX6_text_39 rfl ?_
    refine V.iconst 0 dX6_text_40 ?_
    replace hF := Option.bind_eq_some_iff.mp hF
    obtain ⟨M1, hM1, hF⟩ := hF
    refine V.iast ar_49 hM1 dX6_text_41 ?_
    refine V.iinc 2 2 1 [(2, vi (x2 + 1)), (0, rf E 46), (1, vi x1)] dX6_text_42 rfl (by decide) rfl ?_
    refine V.goto (tgt := 29) dX6_text_45 (by decide) ?_
    cases Option.some.inj hF
    refine V.sub _ [1, 2, 0] rfl ?_
    exact hC0 _ rfl
theorem l_X6_text_29 {E : En} {d : Nat} {Q : Po} {n : Nat} {x1 : Int} {k : Nat} {s : Int × Mem} {z : Int × Mem}  (hd : 6 ≤ d) (hF : lp (fun s => f_X6_text_29 n x1 s.1 s.2) k s = some z) (hK : Q (some (vi z.1)) z.2) : V E mX6_text d 29 [(0, rf E 46), (1, vi x1), (2, vi s.1)] [] s.2 Q := by
  refine lp_ind (P := fun s => V E mX6_text d 29 [(0, rf E 46), (1, vi x1), (2, vi s.1)] [] s.2 Q) (z0 := z) ?_ k s hF
  intro s z' hF hc hx
  exact v_X6_text_29 hd hF (fun s' e => hc s' e) (fun z0 e => by rw [hx _ e]; exact hK)
def f_X6_text (n : Nat) (M : Mem) : Option (Int × Mem) :=
  (some (st M 46 12 0)).bind fun M1 =>
  (some (st M1 46 14 0)).bind fun M2 =>
  (some (st M2 46 6 0)).bind fun M3 =>
  (some (st M3 46 7 0)).bind fun M4 =>
  (some (st M4 46 8 0)).bind fun M5 =>
  lp (fun s => f_X6_text_29 n 0 s.1 s.2) n (0, M5)
set_option maxRecDepth 10000 in
theorem v_X6_text_0 {E : En} {d : Nat} {Q : Po} {n : Nat} {M : Mem} {z : Int × Mem}  (hd : 6 ≤ d) (hF : f_X6_text n M = some z) (hK : Q (some (vi z.1)) z.2) : V E mX6_text d 0 [(0, rf E 46)] [] M Q := by
  unfold f_X6_text at hF
  refine V.aload_n 0 0 0 rfl dX6_text_0 rfl ?_
  refine V.iconst 0 dX6_text_1 ?_
  replace hF := Option.bind_eq_some_iff.mp hF
  obtain ⟨M1, hM1, hF⟩ := hF
  refine V.put (x := 0) (ty := .int) (Option.some.inj hM1) (by decide) (hcX6 E) rfl inX6 tyX6 tyX6_ok nmX6 (by decide) rfl (by decide +kernel) rfl rfl (Nat.le_of_ble_eq_true rfl) rfl gw_887 dX6_text_2 ?_
  refine V.aload_n 0 0 0 rfl dX6_text_5 rfl ?_
  refine V.iconst 0 dX6_text_6 ?_
  replace hF := Option.bind_eq_some_iff.mp hF
  obtain ⟨M2, hM2, hF⟩ := hF
  refine V.put (x := 0) (ty := .int) (Option.some.inj hM2) (by decide) (hcX6 E) rfl inX6 tyX6 tyX6_ok nmX6 (by decide) rfl (by decide +kernel) rfl rfl (Nat.le_of_ble_eq_true rfl) rfl gw_889 dX6_text_7 ?_
  refine V.aload_n 0 0 0 rfl dX6_text_10 rfl ?_
  refine V.iconst 0 dX6_text_11 ?_
  replace hF := Option.bind_eq_some_iff.mp hF
  obtain ⟨M3, hM3, hF⟩ := hF
  refine V.put (x := 0) (ty := .int) (Option.some.inj hM3) (by decide) (hcX6 E) rfl inX6 tyX6 tyX6_ok nmX6 (by decide) rfl (by decide +kernel) rfl rfl (Nat.le_of_ble_eq_true rfl) rfl gw_881 dX6_text_12 ?_
  refine V.aload_n 0 0 0 rfl dX6_text_15 rfl ?_
  refine V.iconst 0 dX6_text_16 ?_
  replace hF := Option.bind_eq_some_iff.mp hF
  obtain ⟨M4, hM4, hF⟩ := hF
  refine V.put (x := 0) (ty := .int) (Option.some.inj hM4) (by decide) (hcX6 E) rfl inX6 tyX6 tyX6_ok nmX6 (by decide) rfl (by decide +kernel) rfl rfl (Nat.le_of_ble_eq_true rfl) rfl gw_882 dX6_text_17 ?_
  refine V.aload_n 0 0 0 rfl dX6_text_20 rfl ?_
  refine V.iconst 0 dX6_text_21 ?_
  replace hF := Option.bind_eq_some_iff.mp hF
  obtain ⟨M5, hM5, hF⟩ := hF
  refine V.put (x := 0) (ty := .int) (Option.some.inj hM5) (by decide) (hcX6 E) rfl inX6 tyX6 tyX6_ok nmX6 (by decide) rfl (by decide +kernel) rfl rfl (Nat.le_of_ble_eq_true rfl) rfl gw_883 dX6_text_22 ?_
  refine V.iconst 0 dX6_text_25 ?_
  refine V.istore_n 1 1 [(1, vi 0), (0, rf E 46)] rfl dX6_text_26 (by decide) rfl ?_
  refine V.iconst 0 dX6_text_27 ?_
  refine V.istore_n 2 2 [(2, vi 0), (1, vi 0), (0, rf E 46)] rfl dX6_text_28 (by decide) rfl ?_
  refine V.sub _ [2, 1, 0] rfl ?_
  exact l_X6_text_29 hd hF hK
theorem c_X6_text {E : En} {d : Nat} {n : Nat} {M : Mem} {zr : Int} {zM : Mem}  (hd : 6 ≤ d) (hF : f_X6_text n M = some (zr, zM)) : Cn E mX6_text d [rf E 46] M (fun v N => v = some (vi zr) ∧ zM = N) := by
  refine V.entry (by decide +kernel) (Nat.le_of_ble_eq_true rfl) ?_
  exact v_X6_text_0  hd hF ⟨rfl, rfl⟩
abbrev mX6_fault : MI := (yX6_fault, cX6_fault, 1, (some .int))
theorem okX6_fault : OKV mX6_fault 0 := ⟨gw_1015, gw_1016, gw_64, gw_1017, (by decide +kernel), (by decide)⟩
def f_X6_fault (M : Mem) : Option (Int) :=
  some (M 46 11)
set_option maxRecDepth 10000 in
theorem v_X6_fault_0 {E : En} {d : Nat} {Q : Po} {M : Mem} {z : Int}  (hd : 1 ≤ d) (hF : f_X6_fault M = some z) (hK : Q (some (vi z)) M) : V E mX6_fault d 0 [(0, rf E 46)] [] M Q := by
  unfold f_X6_fault at hF
  refine V.aload_n 0 0 0 rfl dX6_fault_0 rfl ?_
  refine V.get (by decide) (hcX6 E _) rfl inX6 11 (by decide) rfl gw_886 dX6_fault_1 ?_
  cases Option.some.inj hF
  exact V.iret rfl dX6_fault_4 hK
theorem c_X6_fault {E : En} {d : Nat} {M : Mem} {z : Int}  (hd : 1 ≤ d) (hF : f_X6_fault M = some z) : Cn E mX6_fault d [rf E 46] M (fun v N => v = some (vi z) ∧ M = N) := by
  refine V.entry (by decide +kernel) (Nat.le_of_ble_eq_true rfl) ?_
  exact v_X6_fault_0  hd hF ⟨rfl, rfl⟩
abbrev mX6_isLand : MI := (yX6_isLand, cX6_isLand, 2, (some .boolean))
theorem okX6_isLand : OKV mX6_isLand 1 := ⟨gw_1036, gw_34, gw_64, gw_1037, (by decide +kernel), (by decide)⟩
def f_X6_isLand (x1 : Int) (M : Mem) : Option (Int) :=
  (f_X6_in (wr x1) 0 (wr ((M 46 1) - 1)) M).bind fun v1 =>
  (bz v1).bind fun v2 =>
  some v2
set_option maxRecDepth 10000 in
theorem v_X6_isLand_0 {E : En} {d : Nat} {Q : Po} {x1 : Int} {M : Mem} {z : Int}  (hd : 2 ≤ d) (hF : f_X6_isLand x1 M = some z) (hK : Q (some (vi z)) M) : V E mX6_isLand d 0 [(0, rf E 46), (1, vi x1)] [] M Q := by
  unfold f_X6_isLand at hF
  refine V.iload_n 1 1 1 rfl dX6_isLand_0 rfl ?_
  refine V.i2l dX6_isLand_1 ?_
  refine V.lconst 0 0 (by decide) dX6_isLand_2 ?_
  refine V.aload_n 0 0 0 rfl dX6_isLand_3 rfl ?_
  refine V.get (by decide) (hcX6 E _) rfl inX6 1 (by decide) rfl gw_876 dX6_isLand_4 ?_
  refine V.iconst 1 dX6_isLand_7 ?_
  refine V.isub dX6_isLand_8 ?_
  refine V.i2l dX6_isLand_9 ?_
  replace hF := Option.bind_eq_some_iff.mp hF
  obtain ⟨v1, hv1, hF⟩ := hF
  refine V.callS (d' := d - 1) [vl (wr x1), vl 0, vl (wr ((M 46 1) - 1))] [] (c_X6_in (by omega) hv1) okX6_in gw_966 rfl rfl (Nat.le_of_ble_eq_true rfl) (by omega) dX6_isLand_10 ?_
  rintro _ _ ⟨rfl, rfl⟩
  show V E mX6_isLand d 13 [(0, rf E 46), (1, vi x1)] [vi v1] M _
  replace hF := Option.bind_eq_some_iff.mp hF
  obtain ⟨v2, hv2, hF⟩ := hF
  obtain ⟨hzv2, rfl⟩ := bz_some hv2
  cases Option.some.inj hF
  exact V.zret rfl hzv2 dX6_isLand_13 hK
theorem c_X6_isLand {E : En} {d : Nat} {x1 : Int} {M : Mem} {z : Int}  (hd : 2 ≤ d) (hF : f_X6_isLand x1 M = some z) : Cn E mX6_isLand d [rf E 46, vi x1] M (fun v N => v = some (vi z) ∧ M = N) := by
  refine V.entry (by decide +kernel) (Nat.le_of_ble_eq_true rfl) ?_
  exact v_X6_isLand_0  hd hF ⟨rfl, rfl⟩
abbrev mX6_isReading : MI := (yX6_isReading, cX6_isReading, 2, (some .boolean))
theorem okX6_isReading : OKV mX6_isReading 1 := ⟨gw_1044, gw_35, gw_64, gw_1045, (by decide +kernel), (by decide)⟩
def f_X6_isReading (x1 : Int) (M : Mem) : Option (Int) :=
  (f_X6_in (wr x1) 0 (wr ((M 46 3) - 1)) M).bind fun v1 =>
  (bz v1).bind fun v2 =>
  some v2
set_option maxRecDepth 10000 in
theorem v_X6_isReading_0 {E : En} {d : Nat} {Q : Po} {x1 : Int} {M : Mem} {z : Int}  (hd : 2 ≤ d) (hF : f_X6_isReading x1 M = some z) (hK : Q (some (vi z)) M) : V E mX6_isReading d 0 [(0, rf E 46), (1, vi x1)] [] M Q := by
  unfold f_X6_isReading at hF
  refine V.iload_n 1 1 1 rfl dX6_isReading_0 rfl ?_
  refine V.i2l dX6_isReading_1 ?_
  refine V.lconst 0 0 (by decide) dX6_isReading_2 ?_
  refine V.aload_n 0 0 0 rfl dX6_isReading_3 rfl ?_
  refine V.get (by decide) (hcX6 E _) rfl inX6 3 (by decide) rfl gw_878 dX6_isReading_4 ?_
  refine V.iconst 1 dX6_isReading_7 ?_
  refine V.isub dX6_isReading_8 ?_
  refine V.i2l dX6_isReading_9 ?_
  replace hF := Option.bind_eq_some_iff.mp hF
  obtain ⟨v1, hv1, hF⟩ := hF
  refine V.callS (d' := d - 1) [vl (wr x1), vl 0, vl (wr ((M 46 3) - 1))] [] (c_X6_in (by omega) hv1) okX6_in gw_966 rfl rfl (Nat.le_of_ble_eq_true rfl) (by omega) dX6_isReading_10 ?_
  rintro _ _ ⟨rfl, rfl⟩
  show V E mX6_isReading d 13 [(0, rf E 46), (1, vi x1)] [vi v1] M _
  replace hF := Option.bind_eq_some_iff.mp hF
  obtain ⟨v2, hv2, hF⟩ := hF
  obtain ⟨hzv2, rfl⟩ := bz_some hv2
  cases Option.some.inj hF
  exact V.zret rfl hzv2 dX6_isReading_13 hK
theorem c_X6_isReading {E : En} {d : Nat} {x1 : Int} {M : Mem} {z : Int}  (hd : 2 ≤ d) (hF : f_X6_isReading x1 M = some z) : Cn E mX6_isReading d [rf E 46, vi x1] M (fun v N => v = some (vi z) ∧ M = N) := by
  refine V.entry (by decide +kernel) (Nat.le_of_ble_eq_true rfl) ?_
  exact v_X6_isReading_0  hd hF ⟨rfl, rfl⟩
abbrev mX6_isFat : MI := (yX6_isFat, cX6_isFat, 1, (some .boolean))
theorem okX6_isFat : OKS mX6_isFat 1 := ⟨gw_1057, gw_64, gw_1058, (by decide +kernel), (by decide)⟩
def f_X6_isFat (x0 : Int) (M : Mem) : Option (Int) :=
  (f_X6_in (wr x0) 0 1 M).bind fun v1 =>
  (bz v1).bind fun v2 =>
  some v2
set_option maxRecDepth 10000 in
theorem v_X6_isFat_0 {E : En} {d : Nat} {Q : Po} {x0 : Int} {M : Mem} {z : Int}  (hd : 2 ≤ d) (hF : f_X6_isFat x0 M = some z) (hK : Q (some (vi z)) M) : V E mX6_isFat d 0 [(0, vi x0)] [] M Q := by
  unfold f_X6_isFat at hF
  refine V.iload_n 0 0 0 rfl dX6_isFat_0 rfl ?_
  refine V.i2l dX6_isFat_1 ?_
  refine V.lconst 0 0 (by decide) dX6_isFat_2 ?_
  refine V.lconst 1 1 (by decide) dX6_isFat_3 ?_
  replace hF := Option.bind_eq_some_iff.mp hF
  obtain ⟨v1, hv1, hF⟩ := hF
  refine V.callS (d' := d - 1) [vl (wr x0), vl 0, vl 1] [] (c_X6_in (by omega) hv1) okX6_in gw_966 rfl rfl (Nat.le_of_ble_eq_true rfl) (by omega) dX6_isFat_4 ?_
  rintro _ _ ⟨rfl, rfl⟩
  show V E mX6_isFat d 7 [(0, vi x0)] [vi v1] M _
  replace hF := Option.bind_eq_some_iff.mp hF
  obtain ⟨v2, hv2, hF⟩ := hF
  obtain ⟨hzv2, rfl⟩ := bz_some hv2
  cases Option.some.inj hF
  exact V.zret rfl hzv2 dX6_isFat_7 hK
theorem c_X6_isFat {E : En} {d : Nat} {x0 : Int} {M : Mem} {z : Int}  (hd : 2 ≤ d) (hF : f_X6_isFat x0 M = some z) : Cn E mX6_isFat d [vi x0] M (fun v N => v = some (vi z) ∧ M = N) := by
  refine V.entry (by decide +kernel) (Nat.le_of_ble_eq_true rfl) ?_
  exact v_X6_isFat_0  hd hF ⟨rfl, rfl⟩
abbrev mX6_capOn : MI := (yX6_capOn, cX6_capOn, 2, (some .int))
theorem okX6_capOn : OKV mX6_capOn 1 := ⟨gw_1024, gw_33, gw_64, gw_1025, (by decide +kernel), (by decide)⟩
def f_X6_capOn (x1 : Int) (M : Mem) : Option (Int) :=
  (rd M 47 125 (x1 + 14)).bind fun v1 =>
  some (40 - v1)
set_option maxRecDepth 10000 in
theorem v_X6_capOn_0 {E : En} {d : Nat} {Q : Po} {x1 : Int} {M : Mem} {z : Int}  (hd : 1 ≤ d) (hF : f_X6_capOn x1 M = some z) (hK : Q (some (vi z)) M) : V E mX6_capOn d 0 [(0, rf E 46), (1, vi x1)] [] M Q := by
  unfold f_X6_capOn at hF
  refine V.bipush 40 40 (by decide) dX6_capOn_0 ?_
  refine V.aload_n 0 0 0 rfl dX6_capOn_2 rfl ?_
  refine V.get (by decide) (hcX6 E _) rfl inX6 0 (by decide) rfl gw_875 dX6_capOn_3 ?_
  refine V.iload_n 1 1 1 rfl dX6_capOn_6 rfl ?_
  refine V.bipush 14 14 (by decide) dX6_capOn_7 ?_
  refine V.iadd dX6_capOn_9 ?_
  replace hF := Option.bind_eq_some_iff.mp hF
  obtain ⟨v1, hv1, hF⟩ := hF
  refine V.iald ar_47 hv1 dX6_capOn_10 ?_
  refine V.isub dX6_capOn_11 ?_
  cases Option.some.inj hF
  exact V.iret rfl dX6_capOn_12 hK
theorem c_X6_capOn {E : En} {d : Nat} {x1 : Int} {M : Mem} {z : Int}  (hd : 1 ≤ d) (hF : f_X6_capOn x1 M = some z) : Cn E mX6_capOn d [rf E 46, vi x1] M (fun v N => v = some (vi z) ∧ M = N) := by
  refine V.entry (by decide +kernel) (Nat.le_of_ble_eq_true rfl) ?_
  exact v_X6_capOn_0  hd hF ⟨rfl, rfl⟩
abbrev mX6_rule : MI := (yX6_rule, cX6_rule, 2, (some .int))
theorem okX6_rule : OKV mX6_rule 1 := ⟨gw_1019, gw_1020, gw_64, gw_1021, (by decide +kernel), (by decide)⟩
def f_X6_rule (x1 : Int) (M : Mem) : Option (Int) :=
  if wr x1 = 0 then
    some (M 46 1)
  else if wr x1 = 1 then
    some (M 46 3)
  else if wr x1 = 2 then
    some (M 47 12)
  else if wr x1 = 3 then
    some (M 47 13)
  else if wr x1 = 4 then
    (f_X6_capOn 0 M).bind fun v1 =>
    some v1
  else if wr x1 = 5 then
    some (M 47 15)
  else if wr x1 = 6 then
    some (M 47 16)
  else if wr x1 = 7 then
    some ((M 47 18) + 1)
  else if wr x1 = 8 then
    some ((M 47 17) + 1)
  else 
    (f_X6_in (wr x1) 9 11 M).bind fun v2 =>
    if wr v2 = 0 then
      (f_X6_in (wr x1) 12 13 M).bind fun v3 =>
      if wr v3 = 0 then
        some (-1)
      else
        (rd M 47 125 ((23 + x1) - 12)).bind fun v4 =>
        some v4
    else
      (rd M 47 125 ((19 + x1) - 9)).bind fun v5 =>
      some v5
set_option maxRecDepth 10000 in
theorem v_X6_rule_0 {E : En} {d : Nat} {Q : Po} {x1 : Int} {M : Mem} {z : Int}  (hd : 2 ≤ d) (hF : f_X6_rule x1 M = some z) (hK : Q (some (vi z)) M) : V E mX6_rule d 0 [(0, rf E 46), (1, vi x1)] [] M Q := by
  unfold f_X6_rule at hF
  refine V.iload_n 1 1 1 rfl dX6_rule_0 rfl ?_
  by_cases hs0 : wr x1 = 0
  · rw [if_pos hs0] at hF
    refine V.tableIn (a := 0) (tgt := 52) (off := 51) hs0 dX6_rule_1 (by decide) (by decide) rfl (by decide) ?_
    refine V.aload_n 0 0 0 rfl dX6_rule_52 rfl ?_
    refine V.get (by decide) (hcX6 E _) rfl inX6 1 (by decide) rfl gw_876 dX6_rule_53 ?_
    cases Option.some.inj hF
    exact V.iret rfl dX6_rule_56 hK
  rw [if_neg hs0] at hF
  by_cases hs1 : wr x1 = 1
  · rw [if_pos hs1] at hF
    refine V.tableIn (a := 1) (tgt := 57) (off := 56) hs1 dX6_rule_1 (by decide) (by decide) rfl (by decide) ?_
    refine V.aload_n 0 0 0 rfl dX6_rule_57 rfl ?_
    refine V.get (by decide) (hcX6 E _) rfl inX6 3 (by decide) rfl gw_878 dX6_rule_58 ?_
    cases Option.some.inj hF
    exact V.iret rfl dX6_rule_61 hK
  rw [if_neg hs1] at hF
  by_cases hs2 : wr x1 = 2
  · rw [if_pos hs2] at hF
    refine V.tableIn (a := 2) (tgt := 62) (off := 61) hs2 dX6_rule_1 (by decide) (by decide) rfl (by decide) ?_
    refine V.aload_n 0 0 0 rfl dX6_rule_62 rfl ?_
    refine V.get (by decide) (hcX6 E _) rfl inX6 0 (by decide) rfl gw_875 dX6_rule_63 ?_
    refine V.bipush 12 12 (by decide) dX6_rule_66 ?_
    refine V.iald ar_47 (rd_lit 12 12 wr_12 (by decide)) dX6_rule_68 ?_
    cases Option.some.inj hF
    exact V.iret rfl dX6_rule_69 hK
  rw [if_neg hs2] at hF
  by_cases hs3 : wr x1 = 3
  · rw [if_pos hs3] at hF
    refine V.tableIn (a := 3) (tgt := 70) (off := 69) hs3 dX6_rule_1 (by decide) (by decide) rfl (by decide) ?_
    refine V.aload_n 0 0 0 rfl dX6_rule_70 rfl ?_
    refine V.get (by decide) (hcX6 E _) rfl inX6 0 (by decide) rfl gw_875 dX6_rule_71 ?_
    refine V.bipush 13 13 (by decide) dX6_rule_74 ?_
    refine V.iald ar_47 (rd_lit 13 13 wr_13 (by decide)) dX6_rule_76 ?_
    cases Option.some.inj hF
    exact V.iret rfl dX6_rule_77 hK
  rw [if_neg hs3] at hF
  by_cases hs4 : wr x1 = 4
  · rw [if_pos hs4] at hF
    refine V.tableIn (a := 4) (tgt := 78) (off := 77) hs4 dX6_rule_1 (by decide) (by decide) rfl (by decide) ?_
    refine V.aload_n 0 0 0 rfl dX6_rule_78 rfl ?_
    refine V.iconst 0 dX6_rule_79 ?_
    replace hF := Option.bind_eq_some_iff.mp hF
    obtain ⟨v1, hv1, hF⟩ := hF
    refine V.callV (d' := d - 1) [vi 0] [] (c_X6_capOn (by omega) hv1) okX6_capOn gw_1022 rfl rfl (by decide) (hcX6 E _) rfl (Nat.le_of_ble_eq_true rfl) (by omega) dX6_rule_80 ?_
    rintro _ _ ⟨rfl, rfl⟩
    show V E mX6_rule d 83 [(0, rf E 46), (1, vi x1)] [vi v1] M _
    cases Option.some.inj hF
    exact V.iret rfl dX6_rule_83 hK
  rw [if_neg hs4] at hF
  by_cases hs5 : wr x1 = 5
  · rw [if_pos hs5] at hF
    refine V.tableIn (a := 5) (tgt := 84) (off := 83) hs5 dX6_rule_1 (by decide) (by decide) rfl (by decide) ?_
    refine V.aload_n 0 0 0 rfl dX6_rule_84 rfl ?_
    refine V.get (by decide) (hcX6 E _) rfl inX6 0 (by decide) rfl gw_875 dX6_rule_85 ?_
    refine V.bipush 15 15 (by decide) dX6_rule_88 ?_
    refine V.iald ar_47 (rd_lit 15 15 wr_15 (by decide)) dX6_rule_90 ?_
    cases Option.some.inj hF
    exact V.iret rfl dX6_rule_91 hK
  rw [if_neg hs5] at hF
  by_cases hs6 : wr x1 = 6
  · rw [if_pos hs6] at hF
    refine V.tableIn (a := 6) (tgt := 92) (off := 91) hs6 dX6_rule_1 (by decide) (by decide) rfl (by decide) ?_
    refine V.aload_n 0 0 0 rfl dX6_rule_92 rfl ?_
    refine V.get (by decide) (hcX6 E _) rfl inX6 0 (by decide) rfl gw_875 dX6_rule_93 ?_
    refine V.bipush 16 16 (by decide) dX6_rule_96 ?_
    refine V.iald ar_47 (rd_lit 16 16 wr_16 (by decide)) dX6_rule_98 ?_
    cases Option.some.inj hF
    exact V.iret rfl dX6_rule_99 hK
  rw [if_neg hs6] at hF
  by_cases hs7 : wr x1 = 7
  · rw [if_pos hs7] at hF
    refine V.tableIn (a := 7) (tgt := 100) (off := 99) hs7 dX6_rule_1 (by decide) (by decide) rfl (by decide) ?_
    refine V.aload_n 0 0 0 rfl dX6_rule_100 rfl ?_
    refine V.get (by decide) (hcX6 E _) rfl inX6 0 (by decide) rfl gw_875 dX6_rule_101 ?_
    refine V.bipush 18 18 (by decide) dX6_rule_104 ?_
    refine V.iald ar_47 (rd_lit 18 18 wr_18 (by decide)) dX6_rule_106 ?_
    refine V.iconst 1 dX6_rule_107 ?_
    refine V.iadd dX6_rule_108 ?_
    cases Option.some.inj hF
    exact V.iret rfl dX6_rule_109 hK
  rw [if_neg hs7] at hF
  by_cases hs8 : wr x1 = 8
  · rw [if_pos hs8] at hF
    refine V.tableIn (a := 8) (tgt := 110) (off := 109) hs8 dX6_rule_1 (by decide) (by decide) rfl (by decide) ?_
    refine V.aload_n 0 0 0 rfl dX6_rule_110 rfl ?_
    refine V.get (by decide) (hcX6 E _) rfl inX6 0 (by decide) rfl gw_875 dX6_rule_111 ?_
    refine V.bipush 17 17 (by decide) dX6_rule_114 ?_
    refine V.iald ar_47 (rd_lit 17 17 wr_17 (by decide)) dX6_rule_116 ?_
    refine V.iconst 1 dX6_rule_117 ?_
    refine V.iadd dX6_rule_118 ?_
    cases Option.some.inj hF
    exact V.iret rfl dX6_rule_119 hK
  rw [if_neg hs8] at hF
  refine V.tableOut (tgt := 120) rfl dX6_rule_1 (by omega) (by decide) ?_
  refine V.iload_n 1 1 1 rfl dX6_rule_120 rfl ?_
  refine V.i2l dX6_rule_121 ?_
  refine V.ldc2 141 9 9 (by decide) gw_1026 dX6_rule_122 ?_
  refine V.ldc2 143 11 11 (by decide) gw_1027 dX6_rule_125 ?_
  replace hF := Option.bind_eq_some_iff.mp hF
  obtain ⟨v2, hv2, hF⟩ := hF
  refine V.callS (d' := d - 1) [vl (wr x1), vl 9, vl 11] [] (c_X6_in (by omega) hv2) okX6_in gw_966 rfl rfl (Nat.le_of_ble_eq_true rfl) (by omega) dX6_rule_128 ?_
  rintro _ _ ⟨rfl, rfl⟩
  show V E mX6_rule d 131 [(0, rf E 46), (1, vi x1)] [vi v2] M _
  refine V.if_eq (tgt := 149) rfl dX6_rule_131 (by decide) (fun hc => ?_) (fun hc => ?_)
  · rw [if_pos hc] at hF
    refine V.iload_n 1 1 1 rfl dX6_rule_149 rfl ?_
    refine V.i2l dX6_rule_150 ?_
    refine V.ldc2 145 12 12 (by decide) gw_1028 dX6_rule_151 ?_
    refine V.ldc2 147 13 13 (by decide) gw_1029 dX6_rule_154 ?_
    replace hF := Option.bind_eq_some_iff.mp hF
    obtain ⟨v3, hv3, hF⟩ := hF
    refine V.callS (d' := d - 1) [vl (wr x1), vl 12, vl 13] [] (c_X6_in (by omega) hv3) okX6_in gw_966 rfl rfl (Nat.le_of_ble_eq_true rfl) (by omega) dX6_rule_157 ?_
    rintro _ _ ⟨rfl, rfl⟩
    show V E mX6_rule d 160 [(0, rf E 46), (1, vi x1)] [vi v3] M _
    refine V.if_eq (tgt := 178) rfl dX6_rule_160 (by decide) (fun hc => ?_) (fun hc => ?_)
    · rw [if_pos hc] at hF
      refine V.iconst (-1) dX6_rule_178 ?_
      cases Option.some.inj hF
      exact V.iret rfl dX6_rule_179 hK
    · rw [if_neg hc] at hF
      refine V.aload_n 0 0 0 rfl dX6_rule_163 rfl ?_
      refine V.get (by decide) (hcX6 E _) rfl inX6 0 (by decide) rfl gw_875 dX6_rule_164 ?_
      refine V.bipush 23 23 (by decide) dX6_rule_167 ?_
      refine V.iload_n 1 1 1 rfl dX6_rule_169 rfl ?_
      refine V.iadd dX6_rule_170 ?_
      refine V.bipush 12 12 (by decide) dX6_rule_171 ?_
      refine V.isub dX6_rule_173 ?_
      replace hF := Option.bind_eq_some_iff.mp hF
      obtain ⟨v4, hv4, hF⟩ := hF
      refine V.iald ar_47 hv4 dX6_rule_174 ?_
      refine V.goto (tgt := 179) dX6_rule_175 (by decide) ?_
      cases Option.some.inj hF
      exact V.iret rfl dX6_rule_179 hK
  · rw [if_neg hc] at hF
    refine V.aload_n 0 0 0 rfl dX6_rule_134 rfl ?_
    refine V.get (by decide) (hcX6 E _) rfl inX6 0 (by decide) rfl gw_875 dX6_rule_135 ?_
    refine V.bipush 19 19 (by decide) dX6_rule_138 ?_
    refine V.iload_n 1 1 1 rfl dX6_rule_140 rfl ?_
    refine V.iadd dX6_rule_141 ?_
    refine V.bipush 9 9 (by decide) dX6_rule_142 ?_
    refine V.isub dX6_rule_144 ?_
    replace hF := Option.bind_eq_some_iff.mp hF
    obtain ⟨v5, hv5, hF⟩ := hF
    refine V.iald ar_47 hv5 dX6_rule_145 ?_
    refine V.goto (tgt := 179) dX6_rule_146 (by decide) ?_
    cases Option.some.inj hF
    exact V.iret rfl dX6_rule_179 hK
theorem c_X6_rule {E : En} {d : Nat} {x1 : Int} {M : Mem} {z : Int}  (hd : 2 ≤ d) (hF : f_X6_rule x1 M = some z) : Cn E mX6_rule d [rf E 46, vi x1] M (fun v N => v = some (vi z) ∧ M = N) := by
  refine V.entry (by decide +kernel) (Nat.le_of_ble_eq_true rfl) ?_
  exact v_X6_rule_0  hd hF ⟨rfl, rfl⟩
abbrev mX6_land : MI := (yX6_land, cX6_land, 3, (some .int))
theorem okX6_land : OKV mX6_land 2 := ⟨gw_1031, gw_1032, gw_64, gw_1033, (by decide +kernel), (by decide)⟩
def f_X6_land (x1 : Int) (x2 : Int) (M : Mem) : Option (Int) :=
  (f_X6_isLand x1 M).bind fun v1 =>
  if wr v1 = 0 then
    some (-1)
  else
    (f_X6_in (wr x2) 0 1 M).bind fun v2 =>
    if wr v2 = 0 then
      some (-1)
    else
      (rd M 47 125 ((2 * x1) + x2)).bind fun v3 =>
      some v3
set_option maxRecDepth 10000 in
theorem v_X6_land_0 {E : En} {d : Nat} {Q : Po} {x1 : Int} {x2 : Int} {M : Mem} {z : Int}  (hd : 3 ≤ d) (hF : f_X6_land x1 x2 M = some z) (hK : Q (some (vi z)) M) : V E mX6_land d 0 [(0, rf E 46), (1, vi x1), (2, vi x2)] [] M Q := by
  unfold f_X6_land at hF
  refine V.aload_n 0 0 0 rfl dX6_land_0 rfl ?_
  refine V.iload_n 1 1 1 rfl dX6_land_1 rfl ?_
  replace hF := Option.bind_eq_some_iff.mp hF
  obtain ⟨v1, hv1, hF⟩ := hF
  refine V.callV (d' := d - 1) [vi x1] [] (c_X6_isLand (by omega) hv1) okX6_isLand gw_1034 rfl rfl (by decide) (hcX6 E _) rfl (Nat.le_of_ble_eq_true rfl) (by omega) dX6_land_2 ?_
  rintro _ _ ⟨rfl, rfl⟩
  show V E mX6_land d 5 [(0, rf E 46), (1, vi x1), (2, vi x2)] [vi v1] M _
  refine V.if_eq (tgt := 31) rfl dX6_land_5 (by decide) (fun hc => ?_) (fun hc => ?_)
  · rw [if_pos hc] at hF
    refine V.iconst (-1) dX6_land_31 ?_
    cases Option.some.inj hF
    exact V.iret rfl dX6_land_32 hK
  · rw [if_neg hc] at hF
    refine V.iload_n 2 2 2 rfl dX6_land_8 rfl ?_
    refine V.i2l dX6_land_9 ?_
    refine V.lconst 0 0 (by decide) dX6_land_10 ?_
    refine V.lconst 1 1 (by decide) dX6_land_11 ?_
    replace hF := Option.bind_eq_some_iff.mp hF
    obtain ⟨v2, hv2, hF⟩ := hF
    refine V.callS (d' := d - 1) [vl (wr x2), vl 0, vl 1] [] (c_X6_in (by omega) hv2) okX6_in gw_966 rfl rfl (Nat.le_of_ble_eq_true rfl) (by omega) dX6_land_12 ?_
    rintro _ _ ⟨rfl, rfl⟩
    show V E mX6_land d 15 [(0, rf E 46), (1, vi x1), (2, vi x2)] [vi v2] M _
    refine V.if_eq (tgt := 31) rfl dX6_land_15 (by decide) (fun hc => ?_) (fun hc => ?_)
    · rw [if_pos hc] at hF
      refine V.iconst (-1) dX6_land_31 ?_
      cases Option.some.inj hF
      exact V.iret rfl dX6_land_32 hK
    · rw [if_neg hc] at hF
      refine V.aload_n 0 0 0 rfl dX6_land_18 rfl ?_
      refine V.get (by decide) (hcX6 E _) rfl inX6 0 (by decide) rfl gw_875 dX6_land_19 ?_
      refine V.iconst 2 dX6_land_22 ?_
      refine V.iload_n 1 1 1 rfl dX6_land_23 rfl ?_
      refine V.imul dX6_land_24 ?_
      refine V.iload_n 2 2 2 rfl dX6_land_25 rfl ?_
      refine V.iadd dX6_land_26 ?_
      replace hF := Option.bind_eq_some_iff.mp hF
      obtain ⟨v3, hv3, hF⟩ := hF
      refine V.iald ar_47 hv3 dX6_land_27 ?_
      refine V.goto (tgt := 32) dX6_land_28 (by decide) ?_
      cases Option.some.inj hF
      exact V.iret rfl dX6_land_32 hK
theorem c_X6_land {E : En} {d : Nat} {x1 : Int} {x2 : Int} {M : Mem} {z : Int}  (hd : 3 ≤ d) (hF : f_X6_land x1 x2 M = some z) : Cn E mX6_land d [rf E 46, vi x1, vi x2] M (fun v N => v = some (vi z) ∧ M = N) := by
  refine V.entry (by decide +kernel) (Nat.le_of_ble_eq_true rfl) ?_
  exact v_X6_land_0  hd hF ⟨rfl, rfl⟩
abbrev mX6_canBe : MI := (yX6_canBe, cX6_canBe, 3, (some .boolean))
theorem okX6_canBe : OKV mX6_canBe 1 := ⟨gw_1050, gw_36, gw_64, gw_1051, (by decide +kernel), (by decide)⟩
def f_X6_canBe (x1 : Int) (M : Mem) : Option (Int) :=
  (rd M 48 4 x1).bind fun v1 =>
  if wr (bAnd v1 ((bShl 1 (M 47 21)) - 1)) = wr (M 47 22) then
    some 1
  else
    some 0
set_option maxRecDepth 10000 in
theorem v_X6_canBe_0 {E : En} {d : Nat} {Q : Po} {x1 : Int} {M : Mem} {z : Int}  (hd : 1 ≤ d) (hF : f_X6_canBe x1 M = some z) (hK : Q (some (vi z)) M) : V E mX6_canBe d 0 [(0, rf E 46), (1, vi x1)] [] M Q := by
  unfold f_X6_canBe at hF
  refine V.iconst 1 dX6_canBe_0 ?_
  refine V.aload_n 0 0 0 rfl dX6_canBe_1 rfl ?_
  refine V.get (by decide) (hcX6 E _) rfl inX6 0 (by decide) rfl gw_875 dX6_canBe_2 ?_
  refine V.bipush 21 21 (by decide) dX6_canBe_5 ?_
  refine V.iald ar_47 (rd_lit 21 21 wr_21 (by decide)) dX6_canBe_7 ?_
  refine V.ishl dX6_canBe_8 ?_
  refine V.iconst 1 dX6_canBe_9 ?_
  refine V.isub dX6_canBe_10 ?_
  refine V.istore_n 2 2 [(2, vi ((bShl 1 (M 47 21)) - 1)), (0, rf E 46), (1, vi x1)] rfl dX6_canBe_11 (by decide) rfl ?_
  refine V.aload_n 0 0 1 rfl dX6_canBe_12 rfl ?_
  refine V.get (by decide) (hcX6 E _) rfl inX6 2 (by decide) rfl gw_877 dX6_canBe_13 ?_
  refine V.iload_n 1 1 2 rfl dX6_canBe_16 rfl ?_
  replace hF := Option.bind_eq_some_iff.mp hF
  obtain ⟨v1, hv1, hF⟩ := hF
  refine V.iald ar_48 hv1 dX6_canBe_17 ?_
  refine V.iload_n 2 2 0 rfl dX6_canBe_18 rfl ?_
  refine V.iand dX6_canBe_19 ?_
  refine V.aload_n 0 0 1 rfl dX6_canBe_20 rfl ?_
  refine V.get (by decide) (hcX6 E _) rfl inX6 0 (by decide) rfl gw_875 dX6_canBe_21 ?_
  refine V.bipush 22 22 (by decide) dX6_canBe_24 ?_
  refine V.iald ar_47 (rd_lit 22 22 wr_22 (by decide)) dX6_canBe_26 ?_
  refine V.icmp_ne (tgt := 34) rfl rfl dX6_canBe_27 (by decide) (fun hc => ?_) (fun hc => ?_)
  · rw [if_neg hc] at hF
    refine V.iconst 0 dX6_canBe_34 ?_
    cases Option.some.inj hF
    exact V.zret rfl (Or.inl rfl) dX6_canBe_35 hK
  · rw [if_pos hc] at hF
    refine V.iconst 1 dX6_canBe_30 ?_
    refine V.goto (tgt := 35) dX6_canBe_31 (by decide) ?_
    cases Option.some.inj hF
    exact V.zret rfl (Or.inr rfl) dX6_canBe_35 hK
theorem c_X6_canBe {E : En} {d : Nat} {x1 : Int} {M : Mem} {z : Int}  (hd : 1 ≤ d) (hF : f_X6_canBe x1 M = some z) : Cn E mX6_canBe d [rf E 46, vi x1] M (fun v N => v = some (vi z) ∧ M = N) := by
  refine V.entry (by decide +kernel) (Nat.le_of_ble_eq_true rfl) ?_
  exact v_X6_canBe_0  hd hF ⟨rfl, rfl⟩
abbrev mX6_reading : MI := (yX6_reading, cX6_reading, 3, (some .int))
theorem okX6_reading : OKV mX6_reading 2 := ⟨gw_1039, gw_1040, gw_64, gw_1041, (by decide +kernel), (by decide)⟩
def f_X6_reading (x1 : Int) (x2 : Int) (M : Mem) : Option (Int) :=
  (f_X6_isReading x1 M).bind fun v1 =>
  if wr v1 = 0 then
    some (-1)
  else
    (f_X6_in (wr x2) 10 17 M).bind fun v2 =>
    if wr v2 = 0 then
      if wr x2 = 0 then
        (rd M 47 125 (8 + x1)).bind fun v4 =>
        some v4
      else
        if wr x2 = 1 then
          (f_X6_canBe x1 M).bind fun v3 =>
          if wr v3 = 0 then
            some 0
          else
            some 1
        else
          some (-1)
    else
      (rd M 48 4 x1).bind fun v5 =>
      some (bAnd (bShr v5 (x2 - 10)) 1)
set_option maxRecDepth 10000 in
theorem v_X6_reading_0 {E : En} {d : Nat} {Q : Po} {x1 : Int} {x2 : Int} {M : Mem} {z : Int}  (hd : 3 ≤ d) (hF : f_X6_reading x1 x2 M = some z) (hK : Q (some (vi z)) M) : V E mX6_reading d 0 [(0, rf E 46), (1, vi x1), (2, vi x2)] [] M Q := by
  unfold f_X6_reading at hF
  refine V.aload_n 0 0 0 rfl dX6_reading_0 rfl ?_
  refine V.iload_n 1 1 1 rfl dX6_reading_1 rfl ?_
  replace hF := Option.bind_eq_some_iff.mp hF
  obtain ⟨v1, hv1, hF⟩ := hF
  refine V.callV (d' := d - 1) [vi x1] [] (c_X6_isReading (by omega) hv1) okX6_isReading gw_1042 rfl rfl (by decide) (hcX6 E _) rfl (Nat.le_of_ble_eq_true rfl) (by omega) dX6_reading_2 ?_
  rintro _ _ ⟨rfl, rfl⟩
  show V E mX6_reading d 5 [(0, rf E 46), (1, vi x1), (2, vi x2)] [vi v1] M _
  refine V.if_ne (tgt := 10) rfl dX6_reading_5 (by decide) (fun hc => ?_) (fun hc => ?_)
  · rw [if_neg hc] at hF
    refine V.iload_n 2 2 2 rfl dX6_reading_10 rfl ?_
    refine V.i2l dX6_reading_11 ?_
    refine V.ldc2 156 10 10 (by decide) gw_1046 dX6_reading_12 ?_
    refine V.ldc2 158 17 17 (by decide) gw_1047 dX6_reading_15 ?_
    replace hF := Option.bind_eq_some_iff.mp hF
    obtain ⟨v2, hv2, hF⟩ := hF
    refine V.callS (d' := d - 1) [vl (wr x2), vl 10, vl 17] [] (c_X6_in (by omega) hv2) okX6_in gw_966 rfl rfl (Nat.le_of_ble_eq_true rfl) (by omega) dX6_reading_18 ?_
    rintro _ _ ⟨rfl, rfl⟩
    show V E mX6_reading d 21 [(0, rf E 46), (1, vi x1), (2, vi x2)] [vi v2] M _
    refine V.if_eq (tgt := 38) rfl dX6_reading_21 (by decide) (fun hc => ?_) (fun hc => ?_)
    · rw [if_pos hc] at hF
      refine V.iload_n 2 2 2 rfl dX6_reading_38 rfl ?_
      refine V.if_ne (tgt := 54) rfl dX6_reading_39 (by decide) (fun hc => ?_) (fun hc => ?_)
      · rw [if_neg hc] at hF
        refine V.iload_n 2 2 2 rfl dX6_reading_54 rfl ?_
        refine V.iconst 1 dX6_reading_55 ?_
        refine V.icmp_ne (tgt := 75) rfl wr_1 dX6_reading_56 (by decide) (fun hc => ?_) (fun hc => ?_)
        · rw [if_neg hc] at hF
          refine V.iconst (-1) dX6_reading_75 ?_
          cases Option.some.inj hF
          exact V.iret rfl dX6_reading_76 hK
        · rw [if_pos hc] at hF
          refine V.aload_n 0 0 0 rfl dX6_reading_59 rfl ?_
          refine V.iload_n 1 1 1 rfl dX6_reading_60 rfl ?_
          replace hF := Option.bind_eq_some_iff.mp hF
          obtain ⟨v3, hv3, hF⟩ := hF
          refine V.callV (d' := d - 1) [vi x1] [] (c_X6_canBe (by omega) hv3) okX6_canBe gw_1048 rfl rfl (by decide) (hcX6 E _) rfl (Nat.le_of_ble_eq_true rfl) (by omega) dX6_reading_61 ?_
          rintro _ _ ⟨rfl, rfl⟩
          show V E mX6_reading d 64 [(0, rf E 46), (1, vi x1), (2, vi x2)] [vi v3] M _
          refine V.if_eq (tgt := 71) rfl dX6_reading_64 (by decide) (fun hc => ?_) (fun hc => ?_)
          · rw [if_pos hc] at hF
            refine V.iconst 0 dX6_reading_71 ?_
            refine V.goto (tgt := 76) dX6_reading_72 (by decide) ?_
            cases Option.some.inj hF
            exact V.iret rfl dX6_reading_76 hK
          · rw [if_neg hc] at hF
            refine V.iconst 1 dX6_reading_67 ?_
            refine V.goto (tgt := 76) dX6_reading_68 (by decide) ?_
            cases Option.some.inj hF
            exact V.iret rfl dX6_reading_76 hK
      · rw [if_pos hc] at hF
        refine V.aload_n 0 0 0 rfl dX6_reading_42 rfl ?_
        refine V.get (by decide) (hcX6 E _) rfl inX6 0 (by decide) rfl gw_875 dX6_reading_43 ?_
        refine V.bipush 8 8 (by decide) dX6_reading_46 ?_
        refine V.iload_n 1 1 1 rfl dX6_reading_48 rfl ?_
        refine V.iadd dX6_reading_49 ?_
        replace hF := Option.bind_eq_some_iff.mp hF
        obtain ⟨v4, hv4, hF⟩ := hF
        refine V.iald ar_47 hv4 dX6_reading_50 ?_
        refine V.goto (tgt := 76) dX6_reading_51 (by decide) ?_
        cases Option.some.inj hF
        exact V.iret rfl dX6_reading_76 hK
    · rw [if_neg hc] at hF
      refine V.aload_n 0 0 0 rfl dX6_reading_24 rfl ?_
      refine V.get (by decide) (hcX6 E _) rfl inX6 2 (by decide) rfl gw_877 dX6_reading_25 ?_
      refine V.iload_n 1 1 1 rfl dX6_reading_28 rfl ?_
      replace hF := Option.bind_eq_some_iff.mp hF
      obtain ⟨v5, hv5, hF⟩ := hF
      refine V.iald ar_48 hv5 dX6_reading_29 ?_
      refine V.iload_n 2 2 2 rfl dX6_reading_30 rfl ?_
      refine V.bipush 10 10 (by decide) dX6_reading_31 ?_
      refine V.isub dX6_reading_33 ?_
      refine V.ishr dX6_reading_34 ?_
      refine V.iconst 1 dX6_reading_35 ?_
      refine V.iand dX6_reading_36 ?_
      cases Option.some.inj hF
      exact V.iret rfl dX6_reading_37 hK
  · rw [if_pos hc] at hF
    refine V.iconst (-1) dX6_reading_8 ?_
    cases Option.some.inj hF
    exact V.iret rfl dX6_reading_9 hK
theorem c_X6_reading {E : En} {d : Nat} {x1 : Int} {x2 : Int} {M : Mem} {z : Int}  (hd : 3 ≤ d) (hF : f_X6_reading x1 x2 M = some z) : Cn E mX6_reading d [rf E 46, vi x1, vi x2] M (fun v N => v = some (vi z) ∧ M = N) := by
  refine V.entry (by decide +kernel) (Nat.le_of_ble_eq_true rfl) ?_
  exact v_X6_reading_0  hd hF ⟨rfl, rfl⟩
abbrev mX6_bearsOn : MI := (yX6_bearsOn, cX6_bearsOn, 5, (some .int))
theorem okX6_bearsOn : OKV mX6_bearsOn 2 := ⟨gw_1061, gw_37, gw_64, gw_1062, (by decide +kernel), (by decide)⟩
def f_X6_bearsOn_5 (n : Nat) (x1 : Int) (x2 : Int) (x3 : Int) (x4 : Int) (M : Mem) : Option ((Int × Int) ⊕ (Int)) :=
  if wr (M 46 1) ≤ wr x4 then
    some (.inr x3)
  else
    (rd M 47 125 ((x1 + (2 * x4)) + x2)).bind fun v1 =>
    some (.inl (x3 + v1, x4 + 1))
set_option maxRecDepth 10000 in
theorem v_X6_bearsOn_5 {E : En} {d : Nat} {Q : Po} {n : Nat} {x1 : Int} {x2 : Int} {x3 : Int} {x4 : Int} {M : Mem} {z : (Int × Int) ⊕ (Int)}  (hd : 1 ≤ d) (hF : f_X6_bearsOn_5 n x1 x2 x3 x4 M = some z) (hC0 : ∀ s' : Int × Int, z = (.inl s') → V E mX6_bearsOn d 5 [(0, rf E 46), (1, vi x1), (2, vi x2), (3, vi (s'.1)), (4, vi (s'.2))] [] M Q) (hX : ∀ z0 : Int, z = (.inr z0) → Q (some (vi z0)) M) : V E mX6_bearsOn d 5 [(0, rf E 46), (1, vi x1), (2, vi x2), (3, vi x3), (4, vi x4)] [] M Q := by
  unfold f_X6_bearsOn_5 at hF
  refine V.iload 4 4 dX6_bearsOn_5 rfl ?_
  refine V.aload_n 0 0 0 rfl dX6_bearsOn_7 rfl ?_
  refine V.get (by decide) (hcX6 E _) rfl inX6 1 (by decide) rfl gw_876 dX6_bearsOn_8 ?_
  refine V.icmp_ge (tgt := 36) rfl rfl dX6_bearsOn_11 (by decide) (fun hc => ?_) (fun hc => ?_)
  · rw [if_pos hc] at hF
    refine V.iload_n 3 3 3 rfl dX6_bearsOn_36 rfl ?_
    cases Option.some.inj hF
    exact V.iret rfl dX6_bearsOn_37 (hX _ rfl)
  · rw [if_neg hc] at hF
    refine V.iload_n 3 3 3 rfl dX6_bearsOn_14 rfl ?_
    refine V.aload_n 0 0 0 rfl dX6_bearsOn_15 rfl ?_
    refine V.get (by decide) (hcX6 E _) rfl inX6 0 (by decide) rfl gw_875 dX6_bearsOn_16 ?_
    refine V.iload_n 1 1 1 rfl dX6_bearsOn_19 rfl ?_
    refine V.iconst 2 dX6_bearsOn_20 ?_
    refine V.iload 4 4 dX6_bearsOn_21 rfl ?_
    refine V.imul dX6_bearsOn_23 ?_
    refine V.iadd dX6_bearsOn_24 ?_
    refine V.iload_n 2 2 2 rfl dX6_bearsOn_25 rfl ?_
    refine V.iadd dX6_bearsOn_26 ?_
    replace hF := Option.bind_eq_some_iff.mp hF
    obtain ⟨v1, hv1, hF⟩ := hF
    refine V.iald ar_47 hv1 dX6_bearsOn_27 ?_
    refine V.iadd dX6_bearsOn_28 ?_
    refine V.istore_n 3 3 [(3, vi (x3 + v1)), (0, rf E 46), (1, vi x1), (2, vi x2), (4, vi x4)] rfl dX6_bearsOn_29 (by decide) rfl ?_
    refine V.iinc 4 4 1 [(4, vi (x4 + 1)), (3, vi (x3 + v1)), (0, rf E 46), (1, vi x1), (2, vi x2)] dX6_bearsOn_30 rfl (by decide) rfl ?_
    refine V.goto (tgt := 5) dX6_bearsOn_33 (by decide) ?_
    cases Option.some.inj hF
    refine V.sub _ [2, 3, 4, 1, 0] rfl ?_
    exact hC0 _ rfl
theorem l_X6_bearsOn_5 {E : En} {d : Nat} {Q : Po} {n : Nat} {x1 : Int} {x2 : Int} {M : Mem} {k : Nat} {s : Int × Int} {z : Int}  (hd : 1 ≤ d) (hF : lp (fun s => f_X6_bearsOn_5 n x1 x2 s.1 s.2 M) k s = some z) (hK : Q (some (vi z)) M) : V E mX6_bearsOn d 5 [(0, rf E 46), (1, vi x1), (2, vi x2), (3, vi s.1), (4, vi s.2)] [] M Q := by
  refine lp_ind (P := fun s => V E mX6_bearsOn d 5 [(0, rf E 46), (1, vi x1), (2, vi x2), (3, vi s.1), (4, vi s.2)] [] M Q) (z0 := z) ?_ k s hF
  intro s z' hF hc hx
  exact v_X6_bearsOn_5 hd hF (fun s' e => hc s' e) (fun z0 e => by rw [hx _ e]; exact hK)
def f_X6_bearsOn (n : Nat) (x1 : Int) (x2 : Int) (M : Mem) : Option (Int) :=
  lp (fun s => f_X6_bearsOn_5 n x1 x2 s.1 s.2 M) n (0, 0)
set_option maxRecDepth 10000 in
theorem v_X6_bearsOn_0 {E : En} {d : Nat} {Q : Po} {n : Nat} {x1 : Int} {x2 : Int} {M : Mem} {z : Int}  (hd : 1 ≤ d) (hF : f_X6_bearsOn n x1 x2 M = some z) (hK : Q (some (vi z)) M) : V E mX6_bearsOn d 0 [(0, rf E 46), (1, vi x1), (2, vi x2)] [] M Q := by
  unfold f_X6_bearsOn at hF
  refine V.iconst 0 dX6_bearsOn_0 ?_
  refine V.istore_n 3 3 [(3, vi 0), (0, rf E 46), (1, vi x1), (2, vi x2)] rfl dX6_bearsOn_1 (by decide) rfl ?_
  refine V.iconst 0 dX6_bearsOn_2 ?_
  refine V.istore 4 [(4, vi 0), (3, vi 0), (0, rf E 46), (1, vi x1), (2, vi x2)] dX6_bearsOn_3 (by decide) rfl ?_
  refine V.sub _ [2, 3, 4, 1, 0] rfl ?_
  exact l_X6_bearsOn_5 hd hF hK
theorem c_X6_bearsOn {E : En} {d : Nat} {n : Nat} {x1 : Int} {x2 : Int} {M : Mem} {z : Int}  (hd : 1 ≤ d) (hF : f_X6_bearsOn n x1 x2 M = some z) : Cn E mX6_bearsOn d [rf E 46, vi x1, vi x2] M (fun v N => v = some (vi z) ∧ M = N) := by
  refine V.entry (by decide +kernel) (Nat.le_of_ble_eq_true rfl) ?_
  exact v_X6_bearsOn_0  hd hF ⟨rfl, rfl⟩
abbrev mX6_bears : MI := (yX6_bears, cX6_bears, 2, (some .int))
theorem okX6_bears : OKV mX6_bears 1 := ⟨gw_1053, gw_1054, gw_64, gw_1055, (by decide +kernel), (by decide)⟩
def f_X6_bears (n : Nat) (x1 : Int) (M : Mem) : Option (Int) :=
  (f_X6_isFat x1 M).bind fun v1 =>
  if wr v1 = 0 then
    some (-1)
  else
    (f_X6_bearsOn n 0 x1 M).bind fun v2 =>
    some v2
set_option maxRecDepth 10000 in
theorem v_X6_bears_0 {E : En} {d : Nat} {Q : Po} {n : Nat} {x1 : Int} {M : Mem} {z : Int}  (hd : 3 ≤ d) (hF : f_X6_bears n x1 M = some z) (hK : Q (some (vi z)) M) : V E mX6_bears d 0 [(0, rf E 46), (1, vi x1)] [] M Q := by
  unfold f_X6_bears at hF
  refine V.iload_n 1 1 1 rfl dX6_bears_0 rfl ?_
  replace hF := Option.bind_eq_some_iff.mp hF
  obtain ⟨v1, hv1, hF⟩ := hF
  refine V.callS (d' := d - 1) [vi x1] [] (c_X6_isFat (by omega) hv1) okX6_isFat gw_1056 rfl rfl (Nat.le_of_ble_eq_true rfl) (by omega) dX6_bears_1 ?_
  rintro _ _ ⟨rfl, rfl⟩
  show V E mX6_bears d 4 [(0, rf E 46), (1, vi x1)] [vi v1] M _
  refine V.if_eq (tgt := 16) rfl dX6_bears_4 (by decide) (fun hc => ?_) (fun hc => ?_)
  · rw [if_pos hc] at hF
    refine V.iconst (-1) dX6_bears_16 ?_
    cases Option.some.inj hF
    exact V.iret rfl dX6_bears_17 hK
  · rw [if_neg hc] at hF
    refine V.aload_n 0 0 0 rfl dX6_bears_7 rfl ?_
    refine V.iconst 0 dX6_bears_8 ?_
    refine V.iload_n 1 1 1 rfl dX6_bears_9 rfl ?_
    replace hF := Option.bind_eq_some_iff.mp hF
    obtain ⟨v2, hv2, hF⟩ := hF
    refine V.callV (d' := d - 1) [vi 0, vi x1] [] (c_X6_bearsOn (by omega) hv2) okX6_bearsOn gw_1059 rfl rfl (by decide) (hcX6 E _) rfl (Nat.le_of_ble_eq_true rfl) (by omega) dX6_bears_10 ?_
    rintro _ _ ⟨rfl, rfl⟩
    show V E mX6_bears d 13 [(0, rf E 46), (1, vi x1)] [vi v2] M _
    refine V.goto (tgt := 17) dX6_bears_13 (by decide) ?_
    cases Option.some.inj hF
    exact V.iret rfl dX6_bears_17 hK
theorem c_X6_bears {E : En} {d : Nat} {n : Nat} {x1 : Int} {M : Mem} {z : Int}  (hd : 3 ≤ d) (hF : f_X6_bears n x1 M = some z) : Cn E mX6_bears d [rf E 46, vi x1] M (fun v N => v = some (vi z) ∧ M = N) := by
  refine V.entry (by decide +kernel) (Nat.le_of_ble_eq_true rfl) ?_
  exact v_X6_bears_0  hd hF ⟨rfl, rfl⟩
abbrev mX6_sets : MI := (yX6_sets, cX6_sets, 5, (some .int))
theorem okX6_sets : OKV mX6_sets 3 := ⟨gw_1069, gw_38, gw_64, gw_1070, (by decide +kernel), (by decide)⟩
def f_X6_sets (x1 : Int) (x2 : Int) (x3 : Int) (M : Mem) : Option (Int × Mem) :=
  if wr x1 = 0 then
    some ((-1), M)
  else
    (rd M 47 125 x2).bind fun v1 =>
    (wt M 47 125 x2 x3).bind fun M2 =>
    some (v1, M2)
set_option maxRecDepth 10000 in
theorem v_X6_sets_0 {E : En} {d : Nat} {Q : Po} {x1 : Int} {x2 : Int} {x3 : Int} {M : Mem} {z : Int × Mem}  (hd : 1 ≤ d) (hF : f_X6_sets x1 x2 x3 M = some z) (hK : Q (some (vi z.1)) z.2) : V E mX6_sets d 0 [(0, rf E 46), (1, vi x1), (2, vi x2), (3, vi x3)] [] M Q := by
  unfold f_X6_sets at hF
  refine V.iload_n 1 1 1 rfl dX6_sets_0 rfl ?_
  refine V.if_ne (tgt := 6) rfl dX6_sets_1 (by decide) (fun hc => ?_) (fun hc => ?_)
  · rw [if_neg hc] at hF
    refine V.aload_n 0 0 0 rfl dX6_sets_6 rfl ?_
    refine V.get (by decide) (hcX6 E _) rfl inX6 0 (by decide) rfl gw_875 dX6_sets_7 ?_
    refine V.iload_n 2 2 2 rfl dX6_sets_10 rfl ?_
    replace hF := Option.bind_eq_some_iff.mp hF
    obtain ⟨v1, hv1, hF⟩ := hF
    refine V.iald ar_47 hv1 dX6_sets_11 ?_
    refine V.istore 4 [(4, vi v1), (0, rf E 46), (1, vi x1), (2, vi x2), (3, vi x3)] dX6_sets_12 (by decide) rfl ?_
    refine V.aload_n 0 0 1 rfl dX6_sets_14 rfl ?_
    refine V.get (by decide) (hcX6 E _) rfl inX6 0 (by decide) rfl gw_875 dX6_sets_15 ?_
    refine V.iload_n 2 2 3 rfl dX6_sets_18 rfl ?_
    refine V.iload_n 3 3 4 rfl dX6_sets_19 rfl ?_
    replace hF := Option.bind_eq_some_iff.mp hF
    obtain ⟨M2, hM2, hF⟩ := hF
    refine V.iast ar_47 hM2 dX6_sets_20 ?_
    refine V.iload 4 0 dX6_sets_21 rfl ?_
    cases Option.some.inj hF
    exact V.iret rfl dX6_sets_23 hK
  · rw [if_pos hc] at hF
    refine V.iconst (-1) dX6_sets_4 ?_
    cases Option.some.inj hF
    exact V.iret rfl dX6_sets_5 hK
theorem c_X6_sets {E : En} {d : Nat} {x1 : Int} {x2 : Int} {x3 : Int} {M : Mem} {zr : Int} {zM : Mem}  (hd : 1 ≤ d) (hF : f_X6_sets x1 x2 x3 M = some (zr, zM)) : Cn E mX6_sets d [rf E 46, vi x1, vi x2, vi x3] M (fun v N => v = some (vi zr) ∧ zM = N) := by
  refine V.entry (by decide +kernel) (Nat.le_of_ble_eq_true rfl) ?_
  exact v_X6_sets_0  hd hF ⟨rfl, rfl⟩
abbrev mX6_till : MI := (yX6_till, cX6_till, 4, (some .int))
theorem okX6_till : OKV mX6_till 3 := ⟨gw_1064, gw_1065, gw_64, gw_1066, (by decide +kernel), (by decide)⟩
def f_X6_till_36 (x1 : Int) (x2 : Int) (x3 : Int) (s0 : Int) (M : Mem) : Option (Int × Mem) :=
  (f_X6_sets s0 ((2 * x1) + x2) x3 M).bind fun (v1, M2) =>
  some (v1, M2)
set_option maxRecDepth 10000 in
theorem v_X6_till_36 {E : En} {d : Nat} {Q : Po} {x1 : Int} {x2 : Int} {x3 : Int} {s0 : Int} {M : Mem} {z : Int × Mem}  (hd : 3 ≤ d) (hF : f_X6_till_36 x1 x2 x3 s0 M = some z) (hK : Q (some (vi z.1)) z.2) : V E mX6_till d 36 [(1, vi x1), (2, vi x2), (3, vi x3)] [vi s0, rf E 46] M Q := by
  unfold f_X6_till_36 at hF
  refine V.iconst 2 dX6_till_36 ?_
  refine V.iload_n 1 1 0 rfl dX6_till_37 rfl ?_
  refine V.imul dX6_till_38 ?_
  refine V.iload_n 2 2 1 rfl dX6_till_39 rfl ?_
  refine V.iadd dX6_till_40 ?_
  refine V.iload_n 3 3 2 rfl dX6_till_41 rfl ?_
  replace hF := Option.bind_eq_some_iff.mp hF
  obtain ⟨⟨v1, M2⟩, hv1, hF⟩ := hF
  dsimp only at hF
  refine V.callV (d' := d - 1) [vi s0, vi ((2 * x1) + x2), vi x3] [] (c_X6_sets (by omega) hv1) okX6_sets gw_1067 rfl rfl (by decide) (hcX6 E _) rfl (Nat.le_of_ble_eq_true rfl) (by omega) dX6_till_42 ?_
  rintro _ _ ⟨rfl, rfl⟩
  show V E mX6_till d 45 [(1, vi x1), (2, vi x2), (3, vi x3)] [vi v1] M2 _
  cases Option.some.inj hF
  exact V.iret rfl dX6_till_45 hK
def f_X6_till_35 (x1 : Int) (x2 : Int) (x3 : Int) (M : Mem) : Option (Int × Mem) :=
  f_X6_till_36 x1 x2 x3 0 M
set_option maxRecDepth 10000 in
theorem v_X6_till_35 {E : En} {d : Nat} {Q : Po} {x1 : Int} {x2 : Int} {x3 : Int} {M : Mem} {z : Int × Mem}  (hd : 3 ≤ d) (hF : f_X6_till_35 x1 x2 x3 M = some z) (hK : Q (some (vi z.1)) z.2) : V E mX6_till d 35 [(1, vi x1), (2, vi x2), (3, vi x3)] [rf E 46] M Q := by
  unfold f_X6_till_35 at hF
  refine V.iconst 0 dX6_till_35 ?_
  exact v_X6_till_36 hd hF hK
def f_X6_till (x1 : Int) (x2 : Int) (x3 : Int) (M : Mem) : Option (Int × Mem) :=
  (f_X6_isLand x1 M).bind fun v1 =>
  if wr v1 = 0 then
    f_X6_till_35 x1 x2 x3 M
  else
    (f_X6_in (wr x2) 0 1 M).bind fun v2 =>
    if wr v2 = 0 then
      f_X6_till_35 x1 x2 x3 M
    else
      (f_X6_in (wr x3) 0 9 M).bind fun v3 =>
      if wr v3 = 0 then
        f_X6_till_35 x1 x2 x3 M
      else
        f_X6_till_36 x1 x2 x3 1 M
set_option maxRecDepth 10000 in
theorem v_X6_till_0 {E : En} {d : Nat} {Q : Po} {x1 : Int} {x2 : Int} {x3 : Int} {M : Mem} {z : Int × Mem}  (hd : 3 ≤ d) (hF : f_X6_till x1 x2 x3 M = some z) (hK : Q (some (vi z.1)) z.2) : V E mX6_till d 0 [(0, rf E 46), (1, vi x1), (2, vi x2), (3, vi x3)] [] M Q := by
  unfold f_X6_till at hF
  refine V.aload_n 0 0 0 rfl dX6_till_0 rfl ?_
  refine V.aload_n 0 0 0 rfl dX6_till_1 rfl ?_
  refine V.iload_n 1 1 1 rfl dX6_till_2 rfl ?_
  replace hF := Option.bind_eq_some_iff.mp hF
  obtain ⟨v1, hv1, hF⟩ := hF
  refine V.callV (d' := d - 1) [vi x1] [rf E 46] (c_X6_isLand (by omega) hv1) okX6_isLand gw_1034 rfl rfl (by decide) (hcX6 E _) rfl (Nat.le_of_ble_eq_true rfl) (by omega) dX6_till_3 ?_
  rintro _ _ ⟨rfl, rfl⟩
  show V E mX6_till d 6 [(0, rf E 46), (1, vi x1), (2, vi x2), (3, vi x3)] [vi v1, rf E 46] M _
  refine V.if_eq (tgt := 35) rfl dX6_till_6 (by decide) (fun hc => ?_) (fun hc => ?_)
  · rw [if_pos hc] at hF
    refine V.sub _ [1, 2, 3] rfl ?_
    exact v_X6_till_35 hd hF hK
  · rw [if_neg hc] at hF
    refine V.iload_n 2 2 2 rfl dX6_till_9 rfl ?_
    refine V.i2l dX6_till_10 ?_
    refine V.lconst 0 0 (by decide) dX6_till_11 ?_
    refine V.lconst 1 1 (by decide) dX6_till_12 ?_
    replace hF := Option.bind_eq_some_iff.mp hF
    obtain ⟨v2, hv2, hF⟩ := hF
    refine V.callS (d' := d - 1) [vl (wr x2), vl 0, vl 1] [rf E 46] (c_X6_in (by omega) hv2) okX6_in gw_966 rfl rfl (Nat.le_of_ble_eq_true rfl) (by omega) dX6_till_13 ?_
    rintro _ _ ⟨rfl, rfl⟩
    show V E mX6_till d 16 [(0, rf E 46), (1, vi x1), (2, vi x2), (3, vi x3)] [vi v2, rf E 46] M _
    refine V.if_eq (tgt := 35) rfl dX6_till_16 (by decide) (fun hc => ?_) (fun hc => ?_)
    · rw [if_pos hc] at hF
      refine V.sub _ [1, 2, 3] rfl ?_
      exact v_X6_till_35 hd hF hK
    · rw [if_neg hc] at hF
      refine V.iload_n 3 3 3 rfl dX6_till_19 rfl ?_
      refine V.i2l dX6_till_20 ?_
      refine V.lconst 0 0 (by decide) dX6_till_21 ?_
      refine V.ldc2 141 9 9 (by decide) gw_1026 dX6_till_22 ?_
      replace hF := Option.bind_eq_some_iff.mp hF
      obtain ⟨v3, hv3, hF⟩ := hF
      refine V.callS (d' := d - 1) [vl (wr x3), vl 0, vl 9] [rf E 46] (c_X6_in (by omega) hv3) okX6_in gw_966 rfl rfl (Nat.le_of_ble_eq_true rfl) (by omega) dX6_till_25 ?_
      rintro _ _ ⟨rfl, rfl⟩
      show V E mX6_till d 28 [(0, rf E 46), (1, vi x1), (2, vi x2), (3, vi x3)] [vi v3, rf E 46] M _
      refine V.if_eq (tgt := 35) rfl dX6_till_28 (by decide) (fun hc => ?_) (fun hc => ?_)
      · rw [if_pos hc] at hF
        refine V.sub _ [1, 2, 3] rfl ?_
        exact v_X6_till_35 hd hF hK
      · rw [if_neg hc] at hF
        refine V.iconst 1 dX6_till_31 ?_
        refine V.goto (tgt := 36) dX6_till_32 (by decide) ?_
        refine V.sub _ [1, 2, 3] rfl ?_
        exact v_X6_till_36 hd hF hK
theorem c_X6_till {E : En} {d : Nat} {x1 : Int} {x2 : Int} {x3 : Int} {M : Mem} {zr : Int} {zM : Mem}  (hd : 3 ≤ d) (hF : f_X6_till x1 x2 x3 M = some (zr, zM)) : Cn E mX6_till d [rf E 46, vi x1, vi x2, vi x3] M (fun v N => v = some (vi zr) ∧ zM = N) := by
  refine V.entry (by decide +kernel) (Nat.le_of_ble_eq_true rfl) ?_
  exact v_X6_till_0  hd hF ⟨rfl, rfl⟩
abbrev mX6_weigh : MI := (yX6_weigh, cX6_weigh, 3, (some .int))
theorem okX6_weigh : OKV mX6_weigh 2 := ⟨gw_1072, gw_1073, gw_64, gw_1074, (by decide +kernel), (by decide)⟩
def f_X6_weigh_26 (x1 : Int) (x2 : Int) (s0 : Int) (M : Mem) : Option (Int × Mem) :=
  (f_X6_sets s0 (8 + x1) x2 M).bind fun (v1, M2) =>
  some (v1, M2)
set_option maxRecDepth 10000 in
theorem v_X6_weigh_26 {E : En} {d : Nat} {Q : Po} {x1 : Int} {x2 : Int} {s0 : Int} {M : Mem} {z : Int × Mem}  (hd : 3 ≤ d) (hF : f_X6_weigh_26 x1 x2 s0 M = some z) (hK : Q (some (vi z.1)) z.2) : V E mX6_weigh d 26 [(1, vi x1), (2, vi x2)] [vi s0, rf E 46] M Q := by
  unfold f_X6_weigh_26 at hF
  refine V.bipush 8 8 (by decide) dX6_weigh_26 ?_
  refine V.iload_n 1 1 0 rfl dX6_weigh_28 rfl ?_
  refine V.iadd dX6_weigh_29 ?_
  refine V.iload_n 2 2 1 rfl dX6_weigh_30 rfl ?_
  replace hF := Option.bind_eq_some_iff.mp hF
  obtain ⟨⟨v1, M2⟩, hv1, hF⟩ := hF
  dsimp only at hF
  refine V.callV (d' := d - 1) [vi s0, vi (8 + x1), vi x2] [] (c_X6_sets (by omega) hv1) okX6_sets gw_1067 rfl rfl (by decide) (hcX6 E _) rfl (Nat.le_of_ble_eq_true rfl) (by omega) dX6_weigh_31 ?_
  rintro _ _ ⟨rfl, rfl⟩
  show V E mX6_weigh d 34 [(1, vi x1), (2, vi x2)] [vi v1] M2 _
  cases Option.some.inj hF
  exact V.iret rfl dX6_weigh_34 hK
def f_X6_weigh_25 (x1 : Int) (x2 : Int) (M : Mem) : Option (Int × Mem) :=
  f_X6_weigh_26 x1 x2 0 M
set_option maxRecDepth 10000 in
theorem v_X6_weigh_25 {E : En} {d : Nat} {Q : Po} {x1 : Int} {x2 : Int} {M : Mem} {z : Int × Mem}  (hd : 3 ≤ d) (hF : f_X6_weigh_25 x1 x2 M = some z) (hK : Q (some (vi z.1)) z.2) : V E mX6_weigh d 25 [(1, vi x1), (2, vi x2)] [rf E 46] M Q := by
  unfold f_X6_weigh_25 at hF
  refine V.iconst 0 dX6_weigh_25 ?_
  exact v_X6_weigh_26 hd hF hK
def f_X6_weigh (x1 : Int) (x2 : Int) (M : Mem) : Option (Int × Mem) :=
  (f_X6_isReading x1 M).bind fun v1 =>
  if wr v1 = 0 then
    f_X6_weigh_25 x1 x2 M
  else
    (f_X6_in (wr x2) 1 9 M).bind fun v2 =>
    if wr v2 = 0 then
      f_X6_weigh_25 x1 x2 M
    else
      f_X6_weigh_26 x1 x2 1 M
set_option maxRecDepth 10000 in
theorem v_X6_weigh_0 {E : En} {d : Nat} {Q : Po} {x1 : Int} {x2 : Int} {M : Mem} {z : Int × Mem}  (hd : 3 ≤ d) (hF : f_X6_weigh x1 x2 M = some z) (hK : Q (some (vi z.1)) z.2) : V E mX6_weigh d 0 [(0, rf E 46), (1, vi x1), (2, vi x2)] [] M Q := by
  unfold f_X6_weigh at hF
  refine V.aload_n 0 0 0 rfl dX6_weigh_0 rfl ?_
  refine V.aload_n 0 0 0 rfl dX6_weigh_1 rfl ?_
  refine V.iload_n 1 1 1 rfl dX6_weigh_2 rfl ?_
  replace hF := Option.bind_eq_some_iff.mp hF
  obtain ⟨v1, hv1, hF⟩ := hF
  refine V.callV (d' := d - 1) [vi x1] [rf E 46] (c_X6_isReading (by omega) hv1) okX6_isReading gw_1042 rfl rfl (by decide) (hcX6 E _) rfl (Nat.le_of_ble_eq_true rfl) (by omega) dX6_weigh_3 ?_
  rintro _ _ ⟨rfl, rfl⟩
  show V E mX6_weigh d 6 [(0, rf E 46), (1, vi x1), (2, vi x2)] [vi v1, rf E 46] M _
  refine V.if_eq (tgt := 25) rfl dX6_weigh_6 (by decide) (fun hc => ?_) (fun hc => ?_)
  · rw [if_pos hc] at hF
    refine V.sub _ [1, 2] rfl ?_
    exact v_X6_weigh_25 hd hF hK
  · rw [if_neg hc] at hF
    refine V.iload_n 2 2 2 rfl dX6_weigh_9 rfl ?_
    refine V.i2l dX6_weigh_10 ?_
    refine V.lconst 1 1 (by decide) dX6_weigh_11 ?_
    refine V.ldc2 141 9 9 (by decide) gw_1026 dX6_weigh_12 ?_
    replace hF := Option.bind_eq_some_iff.mp hF
    obtain ⟨v2, hv2, hF⟩ := hF
    refine V.callS (d' := d - 1) [vl (wr x2), vl 1, vl 9] [rf E 46] (c_X6_in (by omega) hv2) okX6_in gw_966 rfl rfl (Nat.le_of_ble_eq_true rfl) (by omega) dX6_weigh_15 ?_
    rintro _ _ ⟨rfl, rfl⟩
    show V E mX6_weigh d 18 [(0, rf E 46), (1, vi x1), (2, vi x2)] [vi v2, rf E 46] M _
    refine V.if_eq (tgt := 25) rfl dX6_weigh_18 (by decide) (fun hc => ?_) (fun hc => ?_)
    · rw [if_pos hc] at hF
      refine V.sub _ [1, 2] rfl ?_
      exact v_X6_weigh_25 hd hF hK
    · rw [if_neg hc] at hF
      refine V.iconst 1 dX6_weigh_21 ?_
      refine V.goto (tgt := 26) dX6_weigh_22 (by decide) ?_
      refine V.sub _ [1, 2] rfl ?_
      exact v_X6_weigh_26 hd hF hK
theorem c_X6_weigh {E : En} {d : Nat} {x1 : Int} {x2 : Int} {M : Mem} {zr : Int} {zM : Mem}  (hd : 3 ≤ d) (hF : f_X6_weigh x1 x2 M = some (zr, zM)) : Cn E mX6_weigh d [rf E 46, vi x1, vi x2] M (fun v N => v = some (vi zr) ∧ zM = N) := by
  refine V.entry (by decide +kernel) (Nat.le_of_ble_eq_true rfl) ?_
  exact v_X6_weigh_0  hd hF ⟨rfl, rfl⟩
abbrev mX6_need : MI := (yX6_need, cX6_need, 2, (some .int))
theorem okX6_need : OKV mX6_need 1 := ⟨gw_1076, gw_1077, gw_64, gw_1078, (by decide +kernel), (by decide)⟩
def f_X6_need (x1 : Int) (M : Mem) : Option (Int × Mem) :=
  (f_X6_in (wr x1) 0 40 M).bind fun v1 =>
  (f_X6_sets v1 12 x1 M).bind fun (v2, M3) =>
  some (v2, M3)
set_option maxRecDepth 10000 in
theorem v_X6_need_0 {E : En} {d : Nat} {Q : Po} {x1 : Int} {M : Mem} {z : Int × Mem}  (hd : 2 ≤ d) (hF : f_X6_need x1 M = some z) (hK : Q (some (vi z.1)) z.2) : V E mX6_need d 0 [(0, rf E 46), (1, vi x1)] [] M Q := by
  unfold f_X6_need at hF
  refine V.aload_n 0 0 0 rfl dX6_need_0 rfl ?_
  refine V.iload_n 1 1 1 rfl dX6_need_1 rfl ?_
  refine V.i2l dX6_need_2 ?_
  refine V.lconst 0 0 (by decide) dX6_need_3 ?_
  refine V.ldc2 173 40 40 (by decide) gw_1079 dX6_need_4 ?_
  replace hF := Option.bind_eq_some_iff.mp hF
  obtain ⟨v1, hv1, hF⟩ := hF
  refine V.callS (d' := d - 1) [vl (wr x1), vl 0, vl 40] [rf E 46] (c_X6_in (by omega) hv1) okX6_in gw_966 rfl rfl (Nat.le_of_ble_eq_true rfl) (by omega) dX6_need_7 ?_
  rintro _ _ ⟨rfl, rfl⟩
  show V E mX6_need d 10 [(0, rf E 46), (1, vi x1)] [vi v1, rf E 46] M _
  refine V.bipush 12 12 (by decide) dX6_need_10 ?_
  refine V.iload_n 1 1 1 rfl dX6_need_12 rfl ?_
  replace hF := Option.bind_eq_some_iff.mp hF
  obtain ⟨⟨v2, M3⟩, hv2, hF⟩ := hF
  dsimp only at hF
  refine V.callV (d' := d - 1) [vi v1, vi 12, vi x1] [] (c_X6_sets (by omega) hv2) okX6_sets gw_1067 rfl rfl (by decide) (hcX6 E _) rfl (Nat.le_of_ble_eq_true rfl) (by omega) dX6_need_13 ?_
  rintro _ _ ⟨rfl, rfl⟩
  show V E mX6_need d 16 [(0, rf E 46), (1, vi x1)] [vi v2] M3 _
  cases Option.some.inj hF
  exact V.iret rfl dX6_need_16 hK
theorem c_X6_need {E : En} {d : Nat} {x1 : Int} {M : Mem} {zr : Int} {zM : Mem}  (hd : 2 ≤ d) (hF : f_X6_need x1 M = some (zr, zM)) : Cn E mX6_need d [rf E 46, vi x1] M (fun v N => v = some (vi zr) ∧ zM = N) := by
  refine V.entry (by decide +kernel) (Nat.le_of_ble_eq_true rfl) ?_
  exact v_X6_need_0  hd hF ⟨rfl, rfl⟩
abbrev mX6_hunger : MI := (yX6_hunger, cX6_hunger, 2, (some .int))
theorem okX6_hunger : OKV mX6_hunger 1 := ⟨gw_1081, gw_1082, gw_64, gw_1083, (by decide +kernel), (by decide)⟩
def f_X6_hunger (x1 : Int) (M : Mem) : Option (Int × Mem) :=
  (f_X6_in (wr x1) 0 20 M).bind fun v1 =>
  (f_X6_sets v1 13 x1 M).bind fun (v2, M3) =>
  some (v2, M3)
set_option maxRecDepth 10000 in
theorem v_X6_hunger_0 {E : En} {d : Nat} {Q : Po} {x1 : Int} {M : Mem} {z : Int × Mem}  (hd : 2 ≤ d) (hF : f_X6_hunger x1 M = some z) (hK : Q (some (vi z.1)) z.2) : V E mX6_hunger d 0 [(0, rf E 46), (1, vi x1)] [] M Q := by
  unfold f_X6_hunger at hF
  refine V.aload_n 0 0 0 rfl dX6_hunger_0 rfl ?_
  refine V.iload_n 1 1 1 rfl dX6_hunger_1 rfl ?_
  refine V.i2l dX6_hunger_2 ?_
  refine V.lconst 0 0 (by decide) dX6_hunger_3 ?_
  refine V.ldc2 175 20 20 (by decide) gw_1084 dX6_hunger_4 ?_
  replace hF := Option.bind_eq_some_iff.mp hF
  obtain ⟨v1, hv1, hF⟩ := hF
  refine V.callS (d' := d - 1) [vl (wr x1), vl 0, vl 20] [rf E 46] (c_X6_in (by omega) hv1) okX6_in gw_966 rfl rfl (Nat.le_of_ble_eq_true rfl) (by omega) dX6_hunger_7 ?_
  rintro _ _ ⟨rfl, rfl⟩
  show V E mX6_hunger d 10 [(0, rf E 46), (1, vi x1)] [vi v1, rf E 46] M _
  refine V.bipush 13 13 (by decide) dX6_hunger_10 ?_
  refine V.iload_n 1 1 1 rfl dX6_hunger_12 rfl ?_
  replace hF := Option.bind_eq_some_iff.mp hF
  obtain ⟨⟨v2, M3⟩, hv2, hF⟩ := hF
  dsimp only at hF
  refine V.callV (d' := d - 1) [vi v1, vi 13, vi x1] [] (c_X6_sets (by omega) hv2) okX6_sets gw_1067 rfl rfl (by decide) (hcX6 E _) rfl (Nat.le_of_ble_eq_true rfl) (by omega) dX6_hunger_13 ?_
  rintro _ _ ⟨rfl, rfl⟩
  show V E mX6_hunger d 16 [(0, rf E 46), (1, vi x1)] [vi v2] M3 _
  cases Option.some.inj hF
  exact V.iret rfl dX6_hunger_16 hK
theorem c_X6_hunger {E : En} {d : Nat} {x1 : Int} {M : Mem} {zr : Int} {zM : Mem}  (hd : 2 ≤ d) (hF : f_X6_hunger x1 M = some (zr, zM)) : Cn E mX6_hunger d [rf E 46, vi x1] M (fun v N => v = some (vi zr) ∧ zM = N) := by
  refine V.entry (by decide +kernel) (Nat.le_of_ble_eq_true rfl) ?_
  exact v_X6_hunger_0  hd hF ⟨rfl, rfl⟩
abbrev mX6_cap : MI := (yX6_cap, cX6_cap, 2, (some .int))
theorem okX6_cap : OKV mX6_cap 1 := ⟨gw_1086, gw_1087, gw_64, gw_1088, (by decide +kernel), (by decide)⟩
def f_X6_cap (x1 : Int) (M : Mem) : Option (Int × Mem) :=
  (f_X6_in (wr x1) 0 40 M).bind fun v1 =>
  if wr v1 = 0 then
    some ((-1), M)
  else
    if wr (M 47 16) ≤ wr x1 then
      (f_X6_sets 1 14 (40 - x1) M).bind fun (v2, M3) =>
      some (40 - v2, M3)
    else
      some ((-2), M)
set_option maxRecDepth 10000 in
theorem v_X6_cap_0 {E : En} {d : Nat} {Q : Po} {x1 : Int} {M : Mem} {z : Int × Mem}  (hd : 2 ≤ d) (hF : f_X6_cap x1 M = some z) (hK : Q (some (vi z.1)) z.2) : V E mX6_cap d 0 [(0, rf E 46), (1, vi x1)] [] M Q := by
  unfold f_X6_cap at hF
  refine V.iload_n 1 1 1 rfl dX6_cap_0 rfl ?_
  refine V.i2l dX6_cap_1 ?_
  refine V.lconst 0 0 (by decide) dX6_cap_2 ?_
  refine V.ldc2 173 40 40 (by decide) gw_1079 dX6_cap_3 ?_
  replace hF := Option.bind_eq_some_iff.mp hF
  obtain ⟨v1, hv1, hF⟩ := hF
  refine V.callS (d' := d - 1) [vl (wr x1), vl 0, vl 40] [] (c_X6_in (by omega) hv1) okX6_in gw_966 rfl rfl (Nat.le_of_ble_eq_true rfl) (by omega) dX6_cap_6 ?_
  rintro _ _ ⟨rfl, rfl⟩
  show V E mX6_cap d 9 [(0, rf E 46), (1, vi x1)] [vi v1] M _
  refine V.if_ne (tgt := 14) rfl dX6_cap_9 (by decide) (fun hc => ?_) (fun hc => ?_)
  · rw [if_neg hc] at hF
    refine V.aload_n 0 0 0 rfl dX6_cap_14 rfl ?_
    refine V.get (by decide) (hcX6 E _) rfl inX6 0 (by decide) rfl gw_875 dX6_cap_15 ?_
    refine V.bipush 16 16 (by decide) dX6_cap_18 ?_
    refine V.iald ar_47 (rd_lit 16 16 wr_16 (by decide)) dX6_cap_20 ?_
    refine V.iload_n 1 1 1 rfl dX6_cap_21 rfl ?_
    refine V.icmp_le (tgt := 30) rfl rfl dX6_cap_22 (by decide) (fun hc => ?_) (fun hc => ?_)
    · rw [if_pos hc] at hF
      refine V.bipush 40 40 (by decide) dX6_cap_30 ?_
      refine V.aload_n 0 0 0 rfl dX6_cap_32 rfl ?_
      refine V.iconst 1 dX6_cap_33 ?_
      refine V.bipush 14 14 (by decide) dX6_cap_34 ?_
      refine V.bipush 40 40 (by decide) dX6_cap_36 ?_
      refine V.iload_n 1 1 1 rfl dX6_cap_38 rfl ?_
      refine V.isub dX6_cap_39 ?_
      replace hF := Option.bind_eq_some_iff.mp hF
      obtain ⟨⟨v2, M3⟩, hv2, hF⟩ := hF
      dsimp only at hF
      refine V.callV (d' := d - 1) [vi 1, vi 14, vi (40 - x1)] [vi 40] (c_X6_sets (by omega) hv2) okX6_sets gw_1067 rfl rfl (by decide) (hcX6 E _) rfl (Nat.le_of_ble_eq_true rfl) (by omega) dX6_cap_40 ?_
      rintro _ _ ⟨rfl, rfl⟩
      show V E mX6_cap d 43 [(0, rf E 46), (1, vi x1)] [vi v2, vi 40] M3 _
      refine V.isub dX6_cap_43 ?_
      cases Option.some.inj hF
      exact V.iret rfl dX6_cap_44 hK
    · rw [if_neg hc] at hF
      refine V.bipush (-2) (-2) (by decide) dX6_cap_25 ?_
      refine V.goto (tgt := 44) dX6_cap_27 (by decide) ?_
      cases Option.some.inj hF
      exact V.iret rfl dX6_cap_44 hK
  · rw [if_pos hc] at hF
    refine V.iconst (-1) dX6_cap_12 ?_
    cases Option.some.inj hF
    exact V.iret rfl dX6_cap_13 hK
theorem c_X6_cap {E : En} {d : Nat} {x1 : Int} {M : Mem} {zr : Int} {zM : Mem}  (hd : 2 ≤ d) (hF : f_X6_cap x1 M = some (zr, zM)) : Cn E mX6_cap d [rf E 46, vi x1] M (fun v N => v = some (vi zr) ∧ zM = N) := by
  refine V.entry (by decide +kernel) (Nat.le_of_ble_eq_true rfl) ?_
  exact v_X6_cap_0  hd hF ⟨rfl, rfl⟩
abbrev mX6_rot : MI := (yX6_rot, cX6_rot, 2, (some .int))
theorem okX6_rot : OKV mX6_rot 1 := ⟨gw_1090, gw_1091, gw_64, gw_1092, (by decide +kernel), (by decide)⟩
def f_X6_rot_23 (x1 : Int) (s0 : Int) (M : Mem) : Option (Int × Mem) :=
  (f_X6_sets s0 15 x1 M).bind fun (v1, M2) =>
  some (v1, M2)
set_option maxRecDepth 10000 in
theorem v_X6_rot_23 {E : En} {d : Nat} {Q : Po} {x1 : Int} {s0 : Int} {M : Mem} {z : Int × Mem}  (hd : 2 ≤ d) (hF : f_X6_rot_23 x1 s0 M = some z) (hK : Q (some (vi z.1)) z.2) : V E mX6_rot d 23 [(1, vi x1)] [vi s0, rf E 46] M Q := by
  unfold f_X6_rot_23 at hF
  refine V.bipush 15 15 (by decide) dX6_rot_23 ?_
  refine V.iload_n 1 1 0 rfl dX6_rot_25 rfl ?_
  replace hF := Option.bind_eq_some_iff.mp hF
  obtain ⟨⟨v1, M2⟩, hv1, hF⟩ := hF
  dsimp only at hF
  refine V.callV (d' := d - 1) [vi s0, vi 15, vi x1] [] (c_X6_sets (by omega) hv1) okX6_sets gw_1067 rfl rfl (by decide) (hcX6 E _) rfl (Nat.le_of_ble_eq_true rfl) (by omega) dX6_rot_26 ?_
  rintro _ _ ⟨rfl, rfl⟩
  show V E mX6_rot d 29 [(1, vi x1)] [vi v1] M2 _
  cases Option.some.inj hF
  exact V.iret rfl dX6_rot_29 hK
def f_X6_rot_22 (x1 : Int) (M : Mem) : Option (Int × Mem) :=
  f_X6_rot_23 x1 0 M
set_option maxRecDepth 10000 in
theorem v_X6_rot_22 {E : En} {d : Nat} {Q : Po} {x1 : Int} {M : Mem} {z : Int × Mem}  (hd : 2 ≤ d) (hF : f_X6_rot_22 x1 M = some z) (hK : Q (some (vi z.1)) z.2) : V E mX6_rot d 22 [(1, vi x1)] [rf E 46] M Q := by
  unfold f_X6_rot_22 at hF
  refine V.iconst 0 dX6_rot_22 ?_
  exact v_X6_rot_23 hd hF hK
def f_X6_rot (x1 : Int) (M : Mem) : Option (Int × Mem) :=
  (f_X6_in (wr x1) 0 9 M).bind fun v1 =>
  if wr v1 = 0 then
    f_X6_rot_22 x1 M
  else
    if wr x1 = 1 then
      f_X6_rot_22 x1 M
    else
      f_X6_rot_23 x1 1 M
set_option maxRecDepth 10000 in
theorem v_X6_rot_0 {E : En} {d : Nat} {Q : Po} {x1 : Int} {M : Mem} {z : Int × Mem}  (hd : 2 ≤ d) (hF : f_X6_rot x1 M = some z) (hK : Q (some (vi z.1)) z.2) : V E mX6_rot d 0 [(0, rf E 46), (1, vi x1)] [] M Q := by
  unfold f_X6_rot at hF
  refine V.aload_n 0 0 0 rfl dX6_rot_0 rfl ?_
  refine V.iload_n 1 1 1 rfl dX6_rot_1 rfl ?_
  refine V.i2l dX6_rot_2 ?_
  refine V.lconst 0 0 (by decide) dX6_rot_3 ?_
  refine V.ldc2 141 9 9 (by decide) gw_1026 dX6_rot_4 ?_
  replace hF := Option.bind_eq_some_iff.mp hF
  obtain ⟨v1, hv1, hF⟩ := hF
  refine V.callS (d' := d - 1) [vl (wr x1), vl 0, vl 9] [rf E 46] (c_X6_in (by omega) hv1) okX6_in gw_966 rfl rfl (Nat.le_of_ble_eq_true rfl) (by omega) dX6_rot_7 ?_
  rintro _ _ ⟨rfl, rfl⟩
  show V E mX6_rot d 10 [(0, rf E 46), (1, vi x1)] [vi v1, rf E 46] M _
  refine V.if_eq (tgt := 22) rfl dX6_rot_10 (by decide) (fun hc => ?_) (fun hc => ?_)
  · rw [if_pos hc] at hF
    refine V.sub _ [1] rfl ?_
    exact v_X6_rot_22 hd hF hK
  · rw [if_neg hc] at hF
    refine V.iload_n 1 1 1 rfl dX6_rot_13 rfl ?_
    refine V.iconst 1 dX6_rot_14 ?_
    refine V.icmp_eq (tgt := 22) rfl wr_1 dX6_rot_15 (by decide) (fun hc => ?_) (fun hc => ?_)
    · rw [if_pos hc] at hF
      refine V.sub _ [1] rfl ?_
      exact v_X6_rot_22 hd hF hK
    · rw [if_neg hc] at hF
      refine V.iconst 1 dX6_rot_18 ?_
      refine V.goto (tgt := 23) dX6_rot_19 (by decide) ?_
      refine V.sub _ [1] rfl ?_
      exact v_X6_rot_23 hd hF hK
theorem c_X6_rot {E : En} {d : Nat} {x1 : Int} {M : Mem} {zr : Int} {zM : Mem}  (hd : 2 ≤ d) (hF : f_X6_rot x1 M = some (zr, zM)) : Cn E mX6_rot d [rf E 46, vi x1] M (fun v N => v = some (vi zr) ∧ zM = N) := by
  refine V.entry (by decide +kernel) (Nat.le_of_ble_eq_true rfl) ?_
  exact v_X6_rot_0  hd hF ⟨rfl, rfl⟩
abbrev mX6_fill : MI := (yX6_fill, cX6_fill, 2, (some .int))
theorem okX6_fill : OKV mX6_fill 1 := ⟨gw_1094, gw_1095, gw_64, gw_1096, (by decide +kernel), (by decide)⟩
def f_X6_fill (x1 : Int) (M : Mem) : Option (Int × Mem) :=
  (f_X6_capOn 0 M).bind fun v1 =>
  (f_X6_in (wr x1) 0 (wr v1) M).bind fun v2 =>
  (f_X6_sets v2 16 x1 M).bind fun (v3, M4) =>
  some (v3, M4)
set_option maxRecDepth 10000 in
theorem v_X6_fill_0 {E : En} {d : Nat} {Q : Po} {x1 : Int} {M : Mem} {z : Int × Mem}  (hd : 2 ≤ d) (hF : f_X6_fill x1 M = some z) (hK : Q (some (vi z.1)) z.2) : V E mX6_fill d 0 [(0, rf E 46), (1, vi x1)] [] M Q := by
  unfold f_X6_fill at hF
  refine V.aload_n 0 0 0 rfl dX6_fill_0 rfl ?_
  refine V.iload_n 1 1 1 rfl dX6_fill_1 rfl ?_
  refine V.i2l dX6_fill_2 ?_
  refine V.lconst 0 0 (by decide) dX6_fill_3 ?_
  refine V.aload_n 0 0 0 rfl dX6_fill_4 rfl ?_
  refine V.iconst 0 dX6_fill_5 ?_
  replace hF := Option.bind_eq_some_iff.mp hF
  obtain ⟨v1, hv1, hF⟩ := hF
  refine V.callV (d' := d - 1) [vi 0] [vl 0, vl (wr x1), rf E 46] (c_X6_capOn (by omega) hv1) okX6_capOn gw_1022 rfl rfl (by decide) (hcX6 E _) rfl (Nat.le_of_ble_eq_true rfl) (by omega) dX6_fill_6 ?_
  rintro _ _ ⟨rfl, rfl⟩
  show V E mX6_fill d 9 [(0, rf E 46), (1, vi x1)] [vi v1, vl 0, vl (wr x1), rf E 46] M _
  refine V.i2l dX6_fill_9 ?_
  replace hF := Option.bind_eq_some_iff.mp hF
  obtain ⟨v2, hv2, hF⟩ := hF
  refine V.callS (d' := d - 1) [vl (wr x1), vl 0, vl (wr v1)] [rf E 46] (c_X6_in (by omega) hv2) okX6_in gw_966 rfl rfl (Nat.le_of_ble_eq_true rfl) (by omega) dX6_fill_10 ?_
  rintro _ _ ⟨rfl, rfl⟩
  show V E mX6_fill d 13 [(0, rf E 46), (1, vi x1)] [vi v2, rf E 46] M _
  refine V.bipush 16 16 (by decide) dX6_fill_13 ?_
  refine V.iload_n 1 1 1 rfl dX6_fill_15 rfl ?_
  replace hF := Option.bind_eq_some_iff.mp hF
  obtain ⟨⟨v3, M4⟩, hv3, hF⟩ := hF
  dsimp only at hF
  refine V.callV (d' := d - 1) [vi v2, vi 16, vi x1] [] (c_X6_sets (by omega) hv3) okX6_sets gw_1067 rfl rfl (by decide) (hcX6 E _) rfl (Nat.le_of_ble_eq_true rfl) (by omega) dX6_fill_16 ?_
  rintro _ _ ⟨rfl, rfl⟩
  show V E mX6_fill d 19 [(0, rf E 46), (1, vi x1)] [vi v3] M4 _
  cases Option.some.inj hF
  exact V.iret rfl dX6_fill_19 hK
theorem c_X6_fill {E : En} {d : Nat} {x1 : Int} {M : Mem} {zr : Int} {zM : Mem}  (hd : 2 ≤ d) (hF : f_X6_fill x1 M = some (zr, zM)) : Cn E mX6_fill d [rf E 46, vi x1] M (fun v N => v = some (vi zr) ∧ zM = N) := by
  refine V.entry (by decide +kernel) (Nat.le_of_ble_eq_true rfl) ?_
  exact v_X6_fill_0  hd hF ⟨rfl, rfl⟩
abbrev mX6_price : MI := (yX6_price, cX6_price, 3, (some .int))
theorem okX6_price : OKV mX6_price 2 := ⟨gw_1098, gw_1099, gw_64, gw_1100, (by decide +kernel), (by decide)⟩
def f_X6_price (x1 : Int) (x2 : Int) (M : Mem) : Option (Int × Mem) :=
  (f_X6_isFat x1 M).bind fun v1 =>
  if wr v1 = 0 then
    some ((-1), M)
  else
    (f_X6_in (wr x2) 0 9 M).bind fun v2 =>
    if wr v2 = 0 then
      some ((-1), M)
    else
      (f_X6_sets 1 (17 + x1) (x2 - 1) M).bind fun (v3, M4) =>
      some (1 + v3, M4)
set_option maxRecDepth 10000 in
theorem v_X6_price_0 {E : En} {d : Nat} {Q : Po} {x1 : Int} {x2 : Int} {M : Mem} {z : Int × Mem}  (hd : 3 ≤ d) (hF : f_X6_price x1 x2 M = some z) (hK : Q (some (vi z.1)) z.2) : V E mX6_price d 0 [(0, rf E 46), (1, vi x1), (2, vi x2)] [] M Q := by
  unfold f_X6_price at hF
  refine V.iload_n 1 1 1 rfl dX6_price_0 rfl ?_
  replace hF := Option.bind_eq_some_iff.mp hF
  obtain ⟨v1, hv1, hF⟩ := hF
  refine V.callS (d' := d - 1) [vi x1] [] (c_X6_isFat (by omega) hv1) okX6_isFat gw_1056 rfl rfl (Nat.le_of_ble_eq_true rfl) (by omega) dX6_price_1 ?_
  rintro _ _ ⟨rfl, rfl⟩
  show V E mX6_price d 4 [(0, rf E 46), (1, vi x1), (2, vi x2)] [vi v1] M _
  refine V.if_eq (tgt := 36) rfl dX6_price_4 (by decide) (fun hc => ?_) (fun hc => ?_)
  · rw [if_pos hc] at hF
    refine V.iconst (-1) dX6_price_36 ?_
    cases Option.some.inj hF
    exact V.iret rfl dX6_price_37 hK
  · rw [if_neg hc] at hF
    refine V.iload_n 2 2 2 rfl dX6_price_7 rfl ?_
    refine V.i2l dX6_price_8 ?_
    refine V.lconst 0 0 (by decide) dX6_price_9 ?_
    refine V.ldc2 141 9 9 (by decide) gw_1026 dX6_price_10 ?_
    replace hF := Option.bind_eq_some_iff.mp hF
    obtain ⟨v2, hv2, hF⟩ := hF
    refine V.callS (d' := d - 1) [vl (wr x2), vl 0, vl 9] [] (c_X6_in (by omega) hv2) okX6_in gw_966 rfl rfl (Nat.le_of_ble_eq_true rfl) (by omega) dX6_price_13 ?_
    rintro _ _ ⟨rfl, rfl⟩
    show V E mX6_price d 16 [(0, rf E 46), (1, vi x1), (2, vi x2)] [vi v2] M _
    refine V.if_eq (tgt := 36) rfl dX6_price_16 (by decide) (fun hc => ?_) (fun hc => ?_)
    · rw [if_pos hc] at hF
      refine V.iconst (-1) dX6_price_36 ?_
      cases Option.some.inj hF
      exact V.iret rfl dX6_price_37 hK
    · rw [if_neg hc] at hF
      refine V.iconst 1 dX6_price_19 ?_
      refine V.aload_n 0 0 0 rfl dX6_price_20 rfl ?_
      refine V.iconst 1 dX6_price_21 ?_
      refine V.bipush 17 17 (by decide) dX6_price_22 ?_
      refine V.iload_n 1 1 1 rfl dX6_price_24 rfl ?_
      refine V.iadd dX6_price_25 ?_
      refine V.iload_n 2 2 2 rfl dX6_price_26 rfl ?_
      refine V.iconst 1 dX6_price_27 ?_
      refine V.isub dX6_price_28 ?_
      replace hF := Option.bind_eq_some_iff.mp hF
      obtain ⟨⟨v3, M4⟩, hv3, hF⟩ := hF
      dsimp only at hF
      refine V.callV (d' := d - 1) [vi 1, vi (17 + x1), vi (x2 - 1)] [vi 1] (c_X6_sets (by omega) hv3) okX6_sets gw_1067 rfl rfl (by decide) (hcX6 E _) rfl (Nat.le_of_ble_eq_true rfl) (by omega) dX6_price_29 ?_
      rintro _ _ ⟨rfl, rfl⟩
      show V E mX6_price d 32 [(0, rf E 46), (1, vi x1), (2, vi x2)] [vi v3, vi 1] M4 _
      refine V.iadd dX6_price_32 ?_
      refine V.goto (tgt := 37) dX6_price_33 (by decide) ?_
      cases Option.some.inj hF
      exact V.iret rfl dX6_price_37 hK
theorem c_X6_price {E : En} {d : Nat} {x1 : Int} {x2 : Int} {M : Mem} {zr : Int} {zM : Mem}  (hd : 3 ≤ d) (hF : f_X6_price x1 x2 M = some (zr, zM)) : Cn E mX6_price d [rf E 46, vi x1, vi x2] M (fun v N => v = some (vi zr) ∧ zM = N) := by
  refine V.entry (by decide +kernel) (Nat.le_of_ble_eq_true rfl) ?_
  exact v_X6_price_0  hd hF ⟨rfl, rfl⟩
abbrev mX6_steward : MI := (yX6_steward, cX6_steward, 3, (some .int))
theorem okX6_steward : OKV mX6_steward 2 := ⟨gw_1102, gw_1103, gw_64, gw_1104, (by decide +kernel), (by decide)⟩
def f_X6_steward (x1 : Int) (x2 : Int) (M : Mem) : Option (Int × Mem) :=
  (f_X6_in (wr x1) 0 4 M).bind fun v1 =>
  if wr v1 = 0 then
    some ((-1), M)
  else
    (f_X6_in (wr x2) 0 9 M).bind fun v2 =>
    if wr v2 = 0 then
      some ((-1), M)
    else
      (some (st M 47 20 x2)).bind fun M3 =>
      (f_X6_sets 1 19 x1 M3).bind fun (v4, M5) =>
      some (v4, M5)
set_option maxRecDepth 10000 in
theorem v_X6_steward_0 {E : En} {d : Nat} {Q : Po} {x1 : Int} {x2 : Int} {M : Mem} {z : Int × Mem}  (hd : 2 ≤ d) (hF : f_X6_steward x1 x2 M = some z) (hK : Q (some (vi z.1)) z.2) : V E mX6_steward d 0 [(0, rf E 46), (1, vi x1), (2, vi x2)] [] M Q := by
  unfold f_X6_steward at hF
  refine V.iload_n 1 1 1 rfl dX6_steward_0 rfl ?_
  refine V.i2l dX6_steward_1 ?_
  refine V.lconst 0 0 (by decide) dX6_steward_2 ?_
  refine V.ldc2 177 4 4 (by decide) gw_1105 dX6_steward_3 ?_
  replace hF := Option.bind_eq_some_iff.mp hF
  obtain ⟨v1, hv1, hF⟩ := hF
  refine V.callS (d' := d - 1) [vl (wr x1), vl 0, vl 4] [] (c_X6_in (by omega) hv1) okX6_in gw_966 rfl rfl (Nat.le_of_ble_eq_true rfl) (by omega) dX6_steward_6 ?_
  rintro _ _ ⟨rfl, rfl⟩
  show V E mX6_steward d 9 [(0, rf E 46), (1, vi x1), (2, vi x2)] [vi v1] M _
  refine V.if_eq (tgt := 24) rfl dX6_steward_9 (by decide) (fun hc => ?_) (fun hc => ?_)
  · rw [if_pos hc] at hF
    refine V.iconst (-1) dX6_steward_24 ?_
    cases Option.some.inj hF
    exact V.iret rfl dX6_steward_25 hK
  · rw [if_neg hc] at hF
    refine V.iload_n 2 2 2 rfl dX6_steward_12 rfl ?_
    refine V.i2l dX6_steward_13 ?_
    refine V.lconst 0 0 (by decide) dX6_steward_14 ?_
    refine V.ldc2 141 9 9 (by decide) gw_1026 dX6_steward_15 ?_
    replace hF := Option.bind_eq_some_iff.mp hF
    obtain ⟨v2, hv2, hF⟩ := hF
    refine V.callS (d' := d - 1) [vl (wr x2), vl 0, vl 9] [] (c_X6_in (by omega) hv2) okX6_in gw_966 rfl rfl (Nat.le_of_ble_eq_true rfl) (by omega) dX6_steward_18 ?_
    rintro _ _ ⟨rfl, rfl⟩
    show V E mX6_steward d 21 [(0, rf E 46), (1, vi x1), (2, vi x2)] [vi v2] M _
    refine V.if_ne (tgt := 26) rfl dX6_steward_21 (by decide) (fun hc => ?_) (fun hc => ?_)
    · rw [if_neg hc] at hF
      refine V.aload_n 0 0 0 rfl dX6_steward_26 rfl ?_
      refine V.get (by decide) (hcX6 E _) rfl inX6 0 (by decide) rfl gw_875 dX6_steward_27 ?_
      refine V.bipush 20 20 (by decide) dX6_steward_30 ?_
      refine V.iload_n 2 2 2 rfl dX6_steward_32 rfl ?_
      replace hF := Option.bind_eq_some_iff.mp hF
      obtain ⟨M3, hM3, hF⟩ := hF
      refine V.iast ar_47 ((wt_lit 20 20 wr_20 (by decide)).trans hM3) dX6_steward_33 ?_
      refine V.aload_n 0 0 0 rfl dX6_steward_34 rfl ?_
      refine V.iconst 1 dX6_steward_35 ?_
      refine V.bipush 19 19 (by decide) dX6_steward_36 ?_
      refine V.iload_n 1 1 1 rfl dX6_steward_38 rfl ?_
      replace hF := Option.bind_eq_some_iff.mp hF
      obtain ⟨⟨v4, M5⟩, hv4, hF⟩ := hF
      dsimp only at hF
      refine V.callV (d' := d - 1) [vi 1, vi 19, vi x1] [] (c_X6_sets (by omega) hv4) okX6_sets gw_1067 rfl rfl (by decide) (hcX6 E _) rfl (Nat.le_of_ble_eq_true rfl) (by omega) dX6_steward_39 ?_
      rintro _ _ ⟨rfl, rfl⟩
      show V E mX6_steward d 42 [(0, rf E 46), (1, vi x1), (2, vi x2)] [vi v4] M5 _
      cases Option.some.inj hF
      exact V.iret rfl dX6_steward_42 hK
    · rw [if_pos hc] at hF
      refine V.iconst (-1) dX6_steward_24 ?_
      cases Option.some.inj hF
      exact V.iret rfl dX6_steward_25 hK
theorem c_X6_steward {E : En} {d : Nat} {x1 : Int} {x2 : Int} {M : Mem} {zr : Int} {zM : Mem}  (hd : 2 ≤ d) (hF : f_X6_steward x1 x2 M = some (zr, zM)) : Cn E mX6_steward d [rf E 46, vi x1, vi x2] M (fun v N => v = some (vi zr) ∧ zM = N) := by
  refine V.entry (by decide +kernel) (Nat.le_of_ble_eq_true rfl) ?_
  exact v_X6_steward_0  hd hF ⟨rfl, rfl⟩
abbrev mX6_leftOn : MI := (yX6_leftOn, cX6_leftOn, 4, (some .int))
theorem okX6_leftOn : OKV mX6_leftOn 2 := ⟨gw_1116, gw_40, gw_64, gw_1117, (by decide +kernel), (by decide)⟩
def f_X6_leftOn (n : Nat) (x1 : Int) (x2 : Int) (M : Mem) : Option (Int) :=
  (rd M 47 125 (x1 + 16)).bind fun v1 =>
  (f_X6_bearsOn n x1 x2 M).bind fun v2 =>
  (rd M 47 125 (x1 + 12)).bind fun v3 =>
  if wr (v1 + v2) ≤ wr v3 then
    some 0
  else
    (rd M 47 125 (x1 + 12)).bind fun v4 =>
    some ((v1 + v2) - v4)
set_option maxRecDepth 10000 in
theorem v_X6_leftOn_0 {E : En} {d : Nat} {Q : Po} {n : Nat} {x1 : Int} {x2 : Int} {M : Mem} {z : Int}  (hd : 2 ≤ d) (hF : f_X6_leftOn n x1 x2 M = some z) (hK : Q (some (vi z)) M) : V E mX6_leftOn d 0 [(0, rf E 46), (1, vi x1), (2, vi x2)] [] M Q := by
  unfold f_X6_leftOn at hF
  refine V.aload_n 0 0 0 rfl dX6_leftOn_0 rfl ?_
  refine V.get (by decide) (hcX6 E _) rfl inX6 0 (by decide) rfl gw_875 dX6_leftOn_1 ?_
  refine V.iload_n 1 1 1 rfl dX6_leftOn_4 rfl ?_
  refine V.bipush 16 16 (by decide) dX6_leftOn_5 ?_
  refine V.iadd dX6_leftOn_7 ?_
  replace hF := Option.bind_eq_some_iff.mp hF
  obtain ⟨v1, hv1, hF⟩ := hF
  refine V.iald ar_47 hv1 dX6_leftOn_8 ?_
  refine V.aload_n 0 0 0 rfl dX6_leftOn_9 rfl ?_
  refine V.iload_n 1 1 1 rfl dX6_leftOn_10 rfl ?_
  refine V.iload_n 2 2 2 rfl dX6_leftOn_11 rfl ?_
  replace hF := Option.bind_eq_some_iff.mp hF
  obtain ⟨v2, hv2, hF⟩ := hF
  refine V.callV (d' := d - 1) [vi x1, vi x2] [vi v1] (c_X6_bearsOn (by omega) hv2) okX6_bearsOn gw_1059 rfl rfl (by decide) (hcX6 E _) rfl (Nat.le_of_ble_eq_true rfl) (by omega) dX6_leftOn_12 ?_
  rintro _ _ ⟨rfl, rfl⟩
  show V E mX6_leftOn d 15 [(0, rf E 46), (1, vi x1), (2, vi x2)] [vi v2, vi v1] M _
  refine V.iadd dX6_leftOn_15 ?_
  refine V.istore_n 3 3 [(3, vi (v1 + v2)), (0, rf E 46), (1, vi x1), (2, vi x2)] rfl dX6_leftOn_16 (by decide) rfl ?_
  refine V.iload_n 3 3 0 rfl dX6_leftOn_17 rfl ?_
  refine V.aload_n 0 0 1 rfl dX6_leftOn_18 rfl ?_
  refine V.get (by decide) (hcX6 E _) rfl inX6 0 (by decide) rfl gw_875 dX6_leftOn_19 ?_
  refine V.iload_n 1 1 2 rfl dX6_leftOn_22 rfl ?_
  refine V.bipush 12 12 (by decide) dX6_leftOn_23 ?_
  refine V.iadd dX6_leftOn_25 ?_
  replace hF := Option.bind_eq_some_iff.mp hF
  obtain ⟨v3, hv3, hF⟩ := hF
  refine V.iald ar_47 hv3 dX6_leftOn_26 ?_
  refine V.icmp_le (tgt := 44) rfl rfl dX6_leftOn_27 (by decide) (fun hc => ?_) (fun hc => ?_)
  · rw [if_pos hc] at hF
    refine V.iconst 0 dX6_leftOn_44 ?_
    cases Option.some.inj hF
    exact V.iret rfl dX6_leftOn_45 hK
  · rw [if_neg hc] at hF
    refine V.iload_n 3 3 0 rfl dX6_leftOn_30 rfl ?_
    refine V.aload_n 0 0 1 rfl dX6_leftOn_31 rfl ?_
    refine V.get (by decide) (hcX6 E _) rfl inX6 0 (by decide) rfl gw_875 dX6_leftOn_32 ?_
    refine V.iload_n 1 1 2 rfl dX6_leftOn_35 rfl ?_
    refine V.bipush 12 12 (by decide) dX6_leftOn_36 ?_
    refine V.iadd dX6_leftOn_38 ?_
    replace hF := Option.bind_eq_some_iff.mp hF
    obtain ⟨v4, hv4, hF⟩ := hF
    refine V.iald ar_47 hv4 dX6_leftOn_39 ?_
    refine V.isub dX6_leftOn_40 ?_
    refine V.goto (tgt := 45) dX6_leftOn_41 (by decide) ?_
    cases Option.some.inj hF
    exact V.iret rfl dX6_leftOn_45 hK
theorem c_X6_leftOn {E : En} {d : Nat} {n : Nat} {x1 : Int} {x2 : Int} {M : Mem} {z : Int}  (hd : 2 ≤ d) (hF : f_X6_leftOn n x1 x2 M = some z) : Cn E mX6_leftOn d [rf E 46, vi x1, vi x2] M (fun v N => v = some (vi z) ∧ M = N) := by
  refine V.entry (by decide +kernel) (Nat.le_of_ble_eq_true rfl) ?_
  exact v_X6_leftOn_0  hd hF ⟨rfl, rfl⟩
abbrev mX6_keepsOn : MI := (yX6_keepsOn, cX6_keepsOn, 5, (some .int))
theorem okX6_keepsOn : OKV mX6_keepsOn 2 := ⟨gw_1131, gw_42, gw_64, gw_1132, (by decide +kernel), (by decide)⟩
def f_X6_keepsOn_104 (x1 : Int) (s0 : Int) (M : Mem) : Option (Int) :=
  (f_X6_capOn x1 M).bind fun v1 =>
  if wr v1 ≤ wr s0 then
    (f_X6_capOn x1 M).bind fun v2 =>
    some v2
  else
    some s0
set_option maxRecDepth 10000 in
theorem v_X6_keepsOn_104 {E : En} {d : Nat} {Q : Po} {x1 : Int} {s0 : Int} {M : Mem} {z : Int}  (hd : 2 ≤ d) (hF : f_X6_keepsOn_104 x1 s0 M = some z) (hK : Q (some (vi z)) M) : V E mX6_keepsOn d 104 [(0, rf E 46), (1, vi x1)] [vi s0] M Q := by
  unfold f_X6_keepsOn_104 at hF
  refine V.istore 4 [(4, vi s0), (0, rf E 46), (1, vi x1)] dX6_keepsOn_104 (by decide) rfl ?_
  refine V.iload 4 0 dX6_keepsOn_106 rfl ?_
  refine V.aload_n 0 0 1 rfl dX6_keepsOn_108 rfl ?_
  refine V.iload_n 1 1 2 rfl dX6_keepsOn_109 rfl ?_
  replace hF := Option.bind_eq_some_iff.mp hF
  obtain ⟨v1, hv1, hF⟩ := hF
  refine V.callV (d' := d - 1) [vi x1] [vi s0] (c_X6_capOn (by omega) hv1) okX6_capOn gw_1022 rfl rfl (by decide) (hcX6 E _) rfl (Nat.le_of_ble_eq_true rfl) (by omega) dX6_keepsOn_110 ?_
  rintro _ _ ⟨rfl, rfl⟩
  show V E mX6_keepsOn d 113 [(4, vi s0), (0, rf E 46), (1, vi x1)] [vi v1, vi s0] M _
  refine V.icmp_ge (tgt := 121) rfl rfl dX6_keepsOn_113 (by decide) (fun hc => ?_) (fun hc => ?_)
  · rw [if_pos hc] at hF
    refine V.aload_n 0 0 1 rfl dX6_keepsOn_121 rfl ?_
    refine V.iload_n 1 1 2 rfl dX6_keepsOn_122 rfl ?_
    replace hF := Option.bind_eq_some_iff.mp hF
    obtain ⟨v2, hv2, hF⟩ := hF
    refine V.callV (d' := d - 1) [vi x1] [] (c_X6_capOn (by omega) hv2) okX6_capOn gw_1022 rfl rfl (by decide) (hcX6 E _) rfl (Nat.le_of_ble_eq_true rfl) (by omega) dX6_keepsOn_123 ?_
    rintro _ _ ⟨rfl, rfl⟩
    show V E mX6_keepsOn d 126 [(4, vi s0), (0, rf E 46), (1, vi x1)] [vi v2] M _
    cases Option.some.inj hF
    exact V.iret rfl dX6_keepsOn_126 hK
  · rw [if_neg hc] at hF
    refine V.iload 4 0 dX6_keepsOn_116 rfl ?_
    refine V.goto (tgt := 126) dX6_keepsOn_118 (by decide) ?_
    cases Option.some.inj hF
    exact V.iret rfl dX6_keepsOn_126 hK
def f_X6_keepsOn_92 (x1 : Int) (x2 : Int) (x4 : Int) (M : Mem) : Option (Int) :=
  if wr x2 ≤ wr x4 then
    f_X6_keepsOn_104 x1 x2 M
  else
    f_X6_keepsOn_104 x1 x4 M
set_option maxRecDepth 10000 in
theorem v_X6_keepsOn_92 {E : En} {d : Nat} {Q : Po} {x1 : Int} {x2 : Int} {x4 : Int} {M : Mem} {z : Int}  (hd : 2 ≤ d) (hF : f_X6_keepsOn_92 x1 x2 x4 M = some z) (hK : Q (some (vi z)) M) : V E mX6_keepsOn d 92 [(0, rf E 46), (1, vi x1), (2, vi x2), (4, vi x4)] [] M Q := by
  unfold f_X6_keepsOn_92 at hF
  refine V.iload 4 3 dX6_keepsOn_92 rfl ?_
  refine V.iload_n 2 2 2 rfl dX6_keepsOn_94 rfl ?_
  refine V.icmp_ge (tgt := 103) rfl rfl dX6_keepsOn_95 (by decide) (fun hc => ?_) (fun hc => ?_)
  · rw [if_pos hc] at hF
    refine V.iload_n 2 2 2 rfl dX6_keepsOn_103 rfl ?_
    refine V.sub _ [0, 1] rfl ?_
    exact v_X6_keepsOn_104 hd hF hK
  · rw [if_neg hc] at hF
    refine V.iload 4 3 dX6_keepsOn_98 rfl ?_
    refine V.goto (tgt := 104) dX6_keepsOn_100 (by decide) ?_
    refine V.sub _ [0, 1] rfl ?_
    exact v_X6_keepsOn_104 hd hF hK
def f_X6_keepsOn (x1 : Int) (x2 : Int) (M : Mem) : Option (Int) :=
  (rd M 47 125 (x1 + 20)).bind fun v1 =>
  (rd M 47 125 (x1 + 19)).bind fun v2 =>
  if wr v2 = 1 then
    (ivtdiv x2 (v1 + 1)).bind fun v3 =>
    f_X6_keepsOn_92 x1 x2 v3 M
  else if wr v2 = 2 then
    f_X6_keepsOn_92 x1 x2 (4 * v1) M
  else if wr v2 = 3 then
    f_X6_keepsOn_92 x1 x2 0 M
  else if wr v2 = 4 then
    (rd M 47 125 (x1 + 12)).bind fun v4 =>
    f_X6_keepsOn_92 x1 x2 (v4 * v1) M
  else 
    f_X6_keepsOn_92 x1 x2 x2 M
set_option maxRecDepth 10000 in
theorem v_X6_keepsOn_0 {E : En} {d : Nat} {Q : Po} {x1 : Int} {x2 : Int} {M : Mem} {z : Int}  (hd : 2 ≤ d) (hF : f_X6_keepsOn x1 x2 M = some z) (hK : Q (some (vi z)) M) : V E mX6_keepsOn d 0 [(0, rf E 46), (1, vi x1), (2, vi x2)] [] M Q := by
  unfold f_X6_keepsOn at hF
  refine V.aload_n 0 0 0 rfl dX6_keepsOn_0 rfl ?_
  refine V.get (by decide) (hcX6 E _) rfl inX6 0 (by decide) rfl gw_875 dX6_keepsOn_1 ?_
  refine V.iload_n 1 1 1 rfl dX6_keepsOn_4 rfl ?_
  refine V.bipush 20 20 (by decide) dX6_keepsOn_5 ?_
  refine V.iadd dX6_keepsOn_7 ?_
  replace hF := Option.bind_eq_some_iff.mp hF
  obtain ⟨v1, hv1, hF⟩ := hF
  refine V.iald ar_47 hv1 dX6_keepsOn_8 ?_
  refine V.istore_n 3 3 [(3, vi v1), (0, rf E 46), (1, vi x1), (2, vi x2)] rfl dX6_keepsOn_9 (by decide) rfl ?_
  refine V.iload_n 2 2 3 rfl dX6_keepsOn_10 rfl ?_
  refine V.istore 4 [(4, vi x2), (3, vi v1), (0, rf E 46), (1, vi x1), (2, vi x2)] dX6_keepsOn_11 (by decide) rfl ?_
  refine V.aload_n 0 0 2 rfl dX6_keepsOn_13 rfl ?_
  refine V.get (by decide) (hcX6 E _) rfl inX6 0 (by decide) rfl gw_875 dX6_keepsOn_14 ?_
  refine V.iload_n 1 1 3 rfl dX6_keepsOn_17 rfl ?_
  refine V.bipush 19 19 (by decide) dX6_keepsOn_18 ?_
  refine V.iadd dX6_keepsOn_20 ?_
  replace hF := Option.bind_eq_some_iff.mp hF
  obtain ⟨v2, hv2, hF⟩ := hF
  refine V.iald ar_47 hv2 dX6_keepsOn_21 ?_
  by_cases hs1 : wr v2 = 1
  · rw [if_pos hs1] at hF
    refine V.tableIn (a := 1) (tgt := 52) (off := 30) hs1 dX6_keepsOn_22 (by decide) (by decide) rfl (by decide) ?_
    refine V.iload_n 2 2 4 rfl dX6_keepsOn_52 rfl ?_
    refine V.iload_n 3 3 1 rfl dX6_keepsOn_53 rfl ?_
    refine V.iconst 1 dX6_keepsOn_54 ?_
    refine V.iadd dX6_keepsOn_55 ?_
    replace hF := Option.bind_eq_some_iff.mp hF
    obtain ⟨v3, hv3, hF⟩ := hF
    refine V.idiv (ivtdiv_some hv3).1 dX6_keepsOn_56 ?_
    rw [← (ivtdiv_some hv3).2]
    refine V.istore 4 [(4, vi v3), (3, vi v1), (0, rf E 46), (1, vi x1), (2, vi x2)] dX6_keepsOn_57 (by decide) rfl ?_
    refine V.goto (tgt := 92) dX6_keepsOn_59 (by decide) ?_
    refine V.sub _ [2, 3, 4, 0] rfl ?_
    exact v_X6_keepsOn_92 hd hF hK
  rw [if_neg hs1] at hF
  by_cases hs2 : wr v2 = 2
  · rw [if_pos hs2] at hF
    refine V.tableIn (a := 2) (tgt := 62) (off := 40) hs2 dX6_keepsOn_22 (by decide) (by decide) rfl (by decide) ?_
    refine V.iconst 4 dX6_keepsOn_62 ?_
    refine V.iload_n 3 3 1 rfl dX6_keepsOn_63 rfl ?_
    refine V.imul dX6_keepsOn_64 ?_
    refine V.istore 4 [(4, vi (4 * v1)), (3, vi v1), (0, rf E 46), (1, vi x1), (2, vi x2)] dX6_keepsOn_65 (by decide) rfl ?_
    refine V.goto (tgt := 92) dX6_keepsOn_67 (by decide) ?_
    refine V.sub _ [2, 3, 4, 0] rfl ?_
    exact v_X6_keepsOn_92 hd hF hK
  rw [if_neg hs2] at hF
  by_cases hs3 : wr v2 = 3
  · rw [if_pos hs3] at hF
    refine V.tableIn (a := 3) (tgt := 70) (off := 48) hs3 dX6_keepsOn_22 (by decide) (by decide) rfl (by decide) ?_
    refine V.iconst 0 dX6_keepsOn_70 ?_
    refine V.istore 4 [(4, vi 0), (3, vi v1), (0, rf E 46), (1, vi x1), (2, vi x2)] dX6_keepsOn_71 (by decide) rfl ?_
    refine V.goto (tgt := 92) dX6_keepsOn_73 (by decide) ?_
    refine V.sub _ [2, 3, 4, 0] rfl ?_
    exact v_X6_keepsOn_92 hd hF hK
  rw [if_neg hs3] at hF
  by_cases hs4 : wr v2 = 4
  · rw [if_pos hs4] at hF
    refine V.tableIn (a := 4) (tgt := 76) (off := 54) hs4 dX6_keepsOn_22 (by decide) (by decide) rfl (by decide) ?_
    refine V.aload_n 0 0 2 rfl dX6_keepsOn_76 rfl ?_
    refine V.get (by decide) (hcX6 E _) rfl inX6 0 (by decide) rfl gw_875 dX6_keepsOn_77 ?_
    refine V.iload_n 1 1 3 rfl dX6_keepsOn_80 rfl ?_
    refine V.bipush 12 12 (by decide) dX6_keepsOn_81 ?_
    refine V.iadd dX6_keepsOn_83 ?_
    replace hF := Option.bind_eq_some_iff.mp hF
    obtain ⟨v4, hv4, hF⟩ := hF
    refine V.iald ar_47 hv4 dX6_keepsOn_84 ?_
    refine V.iload_n 3 3 1 rfl dX6_keepsOn_85 rfl ?_
    refine V.imul dX6_keepsOn_86 ?_
    refine V.istore 4 [(4, vi (v4 * v1)), (3, vi v1), (0, rf E 46), (1, vi x1), (2, vi x2)] dX6_keepsOn_87 (by decide) rfl ?_
    refine V.goto (tgt := 92) dX6_keepsOn_89 (by decide) ?_
    refine V.sub _ [2, 3, 4, 0] rfl ?_
    exact v_X6_keepsOn_92 hd hF hK
  rw [if_neg hs4] at hF
  refine V.tableOut (tgt := 92) rfl dX6_keepsOn_22 (by omega) (by decide) ?_
  refine V.sub _ [2, 3, 4, 0] rfl ?_
  exact v_X6_keepsOn_92 hd hF hK
theorem c_X6_keepsOn {E : En} {d : Nat} {x1 : Int} {x2 : Int} {M : Mem} {z : Int}  (hd : 2 ≤ d) (hF : f_X6_keepsOn x1 x2 M = some z) : Cn E mX6_keepsOn d [rf E 46, vi x1, vi x2] M (fun v N => v = some (vi z) ∧ M = N) := by
  refine V.entry (by decide +kernel) (Nat.le_of_ble_eq_true rfl) ?_
  exact v_X6_keepsOn_0  hd hF ⟨rfl, rfl⟩
abbrev mX6_rotted : MI := (yX6_rotted, cX6_rotted, 2, (some .int))
theorem okX6_rotted : OKS mX6_rotted 2 := ⟨gw_1123, gw_64, gw_1124, (by decide +kernel), (by decide)⟩
def f_X6_rotted (x0 : Int) (x1 : Int) (M : Mem) : Option (Int) :=
  if wr x1 = 0 then
    some x0
  else
    (ivtdiv x0 x1).bind fun v1 =>
    some (x0 - v1)
set_option maxRecDepth 10000 in
theorem v_X6_rotted_0 {E : En} {d : Nat} {Q : Po} {x0 : Int} {x1 : Int} {M : Mem} {z : Int}  (hd : 1 ≤ d) (hF : f_X6_rotted x0 x1 M = some z) (hK : Q (some (vi z)) M) : V E mX6_rotted d 0 [(0, vi x0), (1, vi x1)] [] M Q := by
  unfold f_X6_rotted at hF
  refine V.iload_n 1 1 1 rfl dX6_rotted_0 rfl ?_
  refine V.if_ne (tgt := 8) rfl dX6_rotted_1 (by decide) (fun hc => ?_) (fun hc => ?_)
  · rw [if_neg hc] at hF
    refine V.iload_n 0 0 0 rfl dX6_rotted_8 rfl ?_
    refine V.iload_n 0 0 0 rfl dX6_rotted_9 rfl ?_
    refine V.iload_n 1 1 1 rfl dX6_rotted_10 rfl ?_
    replace hF := Option.bind_eq_some_iff.mp hF
    obtain ⟨v1, hv1, hF⟩ := hF
    refine V.idiv (ivtdiv_some hv1).1 dX6_rotted_11 ?_
    rw [← (ivtdiv_some hv1).2]
    refine V.isub dX6_rotted_12 ?_
    cases Option.some.inj hF
    exact V.iret rfl dX6_rotted_13 hK
  · rw [if_pos hc] at hF
    refine V.iload_n 0 0 0 rfl dX6_rotted_4 rfl ?_
    refine V.goto (tgt := 13) dX6_rotted_5 (by decide) ?_
    cases Option.some.inj hF
    exact V.iret rfl dX6_rotted_13 hK
theorem c_X6_rotted {E : En} {d : Nat} {x0 : Int} {x1 : Int} {M : Mem} {z : Int}  (hd : 1 ≤ d) (hF : f_X6_rotted x0 x1 M = some z) : Cn E mX6_rotted d [vi x0, vi x1] M (fun v N => v = some (vi z) ∧ M = N) := by
  refine V.entry (by decide +kernel) (Nat.le_of_ble_eq_true rfl) ?_
  exact v_X6_rotted_0  hd hF ⟨rfl, rfl⟩
abbrev mX6_goesOn : MI := (yX6_goesOn, cX6_goesOn, 6, (some .int))
theorem okX6_goesOn : OKV mX6_goesOn 3 := ⟨gw_1120, gw_41, gw_64, gw_1121, (by decide +kernel), (by decide)⟩
def f_X6_goesOn_48 (n : Nat) (x1 : Int) (x2 : Int) (x3 : Int) (s0 : Int) (M : Mem) : Option (Int × Mem) :=
  (rd M 47 125 (x1 + 23)).bind fun v1 =>
  (f_X6_leftOn n x1 x2 M).bind fun v2 =>
  (rd M 47 125 ((x1 + 17) + x2)).bind fun v3 =>
  (wt M 47 125 (x1 + 23) (v1 + ((v2 - x3) * (v3 + 1)))).bind fun M4 =>
  (rd M4 47 125 (x1 + 24)).bind fun v5 =>
  (wt M4 47 125 (x1 + 24) (v5 + s0)).bind fun M6 =>
  (rd M6 47 125 (x1 + 15)).bind fun v7 =>
  (f_X6_rotted x3 v7 M6).bind fun v8 =>
  (wt M6 47 125 (x1 + 16) v8).bind fun M9 =>
  (rd M9 47 125 (x1 + 22)).bind fun v10 =>
  (rd M9 47 125 (x1 + 21)).bind fun v11 =>
  (wt M9 47 125 (x1 + 22) (bOr v10 (bShl x2 v11))).bind fun M12 =>
  (rd M12 47 125 (x1 + 21)).bind fun v13 =>
  (wt M12 47 125 (x1 + 21) (v13 + 1)).bind fun M14 =>
  some (s0, M14)
set_option maxRecDepth 10000 in
theorem v_X6_goesOn_48 {E : En} {d : Nat} {Q : Po} {n : Nat} {x1 : Int} {x2 : Int} {x3 : Int} {s0 : Int} {M : Mem} {z : Int × Mem}  (hd : 3 ≤ d) (hF : f_X6_goesOn_48 n x1 x2 x3 s0 M = some z) (hK : Q (some (vi z.1)) z.2) : V E mX6_goesOn d 48 [(0, rf E 46), (1, vi x1), (2, vi x2), (3, vi x3)] [vi s0] M Q := by
  unfold f_X6_goesOn_48 at hF
  refine V.istore 5 [(5, vi s0), (0, rf E 46), (1, vi x1), (2, vi x2), (3, vi x3)] dX6_goesOn_48 (by decide) rfl ?_
  refine V.aload_n 0 0 1 rfl dX6_goesOn_50 rfl ?_
  refine V.get (by decide) (hcX6 E _) rfl inX6 0 (by decide) rfl gw_875 dX6_goesOn_51 ?_
  refine V.iload_n 1 1 2 rfl dX6_goesOn_54 rfl ?_
  refine V.bipush 23 23 (by decide) dX6_goesOn_55 ?_
  refine V.iadd dX6_goesOn_57 ?_
  refine V.dup2 rfl rfl dX6_goesOn_58 ?_
  replace hF := Option.bind_eq_some_iff.mp hF
  obtain ⟨v1, hv1, hF⟩ := hF
  refine V.iald ar_47 hv1 dX6_goesOn_59 ?_
  refine V.aload_n 0 0 1 rfl dX6_goesOn_60 rfl ?_
  refine V.iload_n 1 1 2 rfl dX6_goesOn_61 rfl ?_
  refine V.iload_n 2 2 3 rfl dX6_goesOn_62 rfl ?_
  replace hF := Option.bind_eq_some_iff.mp hF
  obtain ⟨v2, hv2, hF⟩ := hF
  refine V.callV (d' := d - 1) [vi x1, vi x2] [vi v1, vi (x1 + 23), rf E 47] (c_X6_leftOn (by omega) hv2) okX6_leftOn gw_1114 rfl rfl (by decide) (hcX6 E _) rfl (Nat.le_of_ble_eq_true rfl) (by omega) dX6_goesOn_63 ?_
  rintro _ _ ⟨rfl, rfl⟩
  show V E mX6_goesOn d 66 [(5, vi s0), (0, rf E 46), (1, vi x1), (2, vi x2), (3, vi x3)] [vi v2, vi v1, vi (x1 + 23), rf E 47] M _
  refine V.iload_n 3 3 4 rfl dX6_goesOn_66 rfl ?_
  refine V.isub dX6_goesOn_67 ?_
  refine V.aload_n 0 0 1 rfl dX6_goesOn_68 rfl ?_
  refine V.get (by decide) (hcX6 E _) rfl inX6 0 (by decide) rfl gw_875 dX6_goesOn_69 ?_
  refine V.iload_n 1 1 2 rfl dX6_goesOn_72 rfl ?_
  refine V.bipush 17 17 (by decide) dX6_goesOn_73 ?_
  refine V.iadd dX6_goesOn_75 ?_
  refine V.iload_n 2 2 3 rfl dX6_goesOn_76 rfl ?_
  refine V.iadd dX6_goesOn_77 ?_
  replace hF := Option.bind_eq_some_iff.mp hF
  obtain ⟨v3, hv3, hF⟩ := hF
  refine V.iald ar_47 hv3 dX6_goesOn_78 ?_
  refine V.iconst 1 dX6_goesOn_79 ?_
  refine V.iadd dX6_goesOn_80 ?_
  refine V.imul dX6_goesOn_81 ?_
  refine V.iadd dX6_goesOn_82 ?_
  replace hF := Option.bind_eq_some_iff.mp hF
  obtain ⟨M4, hM4, hF⟩ := hF
  refine V.iast ar_47 hM4 dX6_goesOn_83 ?_
  refine V.aload_n 0 0 1 rfl dX6_goesOn_84 rfl ?_
  refine V.get (by decide) (hcX6 E _) rfl inX6 0 (by decide) rfl gw_875 dX6_goesOn_85 ?_
  refine V.iload_n 1 1 2 rfl dX6_goesOn_88 rfl ?_
  refine V.bipush 24 24 (by decide) dX6_goesOn_89 ?_
  refine V.iadd dX6_goesOn_91 ?_
  refine V.dup2 rfl rfl dX6_goesOn_92 ?_
  replace hF := Option.bind_eq_some_iff.mp hF
  obtain ⟨v5, hv5, hF⟩ := hF
  refine V.iald ar_47 hv5 dX6_goesOn_93 ?_
  refine V.iload 5 0 dX6_goesOn_94 rfl ?_
  refine V.iadd dX6_goesOn_96 ?_
  replace hF := Option.bind_eq_some_iff.mp hF
  obtain ⟨M6, hM6, hF⟩ := hF
  refine V.iast ar_47 hM6 dX6_goesOn_97 ?_
  refine V.aload_n 0 0 1 rfl dX6_goesOn_98 rfl ?_
  refine V.get (by decide) (hcX6 E _) rfl inX6 0 (by decide) rfl gw_875 dX6_goesOn_99 ?_
  refine V.iload_n 1 1 2 rfl dX6_goesOn_102 rfl ?_
  refine V.bipush 16 16 (by decide) dX6_goesOn_103 ?_
  refine V.iadd dX6_goesOn_105 ?_
  refine V.iload_n 3 3 4 rfl dX6_goesOn_106 rfl ?_
  refine V.aload_n 0 0 1 rfl dX6_goesOn_107 rfl ?_
  refine V.get (by decide) (hcX6 E _) rfl inX6 0 (by decide) rfl gw_875 dX6_goesOn_108 ?_
  refine V.iload_n 1 1 2 rfl dX6_goesOn_111 rfl ?_
  refine V.bipush 15 15 (by decide) dX6_goesOn_112 ?_
  refine V.iadd dX6_goesOn_114 ?_
  replace hF := Option.bind_eq_some_iff.mp hF
  obtain ⟨v7, hv7, hF⟩ := hF
  refine V.iald ar_47 hv7 dX6_goesOn_115 ?_
  replace hF := Option.bind_eq_some_iff.mp hF
  obtain ⟨v8, hv8, hF⟩ := hF
  refine V.callS (d' := d - 1) [vi x3, vi v7] [vi (x1 + 16), rf E 47] (c_X6_rotted (by omega) hv8) okX6_rotted gw_1122 rfl rfl (Nat.le_of_ble_eq_true rfl) (by omega) dX6_goesOn_116 ?_
  rintro _ _ ⟨rfl, rfl⟩
  show V E mX6_goesOn d 119 [(5, vi s0), (0, rf E 46), (1, vi x1), (2, vi x2), (3, vi x3)] [vi v8, vi (x1 + 16), rf E 47] M6 _
  replace hF := Option.bind_eq_some_iff.mp hF
  obtain ⟨M9, hM9, hF⟩ := hF
  refine V.iast ar_47 hM9 dX6_goesOn_119 ?_
  refine V.aload_n 0 0 1 rfl dX6_goesOn_120 rfl ?_
  refine V.get (by decide) (hcX6 E _) rfl inX6 0 (by decide) rfl gw_875 dX6_goesOn_121 ?_
  refine V.iload_n 1 1 2 rfl dX6_goesOn_124 rfl ?_
  refine V.bipush 22 22 (by decide) dX6_goesOn_125 ?_
  refine V.iadd dX6_goesOn_127 ?_
  refine V.dup2 rfl rfl dX6_goesOn_128 ?_
  replace hF := Option.bind_eq_some_iff.mp hF
  obtain ⟨v10, hv10, hF⟩ := hF
  refine V.iald ar_47 hv10 dX6_goesOn_129 ?_
  refine V.iload_n 2 2 3 rfl dX6_goesOn_130 rfl ?_
  refine V.aload_n 0 0 1 rfl dX6_goesOn_131 rfl ?_
  refine V.get (by decide) (hcX6 E _) rfl inX6 0 (by decide) rfl gw_875 dX6_goesOn_132 ?_
  refine V.iload_n 1 1 2 rfl dX6_goesOn_135 rfl ?_
  refine V.bipush 21 21 (by decide) dX6_goesOn_136 ?_
  refine V.iadd dX6_goesOn_138 ?_
  replace hF := Option.bind_eq_some_iff.mp hF
  obtain ⟨v11, hv11, hF⟩ := hF
  refine V.iald ar_47 hv11 dX6_goesOn_139 ?_
  refine V.ishl dX6_goesOn_140 ?_
  refine V.ior dX6_goesOn_141 ?_
  replace hF := Option.bind_eq_some_iff.mp hF
  obtain ⟨M12, hM12, hF⟩ := hF
  refine V.iast ar_47 hM12 dX6_goesOn_142 ?_
  refine V.aload_n 0 0 1 rfl dX6_goesOn_143 rfl ?_
  refine V.get (by decide) (hcX6 E _) rfl inX6 0 (by decide) rfl gw_875 dX6_goesOn_144 ?_
  refine V.iload_n 1 1 2 rfl dX6_goesOn_147 rfl ?_
  refine V.bipush 21 21 (by decide) dX6_goesOn_148 ?_
  refine V.iadd dX6_goesOn_150 ?_
  refine V.dup2 rfl rfl dX6_goesOn_151 ?_
  replace hF := Option.bind_eq_some_iff.mp hF
  obtain ⟨v13, hv13, hF⟩ := hF
  refine V.iald ar_47 hv13 dX6_goesOn_152 ?_
  refine V.iconst 1 dX6_goesOn_153 ?_
  refine V.iadd dX6_goesOn_154 ?_
  replace hF := Option.bind_eq_some_iff.mp hF
  obtain ⟨M14, hM14, hF⟩ := hF
  refine V.iast ar_47 hM14 dX6_goesOn_155 ?_
  refine V.iload 5 0 dX6_goesOn_156 rfl ?_
  cases Option.some.inj hF
  exact V.iret rfl dX6_goesOn_158 hK
def f_X6_goesOn (n : Nat) (x1 : Int) (x2 : Int) (x3 : Int) (M : Mem) : Option (Int × Mem) :=
  (rd M 47 125 (x1 + 16)).bind fun v1 =>
  (f_X6_bearsOn n x1 x2 M).bind fun v2 =>
  (rd M 47 125 (x1 + 12)).bind fun v3 =>
  if wr v3 ≤ wr (v1 + v2) then
    f_X6_goesOn_48 n x1 x2 x3 0 M
  else
    (rd M 47 125 (x1 + 12)).bind fun v4 =>
    f_X6_goesOn_48 n x1 x2 x3 (v4 - (v1 + v2)) M
set_option maxRecDepth 10000 in
theorem v_X6_goesOn_0 {E : En} {d : Nat} {Q : Po} {n : Nat} {x1 : Int} {x2 : Int} {x3 : Int} {M : Mem} {z : Int × Mem}  (hd : 3 ≤ d) (hF : f_X6_goesOn n x1 x2 x3 M = some z) (hK : Q (some (vi z.1)) z.2) : V E mX6_goesOn d 0 [(0, rf E 46), (1, vi x1), (2, vi x2), (3, vi x3)] [] M Q := by
  unfold f_X6_goesOn at hF
  refine V.aload_n 0 0 0 rfl dX6_goesOn_0 rfl ?_
  refine V.get (by decide) (hcX6 E _) rfl inX6 0 (by decide) rfl gw_875 dX6_goesOn_1 ?_
  refine V.iload_n 1 1 1 rfl dX6_goesOn_4 rfl ?_
  refine V.bipush 16 16 (by decide) dX6_goesOn_5 ?_
  refine V.iadd dX6_goesOn_7 ?_
  replace hF := Option.bind_eq_some_iff.mp hF
  obtain ⟨v1, hv1, hF⟩ := hF
  refine V.iald ar_47 hv1 dX6_goesOn_8 ?_
  refine V.aload_n 0 0 0 rfl dX6_goesOn_9 rfl ?_
  refine V.iload_n 1 1 1 rfl dX6_goesOn_10 rfl ?_
  refine V.iload_n 2 2 2 rfl dX6_goesOn_11 rfl ?_
  replace hF := Option.bind_eq_some_iff.mp hF
  obtain ⟨v2, hv2, hF⟩ := hF
  refine V.callV (d' := d - 1) [vi x1, vi x2] [vi v1] (c_X6_bearsOn (by omega) hv2) okX6_bearsOn gw_1059 rfl rfl (by decide) (hcX6 E _) rfl (Nat.le_of_ble_eq_true rfl) (by omega) dX6_goesOn_12 ?_
  rintro _ _ ⟨rfl, rfl⟩
  show V E mX6_goesOn d 15 [(0, rf E 46), (1, vi x1), (2, vi x2), (3, vi x3)] [vi v2, vi v1] M _
  refine V.iadd dX6_goesOn_15 ?_
  refine V.istore 4 [(4, vi (v1 + v2)), (0, rf E 46), (1, vi x1), (2, vi x2), (3, vi x3)] dX6_goesOn_16 (by decide) rfl ?_
  refine V.iload 4 0 dX6_goesOn_18 rfl ?_
  refine V.aload_n 0 0 1 rfl dX6_goesOn_20 rfl ?_
  refine V.get (by decide) (hcX6 E _) rfl inX6 0 (by decide) rfl gw_875 dX6_goesOn_21 ?_
  refine V.iload_n 1 1 2 rfl dX6_goesOn_24 rfl ?_
  refine V.bipush 12 12 (by decide) dX6_goesOn_25 ?_
  refine V.iadd dX6_goesOn_27 ?_
  replace hF := Option.bind_eq_some_iff.mp hF
  obtain ⟨v3, hv3, hF⟩ := hF
  refine V.iald ar_47 hv3 dX6_goesOn_28 ?_
  refine V.icmp_ge (tgt := 47) rfl rfl dX6_goesOn_29 (by decide) (fun hc => ?_) (fun hc => ?_)
  · rw [if_pos hc] at hF
    refine V.iconst 0 dX6_goesOn_47 ?_
    refine V.sub _ [1, 2, 3, 4] rfl ?_
    exact v_X6_goesOn_48 hd hF hK
  · rw [if_neg hc] at hF
    refine V.aload_n 0 0 1 rfl dX6_goesOn_32 rfl ?_
    refine V.get (by decide) (hcX6 E _) rfl inX6 0 (by decide) rfl gw_875 dX6_goesOn_33 ?_
    refine V.iload_n 1 1 2 rfl dX6_goesOn_36 rfl ?_
    refine V.bipush 12 12 (by decide) dX6_goesOn_37 ?_
    refine V.iadd dX6_goesOn_39 ?_
    replace hF := Option.bind_eq_some_iff.mp hF
    obtain ⟨v4, hv4, hF⟩ := hF
    refine V.iald ar_47 hv4 dX6_goesOn_40 ?_
    refine V.iload 4 0 dX6_goesOn_41 rfl ?_
    refine V.isub dX6_goesOn_43 ?_
    refine V.goto (tgt := 48) dX6_goesOn_44 (by decide) ?_
    refine V.sub _ [1, 2, 3, 4] rfl ?_
    exact v_X6_goesOn_48 hd hF hK
theorem c_X6_goesOn {E : En} {d : Nat} {n : Nat} {x1 : Int} {x2 : Int} {x3 : Int} {M : Mem} {zr : Int} {zM : Mem}  (hd : 3 ≤ d) (hF : f_X6_goesOn n x1 x2 x3 M = some (zr, zM)) : Cn E mX6_goesOn d [rf E 46, vi x1, vi x2, vi x3] M (fun v N => v = some (vi zr) ∧ zM = N) := by
  refine V.entry (by decide +kernel) (Nat.le_of_ble_eq_true rfl) ?_
  exact v_X6_goesOn_0  hd hF ⟨rfl, rfl⟩
abbrev mX6_goes : MI := (yX6_goes, cX6_goes, 3, (some .int))
theorem okX6_goes : OKV mX6_goes 2 := ⟨gw_1112, gw_39, gw_64, gw_1113, (by decide +kernel), (by decide)⟩
def f_X6_goes (n : Nat) (x1 : Int) (x2 : Int) (M : Mem) : Option (Int × Mem) :=
  (f_X6_isFat x1 M).bind fun v1 =>
  if wr v1 = 0 then
    some ((-1), M)
  else
    (f_X6_capOn 0 M).bind fun v2 =>
    (f_X6_in (wr x2) 0 (wr v2) M).bind fun v3 =>
    if wr v3 = 0 then
      some ((-1), M)
    else
      (f_X6_leftOn n 0 x1 M).bind fun v4 =>
      if wr x2 ≤ wr v4 then
        if wr (M 47 21) = 8 then
          some ((-3), M)
        else
          (f_X6_goesOn n 0 x1 x2 M).bind fun (v5, M6) =>
          some (v5, M6)
      else
        some ((-1), M)
set_option maxRecDepth 10000 in
theorem v_X6_goes_0 {E : En} {d : Nat} {Q : Po} {n : Nat} {x1 : Int} {x2 : Int} {M : Mem} {z : Int × Mem}  (hd : 4 ≤ d) (hF : f_X6_goes n x1 x2 M = some z) (hK : Q (some (vi z.1)) z.2) : V E mX6_goes d 0 [(0, rf E 46), (1, vi x1), (2, vi x2)] [] M Q := by
  unfold f_X6_goes at hF
  refine V.iload_n 1 1 1 rfl dX6_goes_0 rfl ?_
  replace hF := Option.bind_eq_some_iff.mp hF
  obtain ⟨v1, hv1, hF⟩ := hF
  refine V.callS (d' := d - 1) [vi x1] [] (c_X6_isFat (by omega) hv1) okX6_isFat gw_1056 rfl rfl (Nat.le_of_ble_eq_true rfl) (by omega) dX6_goes_1 ?_
  rintro _ _ ⟨rfl, rfl⟩
  show V E mX6_goes d 4 [(0, rf E 46), (1, vi x1), (2, vi x2)] [vi v1] M _
  refine V.if_eq (tgt := 32) rfl dX6_goes_4 (by decide) (fun hc => ?_) (fun hc => ?_)
  · rw [if_pos hc] at hF
    refine V.iconst (-1) dX6_goes_32 ?_
    cases Option.some.inj hF
    exact V.iret rfl dX6_goes_33 hK
  · rw [if_neg hc] at hF
    refine V.iload_n 2 2 2 rfl dX6_goes_7 rfl ?_
    refine V.i2l dX6_goes_8 ?_
    refine V.lconst 0 0 (by decide) dX6_goes_9 ?_
    refine V.aload_n 0 0 0 rfl dX6_goes_10 rfl ?_
    refine V.iconst 0 dX6_goes_11 ?_
    replace hF := Option.bind_eq_some_iff.mp hF
    obtain ⟨v2, hv2, hF⟩ := hF
    refine V.callV (d' := d - 1) [vi 0] [vl 0, vl (wr x2)] (c_X6_capOn (by omega) hv2) okX6_capOn gw_1022 rfl rfl (by decide) (hcX6 E _) rfl (Nat.le_of_ble_eq_true rfl) (by omega) dX6_goes_12 ?_
    rintro _ _ ⟨rfl, rfl⟩
    show V E mX6_goes d 15 [(0, rf E 46), (1, vi x1), (2, vi x2)] [vi v2, vl 0, vl (wr x2)] M _
    refine V.i2l dX6_goes_15 ?_
    replace hF := Option.bind_eq_some_iff.mp hF
    obtain ⟨v3, hv3, hF⟩ := hF
    refine V.callS (d' := d - 1) [vl (wr x2), vl 0, vl (wr v2)] [] (c_X6_in (by omega) hv3) okX6_in gw_966 rfl rfl (Nat.le_of_ble_eq_true rfl) (by omega) dX6_goes_16 ?_
    rintro _ _ ⟨rfl, rfl⟩
    show V E mX6_goes d 19 [(0, rf E 46), (1, vi x1), (2, vi x2)] [vi v3] M _
    refine V.if_eq (tgt := 32) rfl dX6_goes_19 (by decide) (fun hc => ?_) (fun hc => ?_)
    · rw [if_pos hc] at hF
      refine V.iconst (-1) dX6_goes_32 ?_
      cases Option.some.inj hF
      exact V.iret rfl dX6_goes_33 hK
    · rw [if_neg hc] at hF
      refine V.iload_n 2 2 2 rfl dX6_goes_22 rfl ?_
      refine V.aload_n 0 0 0 rfl dX6_goes_23 rfl ?_
      refine V.iconst 0 dX6_goes_24 ?_
      refine V.iload_n 1 1 1 rfl dX6_goes_25 rfl ?_
      replace hF := Option.bind_eq_some_iff.mp hF
      obtain ⟨v4, hv4, hF⟩ := hF
      refine V.callV (d' := d - 1) [vi 0, vi x1] [vi x2] (c_X6_leftOn (by omega) hv4) okX6_leftOn gw_1114 rfl rfl (by decide) (hcX6 E _) rfl (Nat.le_of_ble_eq_true rfl) (by omega) dX6_goes_26 ?_
      rintro _ _ ⟨rfl, rfl⟩
      show V E mX6_goes d 29 [(0, rf E 46), (1, vi x1), (2, vi x2)] [vi v4, vi x2] M _
      refine V.icmp_le (tgt := 34) rfl rfl dX6_goes_29 (by decide) (fun hc => ?_) (fun hc => ?_)
      · rw [if_pos hc] at hF
        refine V.aload_n 0 0 0 rfl dX6_goes_34 rfl ?_
        refine V.get (by decide) (hcX6 E _) rfl inX6 0 (by decide) rfl gw_875 dX6_goes_35 ?_
        refine V.bipush 21 21 (by decide) dX6_goes_38 ?_
        refine V.iald ar_47 (rd_lit 21 21 wr_21 (by decide)) dX6_goes_40 ?_
        refine V.bipush 8 8 (by decide) dX6_goes_41 ?_
        refine V.icmp_ne (tgt := 51) rfl wr_8 dX6_goes_43 (by decide) (fun hc => ?_) (fun hc => ?_)
        · rw [if_neg hc] at hF
          refine V.aload_n 0 0 0 rfl dX6_goes_51 rfl ?_
          refine V.iconst 0 dX6_goes_52 ?_
          refine V.iload_n 1 1 1 rfl dX6_goes_53 rfl ?_
          refine V.iload_n 2 2 2 rfl dX6_goes_54 rfl ?_
          replace hF := Option.bind_eq_some_iff.mp hF
          obtain ⟨⟨v5, M6⟩, hv5, hF⟩ := hF
          dsimp only at hF
          refine V.callV (d' := d - 1) [vi 0, vi x1, vi x2] [] (c_X6_goesOn (by omega) hv5) okX6_goesOn gw_1118 rfl rfl (by decide) (hcX6 E _) rfl (Nat.le_of_ble_eq_true rfl) (by omega) dX6_goes_55 ?_
          rintro _ _ ⟨rfl, rfl⟩
          show V E mX6_goes d 58 [(0, rf E 46), (1, vi x1), (2, vi x2)] [vi v5] M6 _
          cases Option.some.inj hF
          exact V.iret rfl dX6_goes_58 hK
        · rw [if_pos hc] at hF
          refine V.bipush (-3) (-3) (by decide) dX6_goes_46 ?_
          refine V.goto (tgt := 58) dX6_goes_48 (by decide) ?_
          cases Option.some.inj hF
          exact V.iret rfl dX6_goes_58 hK
      · rw [if_neg hc] at hF
        refine V.iconst (-1) dX6_goes_32 ?_
        cases Option.some.inj hF
        exact V.iret rfl dX6_goes_33 hK
theorem c_X6_goes {E : En} {d : Nat} {n : Nat} {x1 : Int} {x2 : Int} {M : Mem} {zr : Int} {zM : Mem}  (hd : 4 ≤ d) (hF : f_X6_goes n x1 x2 M = some (zr, zM)) : Cn E mX6_goes d [rf E 46, vi x1, vi x2] M (fun v N => v = some (vi zr) ∧ zM = N) := by
  refine V.entry (by decide +kernel) (Nat.le_of_ble_eq_true rfl) ?_
  exact v_X6_goes_0  hd hF ⟨rfl, rfl⟩
abbrev mX6_go : MI := (yX6_go, cX6_go, 3, (some .int))
theorem okX6_go : OKV mX6_go 2 := ⟨gw_1107, gw_1108, gw_64, gw_1109, (by decide +kernel), (by decide)⟩
def f_X6_go (n : Nat) (x1 : Int) (x2 : Int) (M : Mem) : Option (Int × Mem) :=
  (f_X6_goes n x1 x2 M).bind fun (v1, M2) =>
  some (v1, M2)
set_option maxRecDepth 10000 in
theorem v_X6_go_0 {E : En} {d : Nat} {Q : Po} {n : Nat} {x1 : Int} {x2 : Int} {M : Mem} {z : Int × Mem}  (hd : 5 ≤ d) (hF : f_X6_go n x1 x2 M = some z) (hK : Q (some (vi z.1)) z.2) : V E mX6_go d 0 [(0, rf E 46), (1, vi x1), (2, vi x2)] [] M Q := by
  unfold f_X6_go at hF
  refine V.aload_n 0 0 0 rfl dX6_go_0 rfl ?_
  refine V.iload_n 1 1 1 rfl dX6_go_1 rfl ?_
  refine V.iload_n 2 2 2 rfl dX6_go_2 rfl ?_
  replace hF := Option.bind_eq_some_iff.mp hF
  obtain ⟨⟨v1, M2⟩, hv1, hF⟩ := hF
  dsimp only at hF
  refine V.callV (d' := d - 1) [vi x1, vi x2] [] (c_X6_goes (by omega) hv1) okX6_goes gw_1110 rfl rfl (by decide) (hcX6 E _) rfl (Nat.le_of_ble_eq_true rfl) (by omega) dX6_go_3 ?_
  rintro _ _ ⟨rfl, rfl⟩
  show V E mX6_go d 6 [(0, rf E 46), (1, vi x1), (2, vi x2)] [vi v1] M2 _
  cases Option.some.inj hF
  exact V.iret rfl dX6_go_6 hK
theorem c_X6_go {E : En} {d : Nat} {n : Nat} {x1 : Int} {x2 : Int} {M : Mem} {zr : Int} {zM : Mem}  (hd : 5 ≤ d) (hF : f_X6_go n x1 x2 M = some (zr, zM)) : Cn E mX6_go d [rf E 46, vi x1, vi x2] M (fun v N => v = some (vi zr) ∧ zM = N) := by
  refine V.entry (by decide +kernel) (Nat.le_of_ble_eq_true rfl) ?_
  exact v_X6_go_0  hd hF ⟨rfl, rfl⟩
abbrev mX6_year : MI := (yX6_year, cX6_year, 2, (some .int))
theorem okX6_year : OKV mX6_year 1 := ⟨gw_1126, gw_1127, gw_64, gw_1128, (by decide +kernel), (by decide)⟩
def f_X6_year (n : Nat) (x1 : Int) (M : Mem) : Option (Int × Mem) :=
  (f_X6_isFat x1 M).bind fun v1 =>
  if wr v1 = 0 then
    some ((-1), M)
  else
    if wr (M 47 21) = 8 then
      some ((-3), M)
    else
      (f_X6_leftOn n 0 x1 M).bind fun v2 =>
      (f_X6_keepsOn 0 v2 M).bind fun v3 =>
      (f_X6_goesOn n 0 x1 v3 M).bind fun (v4, M5) =>
      some (v4, M5)
set_option maxRecDepth 10000 in
theorem v_X6_year_0 {E : En} {d : Nat} {Q : Po} {n : Nat} {x1 : Int} {M : Mem} {z : Int × Mem}  (hd : 4 ≤ d) (hF : f_X6_year n x1 M = some z) (hK : Q (some (vi z.1)) z.2) : V E mX6_year d 0 [(0, rf E 46), (1, vi x1)] [] M Q := by
  unfold f_X6_year at hF
  refine V.iload_n 1 1 1 rfl dX6_year_0 rfl ?_
  replace hF := Option.bind_eq_some_iff.mp hF
  obtain ⟨v1, hv1, hF⟩ := hF
  refine V.callS (d' := d - 1) [vi x1] [] (c_X6_isFat (by omega) hv1) okX6_isFat gw_1056 rfl rfl (Nat.le_of_ble_eq_true rfl) (by omega) dX6_year_1 ?_
  rintro _ _ ⟨rfl, rfl⟩
  show V E mX6_year d 4 [(0, rf E 46), (1, vi x1)] [vi v1] M _
  refine V.if_ne (tgt := 9) rfl dX6_year_4 (by decide) (fun hc => ?_) (fun hc => ?_)
  · rw [if_neg hc] at hF
    refine V.aload_n 0 0 0 rfl dX6_year_9 rfl ?_
    refine V.get (by decide) (hcX6 E _) rfl inX6 0 (by decide) rfl gw_875 dX6_year_10 ?_
    refine V.bipush 21 21 (by decide) dX6_year_13 ?_
    refine V.iald ar_47 (rd_lit 21 21 wr_21 (by decide)) dX6_year_15 ?_
    refine V.bipush 8 8 (by decide) dX6_year_16 ?_
    refine V.icmp_ne (tgt := 26) rfl wr_8 dX6_year_18 (by decide) (fun hc => ?_) (fun hc => ?_)
    · rw [if_neg hc] at hF
      refine V.aload_n 0 0 0 rfl dX6_year_26 rfl ?_
      refine V.iconst 0 dX6_year_27 ?_
      refine V.iload_n 1 1 1 rfl dX6_year_28 rfl ?_
      refine V.aload_n 0 0 0 rfl dX6_year_29 rfl ?_
      refine V.iconst 0 dX6_year_30 ?_
      refine V.aload_n 0 0 0 rfl dX6_year_31 rfl ?_
      refine V.iconst 0 dX6_year_32 ?_
      refine V.iload_n 1 1 1 rfl dX6_year_33 rfl ?_
      replace hF := Option.bind_eq_some_iff.mp hF
      obtain ⟨v2, hv2, hF⟩ := hF
      refine V.callV (d' := d - 1) [vi 0, vi x1] [vi 0, rf E 46, vi x1, vi 0, rf E 46] (c_X6_leftOn (by omega) hv2) okX6_leftOn gw_1114 rfl rfl (by decide) (hcX6 E _) rfl (Nat.le_of_ble_eq_true rfl) (by omega) dX6_year_34 ?_
      rintro _ _ ⟨rfl, rfl⟩
      show V E mX6_year d 37 [(0, rf E 46), (1, vi x1)] [vi v2, vi 0, rf E 46, vi x1, vi 0, rf E 46] M _
      replace hF := Option.bind_eq_some_iff.mp hF
      obtain ⟨v3, hv3, hF⟩ := hF
      refine V.callV (d' := d - 1) [vi 0, vi v2] [vi x1, vi 0, rf E 46] (c_X6_keepsOn (by omega) hv3) okX6_keepsOn gw_1129 rfl rfl (by decide) (hcX6 E _) rfl (Nat.le_of_ble_eq_true rfl) (by omega) dX6_year_37 ?_
      rintro _ _ ⟨rfl, rfl⟩
      show V E mX6_year d 40 [(0, rf E 46), (1, vi x1)] [vi v3, vi x1, vi 0, rf E 46] M _
      replace hF := Option.bind_eq_some_iff.mp hF
      obtain ⟨⟨v4, M5⟩, hv4, hF⟩ := hF
      dsimp only at hF
      refine V.callV (d' := d - 1) [vi 0, vi x1, vi v3] [] (c_X6_goesOn (by omega) hv4) okX6_goesOn gw_1118 rfl rfl (by decide) (hcX6 E _) rfl (Nat.le_of_ble_eq_true rfl) (by omega) dX6_year_40 ?_
      rintro _ _ ⟨rfl, rfl⟩
      show V E mX6_year d 43 [(0, rf E 46), (1, vi x1)] [vi v4] M5 _
      cases Option.some.inj hF
      exact V.iret rfl dX6_year_43 hK
    · rw [if_pos hc] at hF
      refine V.bipush (-3) (-3) (by decide) dX6_year_21 ?_
      refine V.goto (tgt := 43) dX6_year_23 (by decide) ?_
      cases Option.some.inj hF
      exact V.iret rfl dX6_year_43 hK
  · rw [if_pos hc] at hF
    refine V.iconst (-1) dX6_year_7 ?_
    cases Option.some.inj hF
    exact V.iret rfl dX6_year_8 hK
theorem c_X6_year {E : En} {d : Nat} {n : Nat} {x1 : Int} {M : Mem} {zr : Int} {zM : Mem}  (hd : 4 ≤ d) (hF : f_X6_year n x1 M = some (zr, zM)) : Cn E mX6_year d [rf E 46, vi x1] M (fun v N => v = some (vi zr) ∧ zM = N) := by
  refine V.entry (by decide +kernel) (Nat.le_of_ble_eq_true rfl) ?_
  exact v_X6_year_0  hd hF ⟨rfl, rfl⟩
abbrev mX6_keeps : MI := (yX6_keeps, cX6_keeps, 2, (some .int))
theorem okX6_keeps : OKV mX6_keeps 1 := ⟨gw_1134, gw_1135, gw_64, gw_1136, (by decide +kernel), (by decide)⟩
def f_X6_keeps (x1 : Int) (M : Mem) : Option (Int) :=
  (f_X6_in (wr x1) 0 99 M).bind fun v1 =>
  if wr v1 = 0 then
    some (-1)
  else
    (f_X6_keepsOn 0 x1 M).bind fun v2 =>
    some v2
set_option maxRecDepth 10000 in
theorem v_X6_keeps_0 {E : En} {d : Nat} {Q : Po} {x1 : Int} {M : Mem} {z : Int}  (hd : 3 ≤ d) (hF : f_X6_keeps x1 M = some z) (hK : Q (some (vi z)) M) : V E mX6_keeps d 0 [(0, rf E 46), (1, vi x1)] [] M Q := by
  unfold f_X6_keeps at hF
  refine V.iload_n 1 1 1 rfl dX6_keeps_0 rfl ?_
  refine V.i2l dX6_keeps_1 ?_
  refine V.lconst 0 0 (by decide) dX6_keeps_2 ?_
  refine V.ldc2 195 99 99 (by decide) gw_1137 dX6_keeps_3 ?_
  replace hF := Option.bind_eq_some_iff.mp hF
  obtain ⟨v1, hv1, hF⟩ := hF
  refine V.callS (d' := d - 1) [vl (wr x1), vl 0, vl 99] [] (c_X6_in (by omega) hv1) okX6_in gw_966 rfl rfl (Nat.le_of_ble_eq_true rfl) (by omega) dX6_keeps_6 ?_
  rintro _ _ ⟨rfl, rfl⟩
  show V E mX6_keeps d 9 [(0, rf E 46), (1, vi x1)] [vi v1] M _
  refine V.if_eq (tgt := 21) rfl dX6_keeps_9 (by decide) (fun hc => ?_) (fun hc => ?_)
  · rw [if_pos hc] at hF
    refine V.iconst (-1) dX6_keeps_21 ?_
    cases Option.some.inj hF
    exact V.iret rfl dX6_keeps_22 hK
  · rw [if_neg hc] at hF
    refine V.aload_n 0 0 0 rfl dX6_keeps_12 rfl ?_
    refine V.iconst 0 dX6_keeps_13 ?_
    refine V.iload_n 1 1 1 rfl dX6_keeps_14 rfl ?_
    replace hF := Option.bind_eq_some_iff.mp hF
    obtain ⟨v2, hv2, hF⟩ := hF
    refine V.callV (d' := d - 1) [vi 0, vi x1] [] (c_X6_keepsOn (by omega) hv2) okX6_keepsOn gw_1129 rfl rfl (by decide) (hcX6 E _) rfl (Nat.le_of_ble_eq_true rfl) (by omega) dX6_keeps_15 ?_
    rintro _ _ ⟨rfl, rfl⟩
    show V E mX6_keeps d 18 [(0, rf E 46), (1, vi x1)] [vi v2] M _
    refine V.goto (tgt := 22) dX6_keeps_18 (by decide) ?_
    cases Option.some.inj hF
    exact V.iret rfl dX6_keeps_22 hK
theorem c_X6_keeps {E : En} {d : Nat} {x1 : Int} {M : Mem} {z : Int}  (hd : 3 ≤ d) (hF : f_X6_keeps x1 M = some z) : Cn E mX6_keeps d [rf E 46, vi x1] M (fun v N => v = some (vi z) ∧ M = N) := by
  refine V.entry (by decide +kernel) (Nat.le_of_ble_eq_true rfl) ?_
  exact v_X6_keeps_0  hd hF ⟨rfl, rfl⟩
abbrev mX6_copies : MI := (yX6_copies, cX6_copies, 4, none)
theorem okX6_copies : OKV mX6_copies 2 := ⟨gw_1146, gw_43, gw_64, gw_1147, (by decide +kernel), (by decide)⟩
def f_X6_copies_2 (n : Nat) (x1 : Int) (x2 : Int) (x3 : Int) (M : Mem) : Option ((Int × Mem) ⊕ (Mem)) :=
  if 25 ≤ wr x3 then
    some (.inr M)
  else
    (rd M 47 125 (x1 + x3)).bind fun v1 =>
    (wt M 47 125 (x2 + x3) v1).bind fun M2 =>
    some (.inl (x3 + 1, M2))
set_option maxRecDepth 10000 in
theorem v_X6_copies_2 {E : En} {d : Nat} {Q : Po} {n : Nat} {x1 : Int} {x2 : Int} {x3 : Int} {M : Mem} {z : (Int × Mem) ⊕ (Mem)}  (hd : 1 ≤ d) (hF : f_X6_copies_2 n x1 x2 x3 M = some z) (hC0 : ∀ s' : Int × Mem, z = (.inl s') → V E mX6_copies d 2 [(0, rf E 46), (1, vi x1), (2, vi x2), (3, vi (s'.1))] [] s'.2 Q) (hX : ∀ z0 : Mem, z = (.inr z0) → Q none z0) : V E mX6_copies d 2 [(0, rf E 46), (1, vi x1), (2, vi x2), (3, vi x3)] [] M Q := by
  unfold f_X6_copies_2 at hF
  refine V.iload_n 3 3 3 rfl dX6_copies_2 rfl ?_
  refine V.bipush 25 25 (by decide) dX6_copies_3 ?_
  refine V.icmp_ge (tgt := 30) rfl wr_25 dX6_copies_5 (by decide) (fun hc => ?_) (fun hc => ?_)
  · rw [if_pos hc] at hF
    cases Option.some.inj hF
    exact V.vret rfl dX6_copies_30 (hX _ rfl)
  · rw [if_neg hc] at hF
    refine V.aload_n 0 0 0 rfl dX6_copies_8 rfl ?_
    refine V.get (by decide) (hcX6 E _) rfl inX6 0 (by decide) rfl gw_875 dX6_copies_9 ?_
    refine V.iload_n 2 2 2 rfl dX6_copies_12 rfl ?_
    refine V.iload_n 3 3 3 rfl dX6_copies_13 rfl ?_
    refine V.iadd dX6_copies_14 ?_
    refine V.aload_n 0 0 0 rfl dX6_copies_15 rfl ?_
    refine V.get (by decide) (hcX6 E _) rfl inX6 0 (by decide) rfl gw_875 dX6_copies_16 ?_
    refine V.iload_n 1 1 1 rfl dX6_copies_19 rfl ?_
    refine V.iload_n 3 3 3 rfl dX6_copies_20 rfl ?_
    refine V.iadd dX6_copies_21 ?_
    replace hF := Option.bind_eq_some_iff.mp hF
    obtain ⟨v1, hv1, hF⟩ := hF
    refine V.iald ar_47 hv1 dX6_copies_22 ?_
    replace hF := Option.bind_eq_some_iff.mp hF
    obtain ⟨M2, hM2, hF⟩ := hF
    refine V.iast ar_47 hM2 dX6_copies_23 ?_
    refine V.iinc 3 3 1 [(3, vi (x3 + 1)), (0, rf E 46), (1, vi x1), (2, vi x2)] dX6_copies_24 rfl (by decide) rfl ?_
    refine V.goto (tgt := 2) dX6_copies_27 (by decide) ?_
    cases Option.some.inj hF
    refine V.sub _ [1, 2, 3, 0] rfl ?_
    exact hC0 _ rfl
theorem l_X6_copies_2 {E : En} {d : Nat} {Q : Po} {n : Nat} {x1 : Int} {x2 : Int} {k : Nat} {s : Int × Mem} {z : Mem}  (hd : 1 ≤ d) (hF : lp (fun s => f_X6_copies_2 n x1 x2 s.1 s.2) k s = some z) (hK : Q none z) : V E mX6_copies d 2 [(0, rf E 46), (1, vi x1), (2, vi x2), (3, vi s.1)] [] s.2 Q := by
  refine lp_ind (P := fun s => V E mX6_copies d 2 [(0, rf E 46), (1, vi x1), (2, vi x2), (3, vi s.1)] [] s.2 Q) (z0 := z) ?_ k s hF
  intro s z' hF hc hx
  exact v_X6_copies_2 hd hF (fun s' e => hc s' e) (fun z0 e => by rw [hx _ e]; exact hK)
def f_X6_copies (n : Nat) (x1 : Int) (x2 : Int) (M : Mem) : Option (Mem) :=
  lp (fun s => f_X6_copies_2 n x1 x2 s.1 s.2) n (0, M)
set_option maxRecDepth 10000 in
theorem v_X6_copies_0 {E : En} {d : Nat} {Q : Po} {n : Nat} {x1 : Int} {x2 : Int} {M : Mem} {z : Mem}  (hd : 1 ≤ d) (hF : f_X6_copies n x1 x2 M = some z) (hK : Q none z) : V E mX6_copies d 0 [(0, rf E 46), (1, vi x1), (2, vi x2)] [] M Q := by
  unfold f_X6_copies at hF
  refine V.iconst 0 dX6_copies_0 ?_
  refine V.istore_n 3 3 [(3, vi 0), (0, rf E 46), (1, vi x1), (2, vi x2)] rfl dX6_copies_1 (by decide) rfl ?_
  refine V.sub _ [1, 2, 3, 0] rfl ?_
  exact l_X6_copies_2 hd hF hK
theorem c_X6_copies {E : En} {d : Nat} {n : Nat} {x1 : Int} {x2 : Int} {M : Mem} {z : Mem}  (hd : 1 ≤ d) (hF : f_X6_copies n x1 x2 M = some z) : Cn E mX6_copies d [rf E 46, vi x1, vi x2] M (fun v N => v = none ∧ z = N) := by
  refine V.entry (by decide +kernel) (Nat.le_of_ble_eq_true rfl) ?_
  exact v_X6_copies_0  hd hF ⟨rfl, rfl⟩
abbrev mX6_triesOne : MI := (yX6_triesOne, cX6_triesOne, 3, (some .int))
theorem okX6_triesOne : OKV mX6_triesOne 1 := ⟨gw_1150, gw_44, gw_64, gw_1151, (by decide +kernel), (by decide)⟩
def f_X6_triesOne (n : Nat) (x1 : Int) (M : Mem) : Option (Int × Mem) :=
  if wr (M 47 121) = 8 then
    some (0, M)
  else
    (rd M 48 4 x1).bind fun v1 =>
    (f_X6_leftOn n 100 (bAnd (bShr v1 (M 47 121)) 1) M).bind fun v2 =>
    (f_X6_keepsOn 100 v2 M).bind fun v3 =>
    (f_X6_goesOn n 100 (bAnd (bShr v1 (M 47 121)) 1) v3 M).bind fun (v4, M5) =>
    some (v4, M5)
set_option maxRecDepth 10000 in
theorem v_X6_triesOne_0 {E : En} {d : Nat} {Q : Po} {n : Nat} {x1 : Int} {M : Mem} {z : Int × Mem}  (hd : 4 ≤ d) (hF : f_X6_triesOne n x1 M = some z) (hK : Q (some (vi z.1)) z.2) : V E mX6_triesOne d 0 [(0, rf E 46), (1, vi x1)] [] M Q := by
  unfold f_X6_triesOne at hF
  refine V.aload_n 0 0 0 rfl dX6_triesOne_0 rfl ?_
  refine V.get (by decide) (hcX6 E _) rfl inX6 0 (by decide) rfl gw_875 dX6_triesOne_1 ?_
  refine V.bipush 121 121 (by decide) dX6_triesOne_4 ?_
  refine V.iald ar_47 (rd_lit 121 121 wr_121 (by decide)) dX6_triesOne_6 ?_
  refine V.bipush 8 8 (by decide) dX6_triesOne_7 ?_
  refine V.icmp_ne (tgt := 14) rfl wr_8 dX6_triesOne_9 (by decide) (fun hc => ?_) (fun hc => ?_)
  · rw [if_neg hc] at hF
    refine V.aload_n 0 0 0 rfl dX6_triesOne_14 rfl ?_
    refine V.get (by decide) (hcX6 E _) rfl inX6 2 (by decide) rfl gw_877 dX6_triesOne_15 ?_
    refine V.iload_n 1 1 1 rfl dX6_triesOne_18 rfl ?_
    replace hF := Option.bind_eq_some_iff.mp hF
    obtain ⟨v1, hv1, hF⟩ := hF
    refine V.iald ar_48 hv1 dX6_triesOne_19 ?_
    refine V.aload_n 0 0 0 rfl dX6_triesOne_20 rfl ?_
    refine V.get (by decide) (hcX6 E _) rfl inX6 0 (by decide) rfl gw_875 dX6_triesOne_21 ?_
    refine V.bipush 121 121 (by decide) dX6_triesOne_24 ?_
    refine V.iald ar_47 (rd_lit 121 121 wr_121 (by decide)) dX6_triesOne_26 ?_
    refine V.ishr dX6_triesOne_27 ?_
    refine V.iconst 1 dX6_triesOne_28 ?_
    refine V.iand dX6_triesOne_29 ?_
    refine V.istore_n 2 2 [(2, vi (bAnd (bShr v1 (M 47 121)) 1)), (0, rf E 46), (1, vi x1)] rfl dX6_triesOne_30 (by decide) rfl ?_
    refine V.aload_n 0 0 1 rfl dX6_triesOne_31 rfl ?_
    refine V.bipush 100 100 (by decide) dX6_triesOne_32 ?_
    refine V.iload_n 2 2 0 rfl dX6_triesOne_34 rfl ?_
    refine V.aload_n 0 0 1 rfl dX6_triesOne_35 rfl ?_
    refine V.bipush 100 100 (by decide) dX6_triesOne_36 ?_
    refine V.aload_n 0 0 1 rfl dX6_triesOne_38 rfl ?_
    refine V.bipush 100 100 (by decide) dX6_triesOne_39 ?_
    refine V.iload_n 2 2 0 rfl dX6_triesOne_41 rfl ?_
    replace hF := Option.bind_eq_some_iff.mp hF
    obtain ⟨v2, hv2, hF⟩ := hF
    refine V.callV (d' := d - 1) [vi 100, vi (bAnd (bShr v1 (M 47 121)) 1)] [vi 100, rf E 46, vi (bAnd (bShr v1 (M 47 121)) 1), vi 100, rf E 46] (c_X6_leftOn (by omega) hv2) okX6_leftOn gw_1114 rfl rfl (by decide) (hcX6 E _) rfl (Nat.le_of_ble_eq_true rfl) (by omega) dX6_triesOne_42 ?_
    rintro _ _ ⟨rfl, rfl⟩
    show V E mX6_triesOne d 45 [(2, vi (bAnd (bShr v1 (M 47 121)) 1)), (0, rf E 46), (1, vi x1)] [vi v2, vi 100, rf E 46, vi (bAnd (bShr v1 (M 47 121)) 1), vi 100, rf E 46] M _
    replace hF := Option.bind_eq_some_iff.mp hF
    obtain ⟨v3, hv3, hF⟩ := hF
    refine V.callV (d' := d - 1) [vi 100, vi v2] [vi (bAnd (bShr v1 (M 47 121)) 1), vi 100, rf E 46] (c_X6_keepsOn (by omega) hv3) okX6_keepsOn gw_1129 rfl rfl (by decide) (hcX6 E _) rfl (Nat.le_of_ble_eq_true rfl) (by omega) dX6_triesOne_45 ?_
    rintro _ _ ⟨rfl, rfl⟩
    show V E mX6_triesOne d 48 [(2, vi (bAnd (bShr v1 (M 47 121)) 1)), (0, rf E 46), (1, vi x1)] [vi v3, vi (bAnd (bShr v1 (M 47 121)) 1), vi 100, rf E 46] M _
    replace hF := Option.bind_eq_some_iff.mp hF
    obtain ⟨⟨v4, M5⟩, hv4, hF⟩ := hF
    dsimp only at hF
    refine V.callV (d' := d - 1) [vi 100, vi (bAnd (bShr v1 (M 47 121)) 1), vi v3] [] (c_X6_goesOn (by omega) hv4) okX6_goesOn gw_1118 rfl rfl (by decide) (hcX6 E _) rfl (Nat.le_of_ble_eq_true rfl) (by omega) dX6_triesOne_48 ?_
    rintro _ _ ⟨rfl, rfl⟩
    show V E mX6_triesOne d 51 [(2, vi (bAnd (bShr v1 (M 47 121)) 1)), (0, rf E 46), (1, vi x1)] [vi v4] M5 _
    cases Option.some.inj hF
    exact V.iret rfl dX6_triesOne_51 hK
  · rw [if_pos hc] at hF
    refine V.iconst 0 dX6_triesOne_12 ?_
    cases Option.some.inj hF
    exact V.iret rfl dX6_triesOne_13 hK
theorem c_X6_triesOne {E : En} {d : Nat} {n : Nat} {x1 : Int} {M : Mem} {zr : Int} {zM : Mem}  (hd : 4 ≤ d) (hF : f_X6_triesOne n x1 M = some (zr, zM)) : Cn E mX6_triesOne d [rf E 46, vi x1] M (fun v N => v = some (vi zr) ∧ zM = N) := by
  refine V.entry (by decide +kernel) (Nat.le_of_ble_eq_true rfl) ?_
  exact v_X6_triesOne_0  hd hF ⟨rfl, rfl⟩
abbrev mX6_ahead : MI := (yX6_ahead, cX6_ahead, 5, (some .int))
theorem okX6_ahead : OKV mX6_ahead 3 := ⟨gw_1139, gw_1140, gw_64, gw_1141, (by decide +kernel), (by decide)⟩
def f_X6_ahead_62 (n : Nat) (x3 : Int) (M : Mem) : Option (Int × Mem) :=
  if wr x3 = 0 then
    some (M 47 116, M)
  else
    if wr x3 = 1 then
      some ((M 47 123) - (M 47 23), M)
    else
      some ((M 47 124) - (M 47 24), M)
set_option maxRecDepth 10000 in
theorem v_X6_ahead_62 {E : En} {d : Nat} {Q : Po} {n : Nat} {x3 : Int} {M : Mem} {z : Int × Mem}  (hd : 5 ≤ d) (hF : f_X6_ahead_62 n x3 M = some z) (hK : Q (some (vi z.1)) z.2) : V E mX6_ahead d 62 [(0, rf E 46), (3, vi x3)] [] M Q := by
  unfold f_X6_ahead_62 at hF
  refine V.iload_n 3 3 1 rfl dX6_ahead_62 rfl ?_
  refine V.if_ne (tgt := 76) rfl dX6_ahead_63 (by decide) (fun hc => ?_) (fun hc => ?_)
  · rw [if_neg hc] at hF
    refine V.iload_n 3 3 1 rfl dX6_ahead_76 rfl ?_
    refine V.iconst 1 dX6_ahead_77 ?_
    refine V.icmp_ne (tgt := 99) rfl wr_1 dX6_ahead_78 (by decide) (fun hc => ?_) (fun hc => ?_)
    · rw [if_neg hc] at hF
      refine V.aload_n 0 0 0 rfl dX6_ahead_99 rfl ?_
      refine V.get (by decide) (hcX6 E _) rfl inX6 0 (by decide) rfl gw_875 dX6_ahead_100 ?_
      refine V.bipush 124 124 (by decide) dX6_ahead_103 ?_
      refine V.iald ar_47 (rd_lit 124 124 wr_124 (by decide)) dX6_ahead_105 ?_
      refine V.aload_n 0 0 0 rfl dX6_ahead_106 rfl ?_
      refine V.get (by decide) (hcX6 E _) rfl inX6 0 (by decide) rfl gw_875 dX6_ahead_107 ?_
      refine V.bipush 24 24 (by decide) dX6_ahead_110 ?_
      refine V.iald ar_47 (rd_lit 24 24 wr_24 (by decide)) dX6_ahead_112 ?_
      refine V.isub dX6_ahead_113 ?_
      cases Option.some.inj hF
      exact V.iret rfl dX6_ahead_114 hK
    · rw [if_pos hc] at hF
      refine V.aload_n 0 0 0 rfl dX6_ahead_81 rfl ?_
      refine V.get (by decide) (hcX6 E _) rfl inX6 0 (by decide) rfl gw_875 dX6_ahead_82 ?_
      refine V.bipush 123 123 (by decide) dX6_ahead_85 ?_
      refine V.iald ar_47 (rd_lit 123 123 wr_123 (by decide)) dX6_ahead_87 ?_
      refine V.aload_n 0 0 0 rfl dX6_ahead_88 rfl ?_
      refine V.get (by decide) (hcX6 E _) rfl inX6 0 (by decide) rfl gw_875 dX6_ahead_89 ?_
      refine V.bipush 23 23 (by decide) dX6_ahead_92 ?_
      refine V.iald ar_47 (rd_lit 23 23 wr_23 (by decide)) dX6_ahead_94 ?_
      refine V.isub dX6_ahead_95 ?_
      refine V.goto (tgt := 114) dX6_ahead_96 (by decide) ?_
      cases Option.some.inj hF
      exact V.iret rfl dX6_ahead_114 hK
  · rw [if_pos hc] at hF
    refine V.aload_n 0 0 0 rfl dX6_ahead_66 rfl ?_
    refine V.get (by decide) (hcX6 E _) rfl inX6 0 (by decide) rfl gw_875 dX6_ahead_67 ?_
    refine V.bipush 116 116 (by decide) dX6_ahead_70 ?_
    refine V.iald ar_47 (rd_lit 116 116 wr_116 (by decide)) dX6_ahead_72 ?_
    refine V.goto (tgt := 114) dX6_ahead_73 (by decide) ?_
    cases Option.some.inj hF
    exact V.iret rfl dX6_ahead_114 hK
def f_X6_ahead_44 (n : Nat) (x1 : Int) (x2 : Int) (x3 : Int) (x4 : Int) (M : Mem) : Option ((Int × Mem) ⊕ (Int × Mem)) :=
  if wr x2 ≤ wr x4 then
    (f_X6_ahead_62 n x3 M).map Sum.inr
  else
    (f_X6_triesOne n x1 M).bind fun (v1, M2) =>
    some (.inl (x4 + 1, M2))
set_option maxRecDepth 10000 in
theorem v_X6_ahead_44 {E : En} {d : Nat} {Q : Po} {n : Nat} {x1 : Int} {x2 : Int} {x3 : Int} {x4 : Int} {M : Mem} {z : (Int × Mem) ⊕ (Int × Mem)}  (hd : 5 ≤ d) (hF : f_X6_ahead_44 n x1 x2 x3 x4 M = some z) (hC0 : ∀ s' : Int × Mem, z = (.inl s') → V E mX6_ahead d 44 [(0, rf E 46), (1, vi x1), (2, vi x2), (3, vi x3), (4, vi (s'.1))] [] s'.2 Q) (hX : ∀ z0 : Int × Mem, z = (.inr z0) → Q (some (vi z0.1)) z0.2) : V E mX6_ahead d 44 [(0, rf E 46), (1, vi x1), (2, vi x2), (3, vi x3), (4, vi x4)] [] M Q := by
  unfold f_X6_ahead_44 at hF
  refine V.iload 4 4 dX6_ahead_44 rfl ?_
  refine V.iload_n 2 2 2 rfl dX6_ahead_46 rfl ?_
  refine V.icmp_ge (tgt := 62) rfl rfl dX6_ahead_47 (by decide) (fun hc => ?_) (fun hc => ?_)
  · rw [if_pos hc] at hF
    replace hF := Option.map_eq_some_iff.mp hF
    obtain ⟨z0, hF, rfl⟩ := hF
    refine V.sub _ [0, 3] rfl ?_
    exact v_X6_ahead_62 hd hF (hX _ rfl)
  · rw [if_neg hc] at hF
    refine V.aload_n 0 0 0 rfl dX6_ahead_50 rfl ?_
    refine V.iload_n 1 1 1 rfl dX6_ahead_51 rfl ?_
    replace hF := Option.bind_eq_some_iff.mp hF
    obtain ⟨⟨v1, M2⟩, hv1, hF⟩ := hF
    dsimp only at hF
    refine V.callV (d' := d - 1) [vi x1] [] (c_X6_triesOne (by omega) hv1) okX6_triesOne gw_1148 rfl rfl (by decide) (hcX6 E _) rfl (Nat.le_of_ble_eq_true rfl) (by omega) dX6_ahead_52 ?_
    rintro _ _ ⟨rfl, rfl⟩
    show V E mX6_ahead d 55 [(0, rf E 46), (1, vi x1), (2, vi x2), (3, vi x3), (4, vi x4)] [vi v1] M2 _
    refine V.pop rfl dX6_ahead_55 ?_
    refine V.iinc 4 4 1 [(4, vi (x4 + 1)), (0, rf E 46), (1, vi x1), (2, vi x2), (3, vi x3)] dX6_ahead_56 rfl (by decide) rfl ?_
    refine V.goto (tgt := 44) dX6_ahead_59 (by decide) ?_
    cases Option.some.inj hF
    refine V.sub _ [1, 2, 3, 4, 0] rfl ?_
    exact hC0 _ rfl
theorem l_X6_ahead_44 {E : En} {d : Nat} {Q : Po} {n : Nat} {x1 : Int} {x2 : Int} {x3 : Int} {k : Nat} {s : Int × Mem} {z : Int × Mem}  (hd : 5 ≤ d) (hF : lp (fun s => f_X6_ahead_44 n x1 x2 x3 s.1 s.2) k s = some z) (hK : Q (some (vi z.1)) z.2) : V E mX6_ahead d 44 [(0, rf E 46), (1, vi x1), (2, vi x2), (3, vi x3), (4, vi s.1)] [] s.2 Q := by
  refine lp_ind (P := fun s => V E mX6_ahead d 44 [(0, rf E 46), (1, vi x1), (2, vi x2), (3, vi x3), (4, vi s.1)] [] s.2 Q) (z0 := z) ?_ k s hF
  intro s z' hF hc hx
  exact v_X6_ahead_44 hd hF (fun s' e => hc s' e) (fun z0 e => by rw [hx _ e]; exact hK)
def f_X6_ahead (n : Nat) (x1 : Int) (x2 : Int) (x3 : Int) (M : Mem) : Option (Int × Mem) :=
  (f_X6_isReading x1 M).bind fun v1 =>
  if wr v1 = 0 then
    some ((-1), M)
  else
    (f_X6_in (wr x2) 0 8 M).bind fun v2 =>
    if wr v2 = 0 then
      some ((-1), M)
    else
      (f_X6_in (wr x3) 0 2 M).bind fun v3 =>
      if wr v3 = 0 then
        some ((-1), M)
      else
        (f_X6_copies n 0 100 M).bind fun M4 =>
        lp (fun s => f_X6_ahead_44 n x1 x2 x3 s.1 s.2) n (0, M4)
set_option maxRecDepth 10000 in
theorem v_X6_ahead_0 {E : En} {d : Nat} {Q : Po} {n : Nat} {x1 : Int} {x2 : Int} {x3 : Int} {M : Mem} {z : Int × Mem}  (hd : 5 ≤ d) (hF : f_X6_ahead n x1 x2 x3 M = some z) (hK : Q (some (vi z.1)) z.2) : V E mX6_ahead d 0 [(0, rf E 46), (1, vi x1), (2, vi x2), (3, vi x3)] [] M Q := by
  unfold f_X6_ahead at hF
  refine V.aload_n 0 0 0 rfl dX6_ahead_0 rfl ?_
  refine V.iload_n 1 1 1 rfl dX6_ahead_1 rfl ?_
  replace hF := Option.bind_eq_some_iff.mp hF
  obtain ⟨v1, hv1, hF⟩ := hF
  refine V.callV (d' := d - 1) [vi x1] [] (c_X6_isReading (by omega) hv1) okX6_isReading gw_1042 rfl rfl (by decide) (hcX6 E _) rfl (Nat.le_of_ble_eq_true rfl) (by omega) dX6_ahead_2 ?_
  rintro _ _ ⟨rfl, rfl⟩
  show V E mX6_ahead d 5 [(0, rf E 46), (1, vi x1), (2, vi x2), (3, vi x3)] [vi v1] M _
  refine V.if_eq (tgt := 32) rfl dX6_ahead_5 (by decide) (fun hc => ?_) (fun hc => ?_)
  · rw [if_pos hc] at hF
    refine V.iconst (-1) dX6_ahead_32 ?_
    cases Option.some.inj hF
    exact V.iret rfl dX6_ahead_33 hK
  · rw [if_neg hc] at hF
    refine V.iload_n 2 2 2 rfl dX6_ahead_8 rfl ?_
    refine V.i2l dX6_ahead_9 ?_
    refine V.lconst 0 0 (by decide) dX6_ahead_10 ?_
    refine V.ldc2 197 8 8 (by decide) gw_1142 dX6_ahead_11 ?_
    replace hF := Option.bind_eq_some_iff.mp hF
    obtain ⟨v2, hv2, hF⟩ := hF
    refine V.callS (d' := d - 1) [vl (wr x2), vl 0, vl 8] [] (c_X6_in (by omega) hv2) okX6_in gw_966 rfl rfl (Nat.le_of_ble_eq_true rfl) (by omega) dX6_ahead_14 ?_
    rintro _ _ ⟨rfl, rfl⟩
    show V E mX6_ahead d 17 [(0, rf E 46), (1, vi x1), (2, vi x2), (3, vi x3)] [vi v2] M _
    refine V.if_eq (tgt := 32) rfl dX6_ahead_17 (by decide) (fun hc => ?_) (fun hc => ?_)
    · rw [if_pos hc] at hF
      refine V.iconst (-1) dX6_ahead_32 ?_
      cases Option.some.inj hF
      exact V.iret rfl dX6_ahead_33 hK
    · rw [if_neg hc] at hF
      refine V.iload_n 3 3 3 rfl dX6_ahead_20 rfl ?_
      refine V.i2l dX6_ahead_21 ?_
      refine V.lconst 0 0 (by decide) dX6_ahead_22 ?_
      refine V.ldc2 199 2 2 (by decide) gw_1143 dX6_ahead_23 ?_
      replace hF := Option.bind_eq_some_iff.mp hF
      obtain ⟨v3, hv3, hF⟩ := hF
      refine V.callS (d' := d - 1) [vl (wr x3), vl 0, vl 2] [] (c_X6_in (by omega) hv3) okX6_in gw_966 rfl rfl (Nat.le_of_ble_eq_true rfl) (by omega) dX6_ahead_26 ?_
      rintro _ _ ⟨rfl, rfl⟩
      show V E mX6_ahead d 29 [(0, rf E 46), (1, vi x1), (2, vi x2), (3, vi x3)] [vi v3] M _
      refine V.if_ne (tgt := 34) rfl dX6_ahead_29 (by decide) (fun hc => ?_) (fun hc => ?_)
      · rw [if_neg hc] at hF
        refine V.aload_n 0 0 0 rfl dX6_ahead_34 rfl ?_
        refine V.iconst 0 dX6_ahead_35 ?_
        refine V.bipush 100 100 (by decide) dX6_ahead_36 ?_
        replace hF := Option.bind_eq_some_iff.mp hF
        obtain ⟨M4, hM4, hF⟩ := hF
        refine V.callV (d' := d - 1) [vi 0, vi 100] [] (c_X6_copies (by omega) hM4) okX6_copies gw_1144 rfl rfl (by decide) (hcX6 E _) rfl (Nat.le_of_ble_eq_true rfl) (by omega) dX6_ahead_38 ?_
        rintro _ _ ⟨rfl, rfl⟩
        show V E mX6_ahead d 41 [(0, rf E 46), (1, vi x1), (2, vi x2), (3, vi x3)] [] M4 _
        refine V.iconst 0 dX6_ahead_41 ?_
        refine V.istore 4 [(4, vi 0), (0, rf E 46), (1, vi x1), (2, vi x2), (3, vi x3)] dX6_ahead_42 (by decide) rfl ?_
        refine V.sub _ [1, 2, 3, 4, 0] rfl ?_
        exact l_X6_ahead_44 hd hF hK
      · rw [if_pos hc] at hF
        refine V.iconst (-1) dX6_ahead_32 ?_
        cases Option.some.inj hF
        exact V.iret rfl dX6_ahead_33 hK
theorem c_X6_ahead {E : En} {d : Nat} {n : Nat} {x1 : Int} {x2 : Int} {x3 : Int} {M : Mem} {zr : Int} {zM : Mem}  (hd : 5 ≤ d) (hF : f_X6_ahead n x1 x2 x3 M = some (zr, zM)) : Cn E mX6_ahead d [rf E 46, vi x1, vi x2, vi x3] M (fun v N => v = some (vi zr) ∧ zM = N) := by
  refine V.entry (by decide +kernel) (Nat.le_of_ble_eq_true rfl) ?_
  exact v_X6_ahead_0  hd hF ⟨rfl, rfl⟩
abbrev mX6_starvesIn : MI := (yX6_starvesIn, cX6_starvesIn, 3, (some .int))
theorem okX6_starvesIn : OKV mX6_starvesIn 1 := ⟨gw_1158, gw_45, gw_64, gw_1159, (by decide +kernel), (by decide)⟩
def f_X6_starvesIn_0 (n : Nat) (x1 : Int) (M : Mem) : Option ((Mem) ⊕ (Int × Mem)) :=
  if 8 ≤ wr (M 47 121) then
    some (.inr ((-4), M))
  else
    (f_X6_triesOne n x1 M).bind fun (v1, M2) =>
    if wr v1 ≤ 0 then
      some (.inl M2)
    else
      some (.inr (M 47 121, M2))
set_option maxRecDepth 10000 in
theorem v_X6_starvesIn_0 {E : En} {d : Nat} {Q : Po} {n : Nat} {x1 : Int} {M : Mem} {z : (Mem) ⊕ (Int × Mem)}  (hd : 5 ≤ d) (hF : f_X6_starvesIn_0 n x1 M = some z) (hC0 : ∀ s' : Mem, z = (.inl s') → V E mX6_starvesIn d 0 [(0, rf E 46), (1, vi x1)] [] s' Q) (hX : ∀ z0 : Int × Mem, z = (.inr z0) → Q (some (vi z0.1)) z0.2) : V E mX6_starvesIn d 0 [(0, rf E 46), (1, vi x1)] [] M Q := by
  unfold f_X6_starvesIn_0 at hF
  refine V.aload_n 0 0 0 rfl dX6_starvesIn_0 rfl ?_
  refine V.get (by decide) (hcX6 E _) rfl inX6 0 (by decide) rfl gw_875 dX6_starvesIn_1 ?_
  refine V.bipush 121 121 (by decide) dX6_starvesIn_4 ?_
  refine V.iald ar_47 (rd_lit 121 121 wr_121 (by decide)) dX6_starvesIn_6 ?_
  refine V.bipush 8 8 (by decide) dX6_starvesIn_7 ?_
  refine V.icmp_ge (tgt := 33) rfl wr_8 dX6_starvesIn_9 (by decide) (fun hc => ?_) (fun hc => ?_)
  · rw [if_pos hc] at hF
    refine V.bipush (-4) (-4) (by decide) dX6_starvesIn_33 ?_
    cases Option.some.inj hF
    exact V.iret rfl dX6_starvesIn_35 (hX _ rfl)
  · rw [if_neg hc] at hF
    refine V.aload_n 0 0 0 rfl dX6_starvesIn_12 rfl ?_
    refine V.get (by decide) (hcX6 E _) rfl inX6 0 (by decide) rfl gw_875 dX6_starvesIn_13 ?_
    refine V.bipush 121 121 (by decide) dX6_starvesIn_16 ?_
    refine V.iald ar_47 (rd_lit 121 121 wr_121 (by decide)) dX6_starvesIn_18 ?_
    refine V.istore_n 2 2 [(2, vi (M 47 121)), (0, rf E 46), (1, vi x1)] rfl dX6_starvesIn_19 (by decide) rfl ?_
    refine V.aload_n 0 0 1 rfl dX6_starvesIn_20 rfl ?_
    refine V.iload_n 1 1 2 rfl dX6_starvesIn_21 rfl ?_
    replace hF := Option.bind_eq_some_iff.mp hF
    obtain ⟨⟨v1, M2⟩, hv1, hF⟩ := hF
    dsimp only at hF
    refine V.callV (d' := d - 1) [vi x1] [] (c_X6_triesOne (by omega) hv1) okX6_triesOne gw_1148 rfl rfl (by decide) (hcX6 E _) rfl (Nat.le_of_ble_eq_true rfl) (by omega) dX6_starvesIn_22 ?_
    rintro _ _ ⟨rfl, rfl⟩
    show V E mX6_starvesIn d 25 [(2, vi (M 47 121)), (0, rf E 46), (1, vi x1)] [vi v1] M2 _
    refine V.if_le (tgt := 30) rfl dX6_starvesIn_25 (by decide) (fun hc => ?_) (fun hc => ?_)
    · rw [if_pos hc] at hF
      refine V.goto (tgt := 0) dX6_starvesIn_30 (by decide) ?_
      cases Option.some.inj hF
      refine V.sub _ [1, 2] rfl ?_
      exact hC0 _ rfl
    · rw [if_neg hc] at hF
      refine V.iload_n 2 2 0 rfl dX6_starvesIn_28 rfl ?_
      cases Option.some.inj hF
      exact V.iret rfl dX6_starvesIn_29 (hX _ rfl)
theorem l_X6_starvesIn_0 {E : En} {d : Nat} {Q : Po} {n : Nat} {x1 : Int} {k : Nat} {s : Mem} {z : Int × Mem}  (hd : 5 ≤ d) (hF : lp (fun s => f_X6_starvesIn_0 n x1 s) k s = some z) (hK : Q (some (vi z.1)) z.2) : V E mX6_starvesIn d 0 [(0, rf E 46), (1, vi x1)] [] s Q := by
  refine lp_ind (P := fun s => V E mX6_starvesIn d 0 [(0, rf E 46), (1, vi x1)] [] s Q) (z0 := z) ?_ k s hF
  intro s z' hF hc hx
  exact v_X6_starvesIn_0 hd hF (fun s' e => hc s' e) (fun z0 e => by rw [hx _ e]; exact hK)
def f_X6_starvesIn (n : Nat) (x1 : Int) (M : Mem) : Option (Int × Mem) :=
  lp (fun s => f_X6_starvesIn_0 n x1 s) n M
theorem c_X6_starvesIn {E : En} {d : Nat} {n : Nat} {x1 : Int} {M : Mem} {zr : Int} {zM : Mem}  (hd : 5 ≤ d) (hF : f_X6_starvesIn n x1 M = some (zr, zM)) : Cn E mX6_starvesIn d [rf E 46, vi x1] M (fun v N => v = some (vi zr) ∧ zM = N) := by
  refine V.entry (by decide +kernel) (Nat.le_of_ble_eq_true rfl) ?_
  exact l_X6_starvesIn_0  hd hF ⟨rfl, rfl⟩
abbrev mX6_when : MI := (yX6_when, cX6_when, 2, (some .int))
theorem okX6_when : OKV mX6_when 1 := ⟨gw_1153, gw_1154, gw_64, gw_1155, (by decide +kernel), (by decide)⟩
def f_X6_when (n : Nat) (x1 : Int) (M : Mem) : Option (Int × Mem) :=
  (f_X6_isReading x1 M).bind fun v1 =>
  if wr v1 = 0 then
    some ((-1), M)
  else
    (f_X6_copies n 0 100 M).bind fun M2 =>
    (f_X6_starvesIn n x1 M2).bind fun (v3, M4) =>
    some (v3, M4)
set_option maxRecDepth 10000 in
theorem v_X6_when_0 {E : En} {d : Nat} {Q : Po} {n : Nat} {x1 : Int} {M : Mem} {z : Int × Mem}  (hd : 6 ≤ d) (hF : f_X6_when n x1 M = some z) (hK : Q (some (vi z.1)) z.2) : V E mX6_when d 0 [(0, rf E 46), (1, vi x1)] [] M Q := by
  unfold f_X6_when at hF
  refine V.aload_n 0 0 0 rfl dX6_when_0 rfl ?_
  refine V.iload_n 1 1 1 rfl dX6_when_1 rfl ?_
  replace hF := Option.bind_eq_some_iff.mp hF
  obtain ⟨v1, hv1, hF⟩ := hF
  refine V.callV (d' := d - 1) [vi x1] [] (c_X6_isReading (by omega) hv1) okX6_isReading gw_1042 rfl rfl (by decide) (hcX6 E _) rfl (Nat.le_of_ble_eq_true rfl) (by omega) dX6_when_2 ?_
  rintro _ _ ⟨rfl, rfl⟩
  show V E mX6_when d 5 [(0, rf E 46), (1, vi x1)] [vi v1] M _
  refine V.if_ne (tgt := 10) rfl dX6_when_5 (by decide) (fun hc => ?_) (fun hc => ?_)
  · rw [if_neg hc] at hF
    refine V.aload_n 0 0 0 rfl dX6_when_10 rfl ?_
    refine V.iconst 0 dX6_when_11 ?_
    refine V.bipush 100 100 (by decide) dX6_when_12 ?_
    replace hF := Option.bind_eq_some_iff.mp hF
    obtain ⟨M2, hM2, hF⟩ := hF
    refine V.callV (d' := d - 1) [vi 0, vi 100] [] (c_X6_copies (by omega) hM2) okX6_copies gw_1144 rfl rfl (by decide) (hcX6 E _) rfl (Nat.le_of_ble_eq_true rfl) (by omega) dX6_when_14 ?_
    rintro _ _ ⟨rfl, rfl⟩
    show V E mX6_when d 17 [(0, rf E 46), (1, vi x1)] [] M2 _
    refine V.aload_n 0 0 0 rfl dX6_when_17 rfl ?_
    refine V.iload_n 1 1 1 rfl dX6_when_18 rfl ?_
    replace hF := Option.bind_eq_some_iff.mp hF
    obtain ⟨⟨v3, M4⟩, hv3, hF⟩ := hF
    dsimp only at hF
    refine V.callV (d' := d - 1) [vi x1] [] (c_X6_starvesIn (by omega) hv3) okX6_starvesIn gw_1156 rfl rfl (by decide) (hcX6 E _) rfl (Nat.le_of_ble_eq_true rfl) (by omega) dX6_when_19 ?_
    rintro _ _ ⟨rfl, rfl⟩
    show V E mX6_when d 22 [(0, rf E 46), (1, vi x1)] [vi v3] M4 _
    cases Option.some.inj hF
    exact V.iret rfl dX6_when_22 hK
  · rw [if_pos hc] at hF
    refine V.iconst (-1) dX6_when_8 ?_
    cases Option.some.inj hF
    exact V.iret rfl dX6_when_9 hK
theorem c_X6_when {E : En} {d : Nat} {n : Nat} {x1 : Int} {M : Mem} {zr : Int} {zM : Mem}  (hd : 6 ≤ d) (hF : f_X6_when n x1 M = some (zr, zM)) : Cn E mX6_when d [rf E 46, vi x1] M (fun v N => v = some (vi zr) ∧ zM = N) := by
  refine V.entry (by decide +kernel) (Nat.le_of_ble_eq_true rfl) ?_
  exact v_X6_when_0  hd hF ⟨rfl, rfl⟩
abbrev mX6_canNow : MI := (yX6_canNow, cX6_canNow, 3, (some .int))
theorem okX6_canNow : OKV mX6_canNow 0 := ⟨gw_1166, gw_46, gw_64, gw_1167, (by decide +kernel), (by decide)⟩
def f_X6_canNow_28 (n : Nat) (x2 : Int) (s0 : Int) (s1 : Int) (M : Mem) : Option ((Int × Int) ⊕ (Int)) :=
  some (.inl (bOr s1 s0, x2 + 1))
set_option maxRecDepth 10000 in
theorem v_X6_canNow_28 {E : En} {d : Nat} {Q : Po} {n : Nat} {x2 : Int} {s0 : Int} {s1 : Int} {M : Mem} {z : (Int × Int) ⊕ (Int)}  (hd : 2 ≤ d) (hF : f_X6_canNow_28 n x2 s0 s1 M = some z) (hC0 : ∀ s' : Int × Int, z = (.inl s') → V E mX6_canNow d 4 [(0, rf E 46), (1, vi (s'.1)), (2, vi (s'.2))] [] M Q) (hX : ∀ z0 : Int, z = (.inr z0) → Q (some (vi z0)) M) : V E mX6_canNow d 28 [(0, rf E 46), (2, vi x2)] [vi s0, vi s1] M Q := by
  unfold f_X6_canNow_28 at hF
  refine V.ior dX6_canNow_28 ?_
  refine V.istore_n 1 1 [(1, vi (bOr s1 s0)), (0, rf E 46), (2, vi x2)] rfl dX6_canNow_29 (by decide) rfl ?_
  refine V.iinc 2 2 1 [(2, vi (x2 + 1)), (1, vi (bOr s1 s0)), (0, rf E 46)] dX6_canNow_30 rfl (by decide) rfl ?_
  refine V.goto (tgt := 4) dX6_canNow_33 (by decide) ?_
  cases Option.some.inj hF
  refine V.sub _ [2, 1, 0] rfl ?_
  exact hC0 _ rfl
def f_X6_canNow_4 (n : Nat) (x1 : Int) (x2 : Int) (M : Mem) : Option ((Int × Int) ⊕ (Int)) :=
  if wr (M 46 3) ≤ wr x2 then
    some (.inr x1)
  else
    (f_X6_canBe x2 M).bind fun v1 =>
    if wr v1 = 0 then
      f_X6_canNow_28 n x2 0 x1 M
    else
      f_X6_canNow_28 n x2 (bShl 1 x2) x1 M
set_option maxRecDepth 10000 in
theorem v_X6_canNow_4 {E : En} {d : Nat} {Q : Po} {n : Nat} {x1 : Int} {x2 : Int} {M : Mem} {z : (Int × Int) ⊕ (Int)}  (hd : 2 ≤ d) (hF : f_X6_canNow_4 n x1 x2 M = some z) (hC0 : ∀ s' : Int × Int, z = (.inl s') → V E mX6_canNow d 4 [(0, rf E 46), (1, vi (s'.1)), (2, vi (s'.2))] [] M Q) (hX : ∀ z0 : Int, z = (.inr z0) → Q (some (vi z0)) M) : V E mX6_canNow d 4 [(0, rf E 46), (1, vi x1), (2, vi x2)] [] M Q := by
  unfold f_X6_canNow_4 at hF
  refine V.iload_n 2 2 2 rfl dX6_canNow_4 rfl ?_
  refine V.aload_n 0 0 0 rfl dX6_canNow_5 rfl ?_
  refine V.get (by decide) (hcX6 E _) rfl inX6 3 (by decide) rfl gw_878 dX6_canNow_6 ?_
  refine V.icmp_ge (tgt := 36) rfl rfl dX6_canNow_9 (by decide) (fun hc => ?_) (fun hc => ?_)
  · rw [if_pos hc] at hF
    refine V.iload_n 1 1 1 rfl dX6_canNow_36 rfl ?_
    cases Option.some.inj hF
    exact V.iret rfl dX6_canNow_37 (hX _ rfl)
  · rw [if_neg hc] at hF
    refine V.iload_n 1 1 1 rfl dX6_canNow_12 rfl ?_
    refine V.aload_n 0 0 0 rfl dX6_canNow_13 rfl ?_
    refine V.iload_n 2 2 2 rfl dX6_canNow_14 rfl ?_
    replace hF := Option.bind_eq_some_iff.mp hF
    obtain ⟨v1, hv1, hF⟩ := hF
    refine V.callV (d' := d - 1) [vi x2] [vi x1] (c_X6_canBe (by omega) hv1) okX6_canBe gw_1048 rfl rfl (by decide) (hcX6 E _) rfl (Nat.le_of_ble_eq_true rfl) (by omega) dX6_canNow_15 ?_
    rintro _ _ ⟨rfl, rfl⟩
    show V E mX6_canNow d 18 [(0, rf E 46), (1, vi x1), (2, vi x2)] [vi v1, vi x1] M _
    refine V.if_eq (tgt := 27) rfl dX6_canNow_18 (by decide) (fun hc => ?_) (fun hc => ?_)
    · rw [if_pos hc] at hF
      refine V.iconst 0 dX6_canNow_27 ?_
      refine V.sub _ [0, 2] rfl ?_
      exact v_X6_canNow_28 hd hF hC0 hX
    · rw [if_neg hc] at hF
      refine V.iconst 1 dX6_canNow_21 ?_
      refine V.iload_n 2 2 2 rfl dX6_canNow_22 rfl ?_
      refine V.ishl dX6_canNow_23 ?_
      refine V.goto (tgt := 28) dX6_canNow_24 (by decide) ?_
      refine V.sub _ [0, 2] rfl ?_
      exact v_X6_canNow_28 hd hF hC0 hX
theorem l_X6_canNow_4 {E : En} {d : Nat} {Q : Po} {n : Nat} {M : Mem} {k : Nat} {s : Int × Int} {z : Int}  (hd : 2 ≤ d) (hF : lp (fun s => f_X6_canNow_4 n s.1 s.2 M) k s = some z) (hK : Q (some (vi z)) M) : V E mX6_canNow d 4 [(0, rf E 46), (1, vi s.1), (2, vi s.2)] [] M Q := by
  refine lp_ind (P := fun s => V E mX6_canNow d 4 [(0, rf E 46), (1, vi s.1), (2, vi s.2)] [] M Q) (z0 := z) ?_ k s hF
  intro s z' hF hc hx
  exact v_X6_canNow_4 hd hF (fun s' e => hc s' e) (fun z0 e => by rw [hx _ e]; exact hK)
def f_X6_canNow (n : Nat) (M : Mem) : Option (Int) :=
  lp (fun s => f_X6_canNow_4 n s.1 s.2 M) n (0, 0)
set_option maxRecDepth 10000 in
theorem v_X6_canNow_0 {E : En} {d : Nat} {Q : Po} {n : Nat} {M : Mem} {z : Int}  (hd : 2 ≤ d) (hF : f_X6_canNow n M = some z) (hK : Q (some (vi z)) M) : V E mX6_canNow d 0 [(0, rf E 46)] [] M Q := by
  unfold f_X6_canNow at hF
  refine V.iconst 0 dX6_canNow_0 ?_
  refine V.istore_n 1 1 [(1, vi 0), (0, rf E 46)] rfl dX6_canNow_1 (by decide) rfl ?_
  refine V.iconst 0 dX6_canNow_2 ?_
  refine V.istore_n 2 2 [(2, vi 0), (1, vi 0), (0, rf E 46)] rfl dX6_canNow_3 (by decide) rfl ?_
  refine V.sub _ [2, 1, 0] rfl ?_
  exact l_X6_canNow_4 hd hF hK
theorem c_X6_canNow {E : En} {d : Nat} {n : Nat} {M : Mem} {z : Int}  (hd : 2 ≤ d) (hF : f_X6_canNow n M = some z) : Cn E mX6_canNow d [rf E 46] M (fun v N => v = some (vi z) ∧ M = N) := by
  refine V.entry (by decide +kernel) (Nat.le_of_ble_eq_true rfl) ?_
  exact v_X6_canNow_0  hd hF ⟨rfl, rfl⟩
abbrev mX6_can : MI := (yX6_can, cX6_can, 1, (some .int))
theorem okX6_can : OKV mX6_can 0 := ⟨gw_1161, gw_1162, gw_64, gw_1163, (by decide +kernel), (by decide)⟩
def f_X6_can (n : Nat) (M : Mem) : Option (Int) :=
  (f_X6_canNow n M).bind fun v1 =>
  some v1
set_option maxRecDepth 10000 in
theorem v_X6_can_0 {E : En} {d : Nat} {Q : Po} {n : Nat} {M : Mem} {z : Int}  (hd : 3 ≤ d) (hF : f_X6_can n M = some z) (hK : Q (some (vi z)) M) : V E mX6_can d 0 [(0, rf E 46)] [] M Q := by
  unfold f_X6_can at hF
  refine V.aload_n 0 0 0 rfl dX6_can_0 rfl ?_
  replace hF := Option.bind_eq_some_iff.mp hF
  obtain ⟨v1, hv1, hF⟩ := hF
  refine V.callV (d' := d - 1) [] [] (c_X6_canNow (by omega) hv1) okX6_canNow gw_1164 rfl rfl (by decide) (hcX6 E _) rfl (Nat.le_of_ble_eq_true rfl) (by omega) dX6_can_1 ?_
  rintro _ _ ⟨rfl, rfl⟩
  show V E mX6_can d 4 [(0, rf E 46)] [vi v1] M _
  cases Option.some.inj hF
  exact V.iret rfl dX6_can_4 hK
theorem c_X6_can {E : En} {d : Nat} {n : Nat} {M : Mem} {z : Int}  (hd : 3 ≤ d) (hF : f_X6_can n M = some z) : Cn E mX6_can d [rf E 46] M (fun v N => v = some (vi z) ∧ M = N) := by
  refine V.entry (by decide +kernel) (Nat.le_of_ble_eq_true rfl) ?_
  exact v_X6_can_0  hd hF ⟨rfl, rfl⟩
abbrev mX6_lowest : MI := (yX6_lowest, cX6_lowest, 11, (some .long))
theorem okX6_lowest : OKS mX6_lowest 3 := ⟨gw_1184, gw_64, gw_1185, (by decide +kernel), (by decide)⟩
def f_X6_lowest_52 (n : Nat) (x5 : Int) (s0 : Int) (M : Mem) : Option (Int) :=
  (lvtdiv s0 x5).bind fun v1 =>
  some v1
set_option maxRecDepth 10000 in
theorem v_X6_lowest_52 {E : En} {d : Nat} {Q : Po} {n : Nat} {x5 : Int} {s0 : Int} {M : Mem} {z : Int}  (hd : 1 ≤ d) (hF : f_X6_lowest_52 n x5 s0 M = some z) (hK : Q (some (vl z)) M) : V E mX6_lowest d 52 [(5, vl x5)] [vl s0] M Q := by
  unfold f_X6_lowest_52 at hF
  refine V.lload 5 0 dX6_lowest_52 rfl ?_
  replace hF := Option.bind_eq_some_iff.mp hF
  obtain ⟨v1, hv1, hF⟩ := hF
  refine V.ldiv (lvtdiv_some hv1).1 dX6_lowest_54 ?_
  rw [← (lvtdiv_some hv1).2]
  cases Option.some.inj hF
  exact V.lret rfl dX6_lowest_55 hK
def f_X6_lowest_42 (n : Nat) (x0 : Int) (x2 : Int) (x4 : Int) (x5 : Int) (M : Mem) : Option (Int) :=
  if wr x4 = 0 then
    f_X6_lowest_52 n x5 x0 M
  else
    f_X6_lowest_52 n x5 x2 M
set_option maxRecDepth 10000 in
theorem v_X6_lowest_42 {E : En} {d : Nat} {Q : Po} {n : Nat} {x0 : Int} {x2 : Int} {x4 : Int} {x5 : Int} {M : Mem} {z : Int}  (hd : 1 ≤ d) (hF : f_X6_lowest_42 n x0 x2 x4 x5 M = some z) (hK : Q (some (vl z)) M) : V E mX6_lowest d 42 [(0, vl x0), (2, vl x2), (4, vi x4), (5, vl x5)] [] M Q := by
  unfold f_X6_lowest_42 at hF
  refine V.iload 4 2 dX6_lowest_42 rfl ?_
  refine V.if_ne (tgt := 51) rfl dX6_lowest_44 (by decide) (fun hc => ?_) (fun hc => ?_)
  · rw [if_neg hc] at hF
    refine V.lload_n 2 2 1 rfl dX6_lowest_51 rfl ?_
    refine V.sub _ [3] rfl ?_
    exact v_X6_lowest_52 hd hF hK
  · rw [if_pos hc] at hF
    refine V.lload_n 0 0 0 rfl dX6_lowest_47 rfl ?_
    refine V.goto (tgt := 52) dX6_lowest_48 (by decide) ?_
    refine V.sub _ [3] rfl ?_
    exact v_X6_lowest_52 hd hF hK
def f_X6_lowest_17 (n : Nat) (x0 : Int) (x2 : Int) (x4 : Int) (x5 : Int) (x7 : Int) (M : Mem) : Option ((Int × Int) ⊕ (Int)) :=
  if wl x7 = 0 then
    (f_X6_lowest_42 n x0 x2 x4 x5 M).map Sum.inr
  else
    (lvtmod x5 x7).bind fun v1 =>
    some (.inl (x7, v1))
set_option maxRecDepth 10000 in
theorem v_X6_lowest_17 {E : En} {d : Nat} {Q : Po} {n : Nat} {x0 : Int} {x2 : Int} {x4 : Int} {x5 : Int} {x7 : Int} {M : Mem} {z : (Int × Int) ⊕ (Int)}  (hd : 1 ≤ d) (hF : f_X6_lowest_17 n x0 x2 x4 x5 x7 M = some z) (hC0 : ∀ s' : Int × Int, z = (.inl s') → V E mX6_lowest d 17 [(0, vl x0), (2, vl x2), (4, vi x4), (5, vl (s'.1)), (7, vl (s'.2))] [] M Q) (hX : ∀ z0 : Int, z = (.inr z0) → Q (some (vl z0)) M) : V E mX6_lowest d 17 [(0, vl x0), (2, vl x2), (4, vi x4), (5, vl x5), (7, vl x7)] [] M Q := by
  unfold f_X6_lowest_17 at hF
  refine V.lload 7 4 dX6_lowest_17 rfl ?_
  refine V.lconst 0 0 (by decide) dX6_lowest_19 ?_
  refine V.lcmp_eq (tgt := 42) rfl wl_0 dX6_lowest_20 dX6_lowest_21 (by decide) (fun hc => ?_) (fun hc => ?_)
  · rw [if_pos hc] at hF
    replace hF := Option.map_eq_some_iff.mp hF
    obtain ⟨z0, hF, rfl⟩ := hF
    refine V.sub _ [0, 1, 2, 3] rfl ?_
    exact v_X6_lowest_42 hd hF (hX _ rfl)
  · rw [if_neg hc] at hF
    refine V.lload 5 3 dX6_lowest_24 rfl ?_
    refine V.lload 7 4 dX6_lowest_26 rfl ?_
    replace hF := Option.bind_eq_some_iff.mp hF
    obtain ⟨v1, hv1, hF⟩ := hF
    refine V.lrem (lvtmod_some hv1).1 dX6_lowest_28 ?_
    rw [← (lvtmod_some hv1).2]
    refine V.lstore 9 [(9, vl v1), (0, vl x0), (2, vl x2), (4, vi x4), (5, vl x5), (7, vl x7)] dX6_lowest_29 (by decide) rfl ?_
    refine V.lload 7 5 dX6_lowest_31 rfl ?_
    refine V.lstore 5 [(5, vl x7), (9, vl v1), (0, vl x0), (2, vl x2), (4, vi x4), (7, vl x7)] dX6_lowest_33 (by decide) rfl ?_
    refine V.lload 9 1 dX6_lowest_35 rfl ?_
    refine V.lstore 7 [(7, vl v1), (5, vl x7), (9, vl v1), (0, vl x0), (2, vl x2), (4, vi x4)] dX6_lowest_37 (by decide) rfl ?_
    refine V.goto (tgt := 17) dX6_lowest_39 (by decide) ?_
    cases Option.some.inj hF
    refine V.sub _ [3, 4, 5, 1, 0] rfl ?_
    exact hC0 _ rfl
theorem l_X6_lowest_17 {E : En} {d : Nat} {Q : Po} {n : Nat} {x0 : Int} {x2 : Int} {x4 : Int} {M : Mem} {k : Nat} {s : Int × Int} {z : Int}  (hd : 1 ≤ d) (hF : lp (fun s => f_X6_lowest_17 n x0 x2 x4 s.1 s.2 M) k s = some z) (hK : Q (some (vl z)) M) : V E mX6_lowest d 17 [(0, vl x0), (2, vl x2), (4, vi x4), (5, vl s.1), (7, vl s.2)] [] M Q := by
  refine lp_ind (P := fun s => V E mX6_lowest d 17 [(0, vl x0), (2, vl x2), (4, vi x4), (5, vl s.1), (7, vl s.2)] [] M Q) (z0 := z) ?_ k s hF
  intro s z' hF hc hx
  exact v_X6_lowest_17 hd hF (fun s' e => hc s' e) (fun z0 e => by rw [hx _ e]; exact hK)
def f_X6_lowest_12 (n : Nat) (x0 : Int) (x2 : Int) (x4 : Int) (s0 : Int) (M : Mem) : Option (Int) :=
  lp (fun s => f_X6_lowest_17 n x0 x2 x4 s.1 s.2 M) n (s0, x2)
set_option maxRecDepth 10000 in
theorem v_X6_lowest_12 {E : En} {d : Nat} {Q : Po} {n : Nat} {x0 : Int} {x2 : Int} {x4 : Int} {s0 : Int} {M : Mem} {z : Int}  (hd : 1 ≤ d) (hF : f_X6_lowest_12 n x0 x2 x4 s0 M = some z) (hK : Q (some (vl z)) M) : V E mX6_lowest d 12 [(0, vl x0), (2, vl x2), (4, vi x4)] [vl s0] M Q := by
  unfold f_X6_lowest_12 at hF
  refine V.lstore 5 [(5, vl s0), (0, vl x0), (2, vl x2), (4, vi x4)] dX6_lowest_12 (by decide) rfl ?_
  refine V.lload_n 2 2 2 rfl dX6_lowest_14 rfl ?_
  refine V.lstore 7 [(7, vl x2), (5, vl s0), (0, vl x0), (2, vl x2), (4, vi x4)] dX6_lowest_15 (by decide) rfl ?_
  refine V.sub _ [2, 3, 4, 1, 0] rfl ?_
  exact l_X6_lowest_17 hd hF hK
def f_X6_lowest (n : Nat) (x0 : Int) (x2 : Int) (x4 : Int) (M : Mem) : Option (Int) :=
  if 0 ≤ wl x0 then
    f_X6_lowest_12 n x0 x2 x4 x0 M
  else
    f_X6_lowest_12 n x0 x2 x4 (-x0) M
set_option maxRecDepth 10000 in
theorem v_X6_lowest_0 {E : En} {d : Nat} {Q : Po} {n : Nat} {x0 : Int} {x2 : Int} {x4 : Int} {M : Mem} {z : Int}  (hd : 1 ≤ d) (hF : f_X6_lowest n x0 x2 x4 M = some z) (hK : Q (some (vl z)) M) : V E mX6_lowest d 0 [(0, vl x0), (2, vl x2), (4, vi x4)] [] M Q := by
  unfold f_X6_lowest at hF
  refine V.lload_n 0 0 0 rfl dX6_lowest_0 rfl ?_
  refine V.lconst 0 0 (by decide) dX6_lowest_1 ?_
  refine V.lcmp_ge (tgt := 11) rfl wl_0 dX6_lowest_2 dX6_lowest_3 (by decide) (fun hc => ?_) (fun hc => ?_)
  · rw [if_pos hc] at hF
    refine V.lload_n 0 0 0 rfl dX6_lowest_11 rfl ?_
    exact v_X6_lowest_12 hd hF hK
  · rw [if_neg hc] at hF
    refine V.lload_n 0 0 0 rfl dX6_lowest_6 rfl ?_
    refine V.lneg dX6_lowest_7 ?_
    refine V.goto (tgt := 12) dX6_lowest_8 (by decide) ?_
    exact v_X6_lowest_12 hd hF hK
theorem c_X6_lowest {E : En} {d : Nat} {n : Nat} {x0 : Int} {x2 : Int} {x4 : Int} {M : Mem} {z : Int}  (hd : 1 ≤ d) (hF : f_X6_lowest n x0 x2 x4 M = some z) : Cn E mX6_lowest d [vl x0, vl x2, vi x4] M (fun v N => v = some (vl z) ∧ M = N) := by
  refine V.entry (by decide +kernel) (Nat.le_of_ble_eq_true rfl) ?_
  exact v_X6_lowest_0  hd hF ⟨rfl, rfl⟩
abbrev mX6_oddsOf : MI := (yX6_oddsOf, cX6_oddsOf, 5, (some .long))
theorem okX6_oddsOf : OKV mX6_oddsOf 1 := ⟨gw_1181, gw_48, gw_64, gw_1182, (by decide +kernel), (by decide)⟩
def f_X6_oddsOf_40 (n : Nat) (x1 : Int) (x4 : Int) (s0 : Int) (s1 : Int) (M : Mem) : Option ((Int × Int) ⊕ (Int)) :=
  some (.inl (s1 + s0, x4 + 1))
set_option maxRecDepth 10000 in
theorem v_X6_oddsOf_40 {E : En} {d : Nat} {Q : Po} {n : Nat} {x1 : Int} {x4 : Int} {s0 : Int} {s1 : Int} {M : Mem} {z : (Int × Int) ⊕ (Int)}  (hd : 1 ≤ d) (hF : f_X6_oddsOf_40 n x1 x4 s0 s1 M = some z) (hC0 : ∀ s' : Int × Int, z = (.inl s') → V E mX6_oddsOf d 5 [(0, rf E 46), (1, vi x1), (2, vl (s'.1)), (4, vi (s'.2))] [] M Q) (hX : ∀ z0 : Int, z = (.inr z0) → Q (some (vl z0)) M) : V E mX6_oddsOf d 40 [(0, rf E 46), (1, vi x1), (4, vi x4)] [vl s0, vl s1] M Q := by
  unfold f_X6_oddsOf_40 at hF
  refine V.ladd dX6_oddsOf_40 ?_
  refine V.lstore_n 2 2 [(2, vl (s1 + s0)), (0, rf E 46), (1, vi x1), (4, vi x4)] rfl dX6_oddsOf_41 (by decide) rfl ?_
  refine V.iinc 4 3 1 [(4, vi (x4 + 1)), (2, vl (s1 + s0)), (0, rf E 46), (1, vi x1)] dX6_oddsOf_42 rfl (by decide) rfl ?_
  refine V.goto (tgt := 5) dX6_oddsOf_45 (by decide) ?_
  cases Option.some.inj hF
  refine V.sub _ [2, 3, 1, 0] rfl ?_
  exact hC0 _ rfl
def f_X6_oddsOf_5 (n : Nat) (x1 : Int) (x2 : Int) (x4 : Int) (M : Mem) : Option ((Int × Int) ⊕ (Int)) :=
  if wr (M 46 3) ≤ wr x4 then
    some (.inr x2)
  else
    if wr (bAnd (bShr x1 x4) 1) = 1 then
      (rd M 47 125 (8 + x4)).bind fun v1 =>
      f_X6_oddsOf_40 n x1 x4 (wr v1) x2 M
    else
      f_X6_oddsOf_40 n x1 x4 0 x2 M
set_option maxRecDepth 10000 in
theorem v_X6_oddsOf_5 {E : En} {d : Nat} {Q : Po} {n : Nat} {x1 : Int} {x2 : Int} {x4 : Int} {M : Mem} {z : (Int × Int) ⊕ (Int)}  (hd : 1 ≤ d) (hF : f_X6_oddsOf_5 n x1 x2 x4 M = some z) (hC0 : ∀ s' : Int × Int, z = (.inl s') → V E mX6_oddsOf d 5 [(0, rf E 46), (1, vi x1), (2, vl (s'.1)), (4, vi (s'.2))] [] M Q) (hX : ∀ z0 : Int, z = (.inr z0) → Q (some (vl z0)) M) : V E mX6_oddsOf d 5 [(0, rf E 46), (1, vi x1), (2, vl x2), (4, vi x4)] [] M Q := by
  unfold f_X6_oddsOf_5 at hF
  refine V.iload 4 3 dX6_oddsOf_5 rfl ?_
  refine V.aload_n 0 0 0 rfl dX6_oddsOf_7 rfl ?_
  refine V.get (by decide) (hcX6 E _) rfl inX6 3 (by decide) rfl gw_878 dX6_oddsOf_8 ?_
  refine V.icmp_ge (tgt := 48) rfl rfl dX6_oddsOf_11 (by decide) (fun hc => ?_) (fun hc => ?_)
  · rw [if_pos hc] at hF
    refine V.lload_n 2 2 2 rfl dX6_oddsOf_48 rfl ?_
    cases Option.some.inj hF
    exact V.lret rfl dX6_oddsOf_49 (hX _ rfl)
  · rw [if_neg hc] at hF
    refine V.lload_n 2 2 2 rfl dX6_oddsOf_14 rfl ?_
    refine V.iload_n 1 1 1 rfl dX6_oddsOf_15 rfl ?_
    refine V.iload 4 3 dX6_oddsOf_16 rfl ?_
    refine V.ishr dX6_oddsOf_18 ?_
    refine V.iconst 1 dX6_oddsOf_19 ?_
    refine V.iand dX6_oddsOf_20 ?_
    refine V.iconst 1 dX6_oddsOf_21 ?_
    refine V.icmp_ne (tgt := 39) rfl wr_1 dX6_oddsOf_22 (by decide) (fun hc => ?_) (fun hc => ?_)
    · rw [if_neg hc] at hF
      refine V.lconst 0 0 (by decide) dX6_oddsOf_39 ?_
      refine V.sub _ [0, 1, 3] rfl ?_
      exact v_X6_oddsOf_40 hd hF hC0 hX
    · rw [if_pos hc] at hF
      refine V.aload_n 0 0 0 rfl dX6_oddsOf_25 rfl ?_
      refine V.get (by decide) (hcX6 E _) rfl inX6 0 (by decide) rfl gw_875 dX6_oddsOf_26 ?_
      refine V.bipush 8 8 (by decide) dX6_oddsOf_29 ?_
      refine V.iload 4 3 dX6_oddsOf_31 rfl ?_
      refine V.iadd dX6_oddsOf_33 ?_
      replace hF := Option.bind_eq_some_iff.mp hF
      obtain ⟨v1, hv1, hF⟩ := hF
      refine V.iald ar_47 hv1 dX6_oddsOf_34 ?_
      refine V.i2l dX6_oddsOf_35 ?_
      refine V.goto (tgt := 40) dX6_oddsOf_36 (by decide) ?_
      refine V.sub _ [0, 1, 3] rfl ?_
      exact v_X6_oddsOf_40 hd hF hC0 hX
theorem l_X6_oddsOf_5 {E : En} {d : Nat} {Q : Po} {n : Nat} {x1 : Int} {M : Mem} {k : Nat} {s : Int × Int} {z : Int}  (hd : 1 ≤ d) (hF : lp (fun s => f_X6_oddsOf_5 n x1 s.1 s.2 M) k s = some z) (hK : Q (some (vl z)) M) : V E mX6_oddsOf d 5 [(0, rf E 46), (1, vi x1), (2, vl s.1), (4, vi s.2)] [] M Q := by
  refine lp_ind (P := fun s => V E mX6_oddsOf d 5 [(0, rf E 46), (1, vi x1), (2, vl s.1), (4, vi s.2)] [] M Q) (z0 := z) ?_ k s hF
  intro s z' hF hc hx
  exact v_X6_oddsOf_5 hd hF (fun s' e => hc s' e) (fun z0 e => by rw [hx _ e]; exact hK)
def f_X6_oddsOf (n : Nat) (x1 : Int) (M : Mem) : Option (Int) :=
  lp (fun s => f_X6_oddsOf_5 n x1 s.1 s.2 M) n (0, 0)
set_option maxRecDepth 10000 in
theorem v_X6_oddsOf_0 {E : En} {d : Nat} {Q : Po} {n : Nat} {x1 : Int} {M : Mem} {z : Int}  (hd : 1 ≤ d) (hF : f_X6_oddsOf n x1 M = some z) (hK : Q (some (vl z)) M) : V E mX6_oddsOf d 0 [(0, rf E 46), (1, vi x1)] [] M Q := by
  unfold f_X6_oddsOf at hF
  refine V.lconst 0 0 (by decide) dX6_oddsOf_0 ?_
  refine V.lstore_n 2 2 [(2, vl 0), (0, rf E 46), (1, vi x1)] rfl dX6_oddsOf_1 (by decide) rfl ?_
  refine V.iconst 0 dX6_oddsOf_2 ?_
  refine V.istore 4 [(4, vi 0), (2, vl 0), (0, rf E 46), (1, vi x1)] dX6_oddsOf_3 (by decide) rfl ?_
  refine V.sub _ [2, 3, 1, 0] rfl ?_
  exact l_X6_oddsOf_5 hd hF hK
theorem c_X6_oddsOf {E : En} {d : Nat} {n : Nat} {x1 : Int} {M : Mem} {z : Int}  (hd : 1 ≤ d) (hF : f_X6_oddsOf n x1 M = some z) : Cn E mX6_oddsOf d [rf E 46, vi x1] M (fun v N => v = some (vl z) ∧ M = N) := by
  refine V.entry (by decide +kernel) (Nat.le_of_ble_eq_true rfl) ?_
  exact v_X6_oddsOf_0  hd hF ⟨rfl, rfl⟩
abbrev mX6_areSo : MI := (yX6_areSo, cX6_areSo, 6, (some .int))
theorem okX6_areSo : OKV mX6_areSo 3 := ⟨gw_1177, gw_47, gw_64, gw_1178, (by decide +kernel), (by decide)⟩
def f_X6_areSo_50 (n : Nat) (x1 : Int) (x2 : Int) (x3 : Int) (x5 : Int) (s0 : Int) (s1 : Int) (M : Mem) : Option ((Int × Int) ⊕ (Int)) :=
  some (.inl (bOr s1 s0, x5 + 1))
set_option maxRecDepth 10000 in
theorem v_X6_areSo_50 {E : En} {d : Nat} {Q : Po} {n : Nat} {x1 : Int} {x2 : Int} {x3 : Int} {x5 : Int} {s0 : Int} {s1 : Int} {M : Mem} {z : (Int × Int) ⊕ (Int)}  (hd : 1 ≤ d) (hF : f_X6_areSo_50 n x1 x2 x3 x5 s0 s1 M = some z) (hC0 : ∀ s' : Int × Int, z = (.inl s') → V E mX6_areSo d 6 [(0, rf E 46), (1, vi x1), (2, vi x2), (3, vi x3), (4, vi (s'.1)), (5, vi (s'.2))] [] M Q) (hX : ∀ z0 : Int, z = (.inr z0) → Q (some (vi z0)) M) : V E mX6_areSo d 50 [(0, rf E 46), (1, vi x1), (2, vi x2), (3, vi x3), (5, vi x5)] [vi s0, vi s1] M Q := by
  unfold f_X6_areSo_50 at hF
  refine V.ior dX6_areSo_50 ?_
  refine V.istore 4 [(4, vi (bOr s1 s0)), (0, rf E 46), (1, vi x1), (2, vi x2), (3, vi x3), (5, vi x5)] dX6_areSo_51 (by decide) rfl ?_
  refine V.iinc 5 5 1 [(5, vi (x5 + 1)), (4, vi (bOr s1 s0)), (0, rf E 46), (1, vi x1), (2, vi x2), (3, vi x3)] dX6_areSo_53 rfl (by decide) rfl ?_
  refine V.goto (tgt := 6) dX6_areSo_56 (by decide) ?_
  cases Option.some.inj hF
  refine V.sub _ [2, 3, 4, 5, 1, 0] rfl ?_
  exact hC0 _ rfl
def f_X6_areSo_49 (n : Nat) (x1 : Int) (x2 : Int) (x3 : Int) (x5 : Int) (s0 : Int) (M : Mem) : Option ((Int × Int) ⊕ (Int)) :=
  f_X6_areSo_50 n x1 x2 x3 x5 0 s0 M
set_option maxRecDepth 10000 in
theorem v_X6_areSo_49 {E : En} {d : Nat} {Q : Po} {n : Nat} {x1 : Int} {x2 : Int} {x3 : Int} {x5 : Int} {s0 : Int} {M : Mem} {z : (Int × Int) ⊕ (Int)}  (hd : 1 ≤ d) (hF : f_X6_areSo_49 n x1 x2 x3 x5 s0 M = some z) (hC0 : ∀ s' : Int × Int, z = (.inl s') → V E mX6_areSo d 6 [(0, rf E 46), (1, vi x1), (2, vi x2), (3, vi x3), (4, vi (s'.1)), (5, vi (s'.2))] [] M Q) (hX : ∀ z0 : Int, z = (.inr z0) → Q (some (vi z0)) M) : V E mX6_areSo d 49 [(0, rf E 46), (1, vi x1), (2, vi x2), (3, vi x3), (5, vi x5)] [vi s0] M Q := by
  unfold f_X6_areSo_49 at hF
  refine V.iconst 0 dX6_areSo_49 ?_
  exact v_X6_areSo_50 hd hF hC0 hX
def f_X6_areSo_6 (n : Nat) (x1 : Int) (x2 : Int) (x3 : Int) (x4 : Int) (x5 : Int) (M : Mem) : Option ((Int × Int) ⊕ (Int)) :=
  if wr (M 46 3) ≤ wr x5 then
    some (.inr x4)
  else
    if wr (bAnd (bShr x1 x5) 1) = 1 then
      (rd M 48 4 x5).bind fun v1 =>
      if wr (bAnd (bShr v1 x2) 1) = wr x3 then
        f_X6_areSo_50 n x1 x2 x3 x5 (bShl 1 x5) x4 M
      else
        f_X6_areSo_49 n x1 x2 x3 x5 x4 M
    else
      f_X6_areSo_49 n x1 x2 x3 x5 x4 M
set_option maxRecDepth 10000 in
theorem v_X6_areSo_6 {E : En} {d : Nat} {Q : Po} {n : Nat} {x1 : Int} {x2 : Int} {x3 : Int} {x4 : Int} {x5 : Int} {M : Mem} {z : (Int × Int) ⊕ (Int)}  (hd : 1 ≤ d) (hF : f_X6_areSo_6 n x1 x2 x3 x4 x5 M = some z) (hC0 : ∀ s' : Int × Int, z = (.inl s') → V E mX6_areSo d 6 [(0, rf E 46), (1, vi x1), (2, vi x2), (3, vi x3), (4, vi (s'.1)), (5, vi (s'.2))] [] M Q) (hX : ∀ z0 : Int, z = (.inr z0) → Q (some (vi z0)) M) : V E mX6_areSo d 6 [(0, rf E 46), (1, vi x1), (2, vi x2), (3, vi x3), (4, vi x4), (5, vi x5)] [] M Q := by
  unfold f_X6_areSo_6 at hF
  refine V.iload 5 5 dX6_areSo_6 rfl ?_
  refine V.aload_n 0 0 0 rfl dX6_areSo_8 rfl ?_
  refine V.get (by decide) (hcX6 E _) rfl inX6 3 (by decide) rfl gw_878 dX6_areSo_9 ?_
  refine V.icmp_ge (tgt := 59) rfl rfl dX6_areSo_12 (by decide) (fun hc => ?_) (fun hc => ?_)
  · rw [if_pos hc] at hF
    refine V.iload 4 4 dX6_areSo_59 rfl ?_
    cases Option.some.inj hF
    exact V.iret rfl dX6_areSo_61 (hX _ rfl)
  · rw [if_neg hc] at hF
    refine V.iload 4 4 dX6_areSo_15 rfl ?_
    refine V.iload_n 1 1 1 rfl dX6_areSo_17 rfl ?_
    refine V.iload 5 5 dX6_areSo_18 rfl ?_
    refine V.ishr dX6_areSo_20 ?_
    refine V.iconst 1 dX6_areSo_21 ?_
    refine V.iand dX6_areSo_22 ?_
    refine V.iconst 1 dX6_areSo_23 ?_
    refine V.icmp_ne (tgt := 49) rfl wr_1 dX6_areSo_24 (by decide) (fun hc => ?_) (fun hc => ?_)
    · rw [if_neg hc] at hF
      refine V.sub _ [0, 1, 2, 3, 5] rfl ?_
      exact v_X6_areSo_49 hd hF hC0 hX
    · rw [if_pos hc] at hF
      refine V.aload_n 0 0 0 rfl dX6_areSo_27 rfl ?_
      refine V.get (by decide) (hcX6 E _) rfl inX6 2 (by decide) rfl gw_877 dX6_areSo_28 ?_
      refine V.iload 5 5 dX6_areSo_31 rfl ?_
      replace hF := Option.bind_eq_some_iff.mp hF
      obtain ⟨v1, hv1, hF⟩ := hF
      refine V.iald ar_48 hv1 dX6_areSo_33 ?_
      refine V.iload_n 2 2 2 rfl dX6_areSo_34 rfl ?_
      refine V.ishr dX6_areSo_35 ?_
      refine V.iconst 1 dX6_areSo_36 ?_
      refine V.iand dX6_areSo_37 ?_
      refine V.iload_n 3 3 3 rfl dX6_areSo_38 rfl ?_
      refine V.icmp_ne (tgt := 49) rfl rfl dX6_areSo_39 (by decide) (fun hc => ?_) (fun hc => ?_)
      · rw [if_neg hc] at hF
        refine V.sub _ [0, 1, 2, 3, 5] rfl ?_
        exact v_X6_areSo_49 hd hF hC0 hX
      · rw [if_pos hc] at hF
        refine V.iconst 1 dX6_areSo_42 ?_
        refine V.iload 5 5 dX6_areSo_43 rfl ?_
        refine V.ishl dX6_areSo_45 ?_
        refine V.goto (tgt := 50) dX6_areSo_46 (by decide) ?_
        refine V.sub _ [0, 1, 2, 3, 5] rfl ?_
        exact v_X6_areSo_50 hd hF hC0 hX
theorem l_X6_areSo_6 {E : En} {d : Nat} {Q : Po} {n : Nat} {x1 : Int} {x2 : Int} {x3 : Int} {M : Mem} {k : Nat} {s : Int × Int} {z : Int}  (hd : 1 ≤ d) (hF : lp (fun s => f_X6_areSo_6 n x1 x2 x3 s.1 s.2 M) k s = some z) (hK : Q (some (vi z)) M) : V E mX6_areSo d 6 [(0, rf E 46), (1, vi x1), (2, vi x2), (3, vi x3), (4, vi s.1), (5, vi s.2)] [] M Q := by
  refine lp_ind (P := fun s => V E mX6_areSo d 6 [(0, rf E 46), (1, vi x1), (2, vi x2), (3, vi x3), (4, vi s.1), (5, vi s.2)] [] M Q) (z0 := z) ?_ k s hF
  intro s z' hF hc hx
  exact v_X6_areSo_6 hd hF (fun s' e => hc s' e) (fun z0 e => by rw [hx _ e]; exact hK)
def f_X6_areSo (n : Nat) (x1 : Int) (x2 : Int) (x3 : Int) (M : Mem) : Option (Int) :=
  lp (fun s => f_X6_areSo_6 n x1 x2 x3 s.1 s.2 M) n (0, 0)
set_option maxRecDepth 10000 in
theorem v_X6_areSo_0 {E : En} {d : Nat} {Q : Po} {n : Nat} {x1 : Int} {x2 : Int} {x3 : Int} {M : Mem} {z : Int}  (hd : 1 ≤ d) (hF : f_X6_areSo n x1 x2 x3 M = some z) (hK : Q (some (vi z)) M) : V E mX6_areSo d 0 [(0, rf E 46), (1, vi x1), (2, vi x2), (3, vi x3)] [] M Q := by
  unfold f_X6_areSo at hF
  refine V.iconst 0 dX6_areSo_0 ?_
  refine V.istore 4 [(4, vi 0), (0, rf E 46), (1, vi x1), (2, vi x2), (3, vi x3)] dX6_areSo_1 (by decide) rfl ?_
  refine V.iconst 0 dX6_areSo_3 ?_
  refine V.istore 5 [(5, vi 0), (4, vi 0), (0, rf E 46), (1, vi x1), (2, vi x2), (3, vi x3)] dX6_areSo_4 (by decide) rfl ?_
  refine V.sub _ [2, 3, 4, 5, 1, 0] rfl ?_
  exact l_X6_areSo_6 hd hF hK
theorem c_X6_areSo {E : En} {d : Nat} {n : Nat} {x1 : Int} {x2 : Int} {x3 : Int} {M : Mem} {z : Int}  (hd : 1 ≤ d) (hF : f_X6_areSo n x1 x2 x3 M = some z) : Cn E mX6_areSo d [rf E 46, vi x1, vi x2, vi x3] M (fun v N => v = some (vi z) ∧ M = N) := by
  refine V.entry (by decide +kernel) (Nat.le_of_ble_eq_true rfl) ?_
  exact v_X6_areSo_0  hd hF ⟨rfl, rfl⟩
abbrev mX6_fat : MI := (yX6_fat, cX6_fat, 4, (some .long))
theorem okX6_fat : OKV mX6_fat 2 := ⟨gw_1169, gw_1170, gw_64, gw_1171, (by decide +kernel), (by decide)⟩
def f_X6_fat_22 (n : Nat) (M : Mem) : Option (Int) :=
  some (-1)
set_option maxRecDepth 10000 in
theorem v_X6_fat_22 {E : En} {d : Nat} {Q : Po} {n : Nat} {M : Mem} {z : Int}  (hd : 3 ≤ d) (hF : f_X6_fat_22 n M = some z) (hK : Q (some (vl z)) M) : V E mX6_fat d 22 [] [] M Q := by
  unfold f_X6_fat_22 at hF
  refine V.ldc2 216 (-1) (-1) (by decide) gw_1173 dX6_fat_22 ?_
  cases Option.some.inj hF
  exact V.lret rfl dX6_fat_25 hK
def f_X6_fat (n : Nat) (x1 : Int) (x2 : Int) (M : Mem) : Option (Int) :=
  (f_X6_in (wr x1) 0 7 M).bind fun v1 =>
  if wr v1 = 0 then
    f_X6_fat_22 n M
  else
    (f_X6_in (wr x2) 0 1 M).bind fun v2 =>
    if wr v2 = 0 then
      f_X6_fat_22 n M
    else
      (f_X6_canNow n M).bind fun v3 =>
      if wr v3 = 0 then
        some (-2)
      else
        (f_X6_areSo n v3 x1 1 M).bind fun v4 =>
        (f_X6_oddsOf n v4 M).bind fun v5 =>
        (f_X6_oddsOf n v3 M).bind fun v6 =>
        (f_X6_lowest n v5 v6 x2 M).bind fun v7 =>
        some v7
set_option maxRecDepth 10000 in
theorem v_X6_fat_0 {E : En} {d : Nat} {Q : Po} {n : Nat} {x1 : Int} {x2 : Int} {M : Mem} {z : Int}  (hd : 3 ≤ d) (hF : f_X6_fat n x1 x2 M = some z) (hK : Q (some (vl z)) M) : V E mX6_fat d 0 [(0, rf E 46), (1, vi x1), (2, vi x2)] [] M Q := by
  unfold f_X6_fat at hF
  refine V.iload_n 1 1 1 rfl dX6_fat_0 rfl ?_
  refine V.i2l dX6_fat_1 ?_
  refine V.lconst 0 0 (by decide) dX6_fat_2 ?_
  refine V.ldc2 214 7 7 (by decide) gw_1172 dX6_fat_3 ?_
  replace hF := Option.bind_eq_some_iff.mp hF
  obtain ⟨v1, hv1, hF⟩ := hF
  refine V.callS (d' := d - 1) [vl (wr x1), vl 0, vl 7] [] (c_X6_in (by omega) hv1) okX6_in gw_966 rfl rfl (Nat.le_of_ble_eq_true rfl) (by omega) dX6_fat_6 ?_
  rintro _ _ ⟨rfl, rfl⟩
  show V E mX6_fat d 9 [(0, rf E 46), (1, vi x1), (2, vi x2)] [vi v1] M _
  refine V.if_eq (tgt := 22) rfl dX6_fat_9 (by decide) (fun hc => ?_) (fun hc => ?_)
  · rw [if_pos hc] at hF
    refine V.sub _ [] rfl ?_
    exact v_X6_fat_22 hd hF hK
  · rw [if_neg hc] at hF
    refine V.iload_n 2 2 2 rfl dX6_fat_12 rfl ?_
    refine V.i2l dX6_fat_13 ?_
    refine V.lconst 0 0 (by decide) dX6_fat_14 ?_
    refine V.lconst 1 1 (by decide) dX6_fat_15 ?_
    replace hF := Option.bind_eq_some_iff.mp hF
    obtain ⟨v2, hv2, hF⟩ := hF
    refine V.callS (d' := d - 1) [vl (wr x2), vl 0, vl 1] [] (c_X6_in (by omega) hv2) okX6_in gw_966 rfl rfl (Nat.le_of_ble_eq_true rfl) (by omega) dX6_fat_16 ?_
    rintro _ _ ⟨rfl, rfl⟩
    show V E mX6_fat d 19 [(0, rf E 46), (1, vi x1), (2, vi x2)] [vi v2] M _
    refine V.if_ne (tgt := 26) rfl dX6_fat_19 (by decide) (fun hc => ?_) (fun hc => ?_)
    · rw [if_neg hc] at hF
      refine V.aload_n 0 0 0 rfl dX6_fat_26 rfl ?_
      replace hF := Option.bind_eq_some_iff.mp hF
      obtain ⟨v3, hv3, hF⟩ := hF
      refine V.callV (d' := d - 1) [] [] (c_X6_canNow (by omega) hv3) okX6_canNow gw_1164 rfl rfl (by decide) (hcX6 E _) rfl (Nat.le_of_ble_eq_true rfl) (by omega) dX6_fat_27 ?_
      rintro _ _ ⟨rfl, rfl⟩
      show V E mX6_fat d 30 [(0, rf E 46), (1, vi x1), (2, vi x2)] [vi v3] M _
      refine V.istore_n 3 3 [(3, vi v3), (0, rf E 46), (1, vi x1), (2, vi x2)] rfl dX6_fat_30 (by decide) rfl ?_
      refine V.iload_n 3 3 0 rfl dX6_fat_31 rfl ?_
      refine V.if_ne (tgt := 41) rfl dX6_fat_32 (by decide) (fun hc => ?_) (fun hc => ?_)
      · rw [if_neg hc] at hF
        refine V.aload_n 0 0 1 rfl dX6_fat_41 rfl ?_
        refine V.aload_n 0 0 1 rfl dX6_fat_42 rfl ?_
        refine V.iload_n 3 3 0 rfl dX6_fat_43 rfl ?_
        refine V.iload_n 1 1 2 rfl dX6_fat_44 rfl ?_
        refine V.iconst 1 dX6_fat_45 ?_
        replace hF := Option.bind_eq_some_iff.mp hF
        obtain ⟨v4, hv4, hF⟩ := hF
        refine V.callV (d' := d - 1) [vi v3, vi x1, vi 1] [rf E 46] (c_X6_areSo (by omega) hv4) okX6_areSo gw_1175 rfl rfl (by decide) (hcX6 E _) rfl (Nat.le_of_ble_eq_true rfl) (by omega) dX6_fat_46 ?_
        rintro _ _ ⟨rfl, rfl⟩
        show V E mX6_fat d 49 [(3, vi v3), (0, rf E 46), (1, vi x1), (2, vi x2)] [vi v4, rf E 46] M _
        replace hF := Option.bind_eq_some_iff.mp hF
        obtain ⟨v5, hv5, hF⟩ := hF
        refine V.callV (d' := d - 1) [vi v4] [] (c_X6_oddsOf (by omega) hv5) okX6_oddsOf gw_1179 rfl rfl (by decide) (hcX6 E _) rfl (Nat.le_of_ble_eq_true rfl) (by omega) dX6_fat_49 ?_
        rintro _ _ ⟨rfl, rfl⟩
        show V E mX6_fat d 52 [(3, vi v3), (0, rf E 46), (1, vi x1), (2, vi x2)] [vl v5] M _
        refine V.aload_n 0 0 1 rfl dX6_fat_52 rfl ?_
        refine V.iload_n 3 3 0 rfl dX6_fat_53 rfl ?_
        replace hF := Option.bind_eq_some_iff.mp hF
        obtain ⟨v6, hv6, hF⟩ := hF
        refine V.callV (d' := d - 1) [vi v3] [vl v5] (c_X6_oddsOf (by omega) hv6) okX6_oddsOf gw_1179 rfl rfl (by decide) (hcX6 E _) rfl (Nat.le_of_ble_eq_true rfl) (by omega) dX6_fat_54 ?_
        rintro _ _ ⟨rfl, rfl⟩
        show V E mX6_fat d 57 [(3, vi v3), (0, rf E 46), (1, vi x1), (2, vi x2)] [vl v6, vl v5] M _
        refine V.iload_n 2 2 3 rfl dX6_fat_57 rfl ?_
        replace hF := Option.bind_eq_some_iff.mp hF
        obtain ⟨v7, hv7, hF⟩ := hF
        refine V.callS (d' := d - 1) [vl v5, vl v6, vi x2] [] (c_X6_lowest (by omega) hv7) okX6_lowest gw_1183 rfl rfl (Nat.le_of_ble_eq_true rfl) (by omega) dX6_fat_58 ?_
        rintro _ _ ⟨rfl, rfl⟩
        show V E mX6_fat d 61 [(3, vi v3), (0, rf E 46), (1, vi x1), (2, vi x2)] [vl v7] M _
        cases Option.some.inj hF
        exact V.lret rfl dX6_fat_61 hK
      · rw [if_pos hc] at hF
        refine V.ldc2 218 (-2) (-2) (by decide) gw_1174 dX6_fat_35 ?_
        refine V.goto (tgt := 61) dX6_fat_38 (by decide) ?_
        cases Option.some.inj hF
        exact V.lret rfl dX6_fat_61 hK
    · rw [if_pos hc] at hF
      refine V.sub _ [] rfl ?_
      exact v_X6_fat_22 hd hF hK
theorem c_X6_fat {E : En} {d : Nat} {n : Nat} {x1 : Int} {x2 : Int} {M : Mem} {z : Int}  (hd : 3 ≤ d) (hF : f_X6_fat n x1 x2 M = some z) : Cn E mX6_fat d [rf E 46, vi x1, vi x2] M (fun v N => v = some (vl z) ∧ M = N) := by
  refine V.entry (by decide +kernel) (Nat.le_of_ble_eq_true rfl) ?_
  exact v_X6_fat_0  hd hF ⟨rfl, rfl⟩
abbrev mX6_at : MI := (yX6_at, cX6_at, 3, (some .int))
theorem okX6_at : OKS mX6_at 3 := ⟨gw_1203, gw_64, gw_1204, (by decide +kernel), (by decide)⟩
def f_X6_at (x0 : Int) (x1 : Int) (x2 : Int) (M : Mem) : Option (Int) :=
  some (((656 * x0) + (41 * x1)) + x2)
set_option maxRecDepth 10000 in
theorem v_X6_at_0 {E : En} {d : Nat} {Q : Po} {x0 : Int} {x1 : Int} {x2 : Int} {M : Mem} {z : Int}  (hd : 1 ≤ d) (hF : f_X6_at x0 x1 x2 M = some z) (hK : Q (some (vi z)) M) : V E mX6_at d 0 [(0, vi x0), (1, vi x1), (2, vi x2)] [] M Q := by
  unfold f_X6_at at hF
  refine V.sipush 656 656 (by decide) dX6_at_0 ?_
  refine V.iload_n 0 0 0 rfl dX6_at_3 rfl ?_
  refine V.imul dX6_at_4 ?_
  refine V.bipush 41 41 (by decide) dX6_at_5 ?_
  refine V.iload_n 1 1 1 rfl dX6_at_7 rfl ?_
  refine V.imul dX6_at_8 ?_
  refine V.iadd dX6_at_9 ?_
  refine V.iload_n 2 2 2 rfl dX6_at_10 rfl ?_
  refine V.iadd dX6_at_11 ?_
  cases Option.some.inj hF
  exact V.iret rfl dX6_at_12 hK
theorem c_X6_at {E : En} {d : Nat} {x0 : Int} {x1 : Int} {x2 : Int} {M : Mem} {z : Int}  (hd : 1 ≤ d) (hF : f_X6_at x0 x1 x2 M = some z) : Cn E mX6_at d [vi x0, vi x1, vi x2] M (fun v N => v = some (vi z) ∧ M = N) := by
  refine V.entry (by decide +kernel) (Nat.le_of_ble_eq_true rfl) ?_
  exact v_X6_at_0  hd hF ⟨rfl, rfl⟩
abbrev mX6_byKept : MI := (yX6_byKept, cX6_byKept, 13, (some .long))
theorem okX6_byKept : OKV mX6_byKept 6 := ⟨gw_1211, gw_53, gw_64, gw_1212, (by decide +kernel), (by decide)⟩
def f_X6_byKept_55 (n : Nat) (x2 : Int) (x3 : Int) (x5 : Int) (x6 : Int) (x9 : Int) (s0 : Int) (M : Mem) : Option (Int) :=
  (rd M 47 125 (17 + x5)).bind fun v1 =>
  (some (wr (((s0 - x6) * (v1 + 1)) - (x9 * (M 47 13))))).bind fun v2 =>
  (f_X6_oddsOf n x3 M).bind fun v3 =>
  (f_X6_rotted x6 (M 47 15) M).bind fun v4 =>
  (f_X6_at (x2 - 1) x3 v4 M).bind fun v5 =>
  (rd M 54 3936 v5).bind fun v6 =>
  some ((v3 * v2) + v6)
set_option maxRecDepth 10000 in
theorem v_X6_byKept_55 {E : En} {d : Nat} {Q : Po} {n : Nat} {x2 : Int} {x3 : Int} {x5 : Int} {x6 : Int} {x9 : Int} {s0 : Int} {M : Mem} {z : Int}  (hd : 2 ≤ d) (hF : f_X6_byKept_55 n x2 x3 x5 x6 x9 s0 M = some z) (hK : Q (some (vl z)) M) : V E mX6_byKept d 55 [(0, rf E 46), (2, vi x2), (3, vi x3), (5, vi x5), (6, vi x6), (9, vi x9)] [vi s0] M Q := by
  unfold f_X6_byKept_55 at hF
  refine V.istore 10 [(10, vi s0), (0, rf E 46), (2, vi x2), (3, vi x3), (5, vi x5), (6, vi x6), (9, vi x9)] dX6_byKept_55 (by decide) rfl ?_
  refine V.iload 10 0 dX6_byKept_57 rfl ?_
  refine V.iload 6 5 dX6_byKept_59 rfl ?_
  refine V.isub dX6_byKept_61 ?_
  refine V.aload_n 0 0 1 rfl dX6_byKept_62 rfl ?_
  refine V.get (by decide) (hcX6 E _) rfl inX6 0 (by decide) rfl gw_875 dX6_byKept_63 ?_
  refine V.bipush 17 17 (by decide) dX6_byKept_66 ?_
  refine V.iload 5 4 dX6_byKept_68 rfl ?_
  refine V.iadd dX6_byKept_70 ?_
  replace hF := Option.bind_eq_some_iff.mp hF
  obtain ⟨v1, hv1, hF⟩ := hF
  refine V.iald ar_47 hv1 dX6_byKept_71 ?_
  refine V.iconst 1 dX6_byKept_72 ?_
  refine V.iadd dX6_byKept_73 ?_
  refine V.imul dX6_byKept_74 ?_
  refine V.iload 9 6 dX6_byKept_75 rfl ?_
  refine V.aload_n 0 0 1 rfl dX6_byKept_77 rfl ?_
  refine V.get (by decide) (hcX6 E _) rfl inX6 0 (by decide) rfl gw_875 dX6_byKept_78 ?_
  refine V.bipush 13 13 (by decide) dX6_byKept_81 ?_
  refine V.iald ar_47 (rd_lit 13 13 wr_13 (by decide)) dX6_byKept_83 ?_
  refine V.imul dX6_byKept_84 ?_
  refine V.isub dX6_byKept_85 ?_
  refine V.i2l dX6_byKept_86 ?_
  replace hF := Option.bind_eq_some_iff.mp hF
  obtain ⟨v2, hv2, hF⟩ := hF
  refine V.nmL (Option.some.inj hv2) ?_
  refine V.lstore 11 [(11, vl v2), (10, vi s0), (0, rf E 46), (2, vi x2), (3, vi x3), (5, vi x5), (6, vi x6), (9, vi x9)] dX6_byKept_87 (by decide) rfl ?_
  refine V.aload_n 0 0 2 rfl dX6_byKept_89 rfl ?_
  refine V.iload_n 3 3 4 rfl dX6_byKept_90 rfl ?_
  replace hF := Option.bind_eq_some_iff.mp hF
  obtain ⟨v3, hv3, hF⟩ := hF
  refine V.callV (d' := d - 1) [vi x3] [] (c_X6_oddsOf (by omega) hv3) okX6_oddsOf gw_1179 rfl rfl (by decide) (hcX6 E _) rfl (Nat.le_of_ble_eq_true rfl) (by omega) dX6_byKept_91 ?_
  rintro _ _ ⟨rfl, rfl⟩
  show V E mX6_byKept d 94 [(11, vl v2), (10, vi s0), (0, rf E 46), (2, vi x2), (3, vi x3), (5, vi x5), (6, vi x6), (9, vi x9)] [vl v3] M _
  refine V.lload 11 0 dX6_byKept_94 rfl ?_
  refine V.lmul dX6_byKept_96 ?_
  refine V.aload_n 0 0 2 rfl dX6_byKept_97 rfl ?_
  refine V.get (by decide) (hcX6 E _) rfl inX6 20 (by decide) rfl gw_895 dX6_byKept_98 ?_
  refine V.iload_n 2 2 3 rfl dX6_byKept_101 rfl ?_
  refine V.iconst 1 dX6_byKept_102 ?_
  refine V.isub dX6_byKept_103 ?_
  refine V.iload_n 3 3 4 rfl dX6_byKept_104 rfl ?_
  refine V.iload 6 6 dX6_byKept_105 rfl ?_
  refine V.aload_n 0 0 2 rfl dX6_byKept_107 rfl ?_
  refine V.get (by decide) (hcX6 E _) rfl inX6 0 (by decide) rfl gw_875 dX6_byKept_108 ?_
  refine V.bipush 15 15 (by decide) dX6_byKept_111 ?_
  refine V.iald ar_47 (rd_lit 15 15 wr_15 (by decide)) dX6_byKept_113 ?_
  replace hF := Option.bind_eq_some_iff.mp hF
  obtain ⟨v4, hv4, hF⟩ := hF
  refine V.callS (d' := d - 1) [vi x6, vi (M 47 15)] [vi x3, vi (x2 - 1), rf E 54, vl (v3 * v2)] (c_X6_rotted (by omega) hv4) okX6_rotted gw_1122 rfl rfl (Nat.le_of_ble_eq_true rfl) (by omega) dX6_byKept_114 ?_
  rintro _ _ ⟨rfl, rfl⟩
  show V E mX6_byKept d 117 [(11, vl v2), (10, vi s0), (0, rf E 46), (2, vi x2), (3, vi x3), (5, vi x5), (6, vi x6), (9, vi x9)] [vi v4, vi x3, vi (x2 - 1), rf E 54, vl (v3 * v2)] M _
  replace hF := Option.bind_eq_some_iff.mp hF
  obtain ⟨v5, hv5, hF⟩ := hF
  refine V.callS (d' := d - 1) [vi (x2 - 1), vi x3, vi v4] [rf E 54, vl (v3 * v2)] (c_X6_at (by omega) hv5) okX6_at gw_1202 rfl rfl (Nat.le_of_ble_eq_true rfl) (by omega) dX6_byKept_117 ?_
  rintro _ _ ⟨rfl, rfl⟩
  show V E mX6_byKept d 120 [(11, vl v2), (10, vi s0), (0, rf E 46), (2, vi x2), (3, vi x3), (5, vi x5), (6, vi x6), (9, vi x9)] [vi v5, rf E 54, vl (v3 * v2)] M _
  replace hF := Option.bind_eq_some_iff.mp hF
  obtain ⟨v6, hv6, hF⟩ := hF
  refine V.lald ar_54 hv6 dX6_byKept_120 ?_
  refine V.ladd dX6_byKept_121 ?_
  cases Option.some.inj hF
  exact V.lret rfl dX6_byKept_122 hK
def f_X6_byKept_37 (n : Nat) (x2 : Int) (x3 : Int) (x5 : Int) (x6 : Int) (x7 : Int) (x8 : Int) (s0 : Int) (M : Mem) : Option (Int) :=
  if wr x7 ≤ wr x8 then
    f_X6_byKept_55 n x2 x3 x5 x6 s0 0 M
  else
    f_X6_byKept_55 n x2 x3 x5 x6 s0 (x7 - x8) M
set_option maxRecDepth 10000 in
theorem v_X6_byKept_37 {E : En} {d : Nat} {Q : Po} {n : Nat} {x2 : Int} {x3 : Int} {x5 : Int} {x6 : Int} {x7 : Int} {x8 : Int} {s0 : Int} {M : Mem} {z : Int}  (hd : 2 ≤ d) (hF : f_X6_byKept_37 n x2 x3 x5 x6 x7 x8 s0 M = some z) (hK : Q (some (vl z)) M) : V E mX6_byKept d 37 [(0, rf E 46), (2, vi x2), (3, vi x3), (5, vi x5), (6, vi x6), (7, vi x7), (8, vi x8)] [vi s0] M Q := by
  unfold f_X6_byKept_37 at hF
  refine V.istore 9 [(9, vi s0), (0, rf E 46), (2, vi x2), (3, vi x3), (5, vi x5), (6, vi x6), (7, vi x7), (8, vi x8)] dX6_byKept_37 (by decide) rfl ?_
  refine V.iload 7 6 dX6_byKept_39 rfl ?_
  refine V.iload 8 7 dX6_byKept_41 rfl ?_
  refine V.icmp_le (tgt := 54) rfl rfl dX6_byKept_43 (by decide) (fun hc => ?_) (fun hc => ?_)
  · rw [if_pos hc] at hF
    refine V.iconst 0 dX6_byKept_54 ?_
    refine V.sub _ [1, 2, 3, 4, 5, 0] rfl ?_
    exact v_X6_byKept_55 hd hF hK
  · rw [if_neg hc] at hF
    refine V.iload 7 6 dX6_byKept_46 rfl ?_
    refine V.iload 8 7 dX6_byKept_48 rfl ?_
    refine V.isub dX6_byKept_50 ?_
    refine V.goto (tgt := 55) dX6_byKept_51 (by decide) ?_
    refine V.sub _ [1, 2, 3, 4, 5, 0] rfl ?_
    exact v_X6_byKept_55 hd hF hK
def f_X6_byKept (n : Nat) (x1 : Int) (x2 : Int) (x3 : Int) (x4 : Int) (x5 : Int) (x6 : Int) (M : Mem) : Option (Int) :=
  (f_X6_bearsOn n 0 x5 M).bind fun v1 =>
  if wr (M 47 12) ≤ wr (x4 + v1) then
    f_X6_byKept_37 n x2 x3 x5 x6 (x4 + v1) (M 47 12) 0 M
  else
    f_X6_byKept_37 n x2 x3 x5 x6 (x4 + v1) (M 47 12) ((M 47 12) - (x4 + v1)) M
set_option maxRecDepth 10000 in
theorem v_X6_byKept_0 {E : En} {d : Nat} {Q : Po} {n : Nat} {x1 : Int} {x2 : Int} {x3 : Int} {x4 : Int} {x5 : Int} {x6 : Int} {M : Mem} {z : Int}  (hd : 2 ≤ d) (hF : f_X6_byKept n x1 x2 x3 x4 x5 x6 M = some z) (hK : Q (some (vl z)) M) : V E mX6_byKept d 0 [(0, rf E 46), (1, vi x1), (2, vi x2), (3, vi x3), (4, vi x4), (5, vi x5), (6, vi x6)] [] M Q := by
  unfold f_X6_byKept at hF
  refine V.iload 4 4 dX6_byKept_0 rfl ?_
  refine V.aload_n 0 0 0 rfl dX6_byKept_2 rfl ?_
  refine V.iconst 0 dX6_byKept_3 ?_
  refine V.iload 5 5 dX6_byKept_4 rfl ?_
  replace hF := Option.bind_eq_some_iff.mp hF
  obtain ⟨v1, hv1, hF⟩ := hF
  refine V.callV (d' := d - 1) [vi 0, vi x5] [vi x4] (c_X6_bearsOn (by omega) hv1) okX6_bearsOn gw_1059 rfl rfl (by decide) (hcX6 E _) rfl (Nat.le_of_ble_eq_true rfl) (by omega) dX6_byKept_6 ?_
  rintro _ _ ⟨rfl, rfl⟩
  show V E mX6_byKept d 9 [(0, rf E 46), (1, vi x1), (2, vi x2), (3, vi x3), (4, vi x4), (5, vi x5), (6, vi x6)] [vi v1, vi x4] M _
  refine V.iadd dX6_byKept_9 ?_
  refine V.istore 7 [(7, vi (x4 + v1)), (0, rf E 46), (1, vi x1), (2, vi x2), (3, vi x3), (4, vi x4), (5, vi x5), (6, vi x6)] dX6_byKept_10 (by decide) rfl ?_
  refine V.aload_n 0 0 1 rfl dX6_byKept_12 rfl ?_
  refine V.get (by decide) (hcX6 E _) rfl inX6 0 (by decide) rfl gw_875 dX6_byKept_13 ?_
  refine V.bipush 12 12 (by decide) dX6_byKept_16 ?_
  refine V.iald ar_47 (rd_lit 12 12 wr_12 (by decide)) dX6_byKept_18 ?_
  refine V.istore 8 [(8, vi (M 47 12)), (7, vi (x4 + v1)), (0, rf E 46), (1, vi x1), (2, vi x2), (3, vi x3), (4, vi x4), (5, vi x5), (6, vi x6)] dX6_byKept_19 (by decide) rfl ?_
  refine V.iload 7 1 dX6_byKept_21 rfl ?_
  refine V.iload 8 0 dX6_byKept_23 rfl ?_
  refine V.icmp_ge (tgt := 36) rfl rfl dX6_byKept_25 (by decide) (fun hc => ?_) (fun hc => ?_)
  · rw [if_pos hc] at hF
    refine V.iconst 0 dX6_byKept_36 ?_
    refine V.sub _ [2, 4, 5, 7, 8, 1, 0] rfl ?_
    exact v_X6_byKept_37 hd hF hK
  · rw [if_neg hc] at hF
    refine V.iload 8 0 dX6_byKept_28 rfl ?_
    refine V.iload 7 1 dX6_byKept_30 rfl ?_
    refine V.isub dX6_byKept_32 ?_
    refine V.goto (tgt := 37) dX6_byKept_33 (by decide) ?_
    refine V.sub _ [2, 4, 5, 7, 8, 1, 0] rfl ?_
    exact v_X6_byKept_37 hd hF hK
theorem c_X6_byKept {E : En} {d : Nat} {n : Nat} {x1 : Int} {x2 : Int} {x3 : Int} {x4 : Int} {x5 : Int} {x6 : Int} {M : Mem} {z : Int}  (hd : 2 ≤ d) (hF : f_X6_byKept n x1 x2 x3 x4 x5 x6 M = some z) : Cn E mX6_byKept d [rf E 46, vi x1, vi x2, vi x3, vi x4, vi x5, vi x6] M (fun v N => v = some (vl z) ∧ M = N) := by
  refine V.entry (by decide +kernel) (Nat.le_of_ble_eq_true rfl) ?_
  exact v_X6_byKept_0  hd hF ⟨rfl, rfl⟩
abbrev mX6_mostKept : MI := (yX6_mostKept, cX6_mostKept, 5, (some .int))
theorem okX6_mostKept : OKV mX6_mostKept 2 := ⟨gw_1215, gw_54, gw_64, gw_1216, (by decide +kernel), (by decide)⟩
def f_X6_mostKept_33 (n : Nat) (s0 : Int) (M : Mem) : Option (Int) :=
  (f_X6_capOn 0 M).bind fun v1 =>
  if wr v1 ≤ wr s0 then
    (f_X6_capOn 0 M).bind fun v2 =>
    some v2
  else
    some s0
set_option maxRecDepth 10000 in
theorem v_X6_mostKept_33 {E : En} {d : Nat} {Q : Po} {n : Nat} {s0 : Int} {M : Mem} {z : Int}  (hd : 2 ≤ d) (hF : f_X6_mostKept_33 n s0 M = some z) (hK : Q (some (vi z)) M) : V E mX6_mostKept d 33 [(0, rf E 46)] [vi s0] M Q := by
  unfold f_X6_mostKept_33 at hF
  refine V.istore 4 [(4, vi s0), (0, rf E 46)] dX6_mostKept_33 (by decide) rfl ?_
  refine V.iload 4 0 dX6_mostKept_35 rfl ?_
  refine V.aload_n 0 0 1 rfl dX6_mostKept_37 rfl ?_
  refine V.iconst 0 dX6_mostKept_38 ?_
  replace hF := Option.bind_eq_some_iff.mp hF
  obtain ⟨v1, hv1, hF⟩ := hF
  refine V.callV (d' := d - 1) [vi 0] [vi s0] (c_X6_capOn (by omega) hv1) okX6_capOn gw_1022 rfl rfl (by decide) (hcX6 E _) rfl (Nat.le_of_ble_eq_true rfl) (by omega) dX6_mostKept_39 ?_
  rintro _ _ ⟨rfl, rfl⟩
  show V E mX6_mostKept d 42 [(4, vi s0), (0, rf E 46)] [vi v1, vi s0] M _
  refine V.icmp_ge (tgt := 50) rfl rfl dX6_mostKept_42 (by decide) (fun hc => ?_) (fun hc => ?_)
  · rw [if_pos hc] at hF
    refine V.aload_n 0 0 1 rfl dX6_mostKept_50 rfl ?_
    refine V.iconst 0 dX6_mostKept_51 ?_
    replace hF := Option.bind_eq_some_iff.mp hF
    obtain ⟨v2, hv2, hF⟩ := hF
    refine V.callV (d' := d - 1) [vi 0] [] (c_X6_capOn (by omega) hv2) okX6_capOn gw_1022 rfl rfl (by decide) (hcX6 E _) rfl (Nat.le_of_ble_eq_true rfl) (by omega) dX6_mostKept_52 ?_
    rintro _ _ ⟨rfl, rfl⟩
    show V E mX6_mostKept d 55 [(4, vi s0), (0, rf E 46)] [vi v2] M _
    cases Option.some.inj hF
    exact V.iret rfl dX6_mostKept_55 hK
  · rw [if_neg hc] at hF
    refine V.iload 4 0 dX6_mostKept_45 rfl ?_
    refine V.goto (tgt := 55) dX6_mostKept_47 (by decide) ?_
    cases Option.some.inj hF
    exact V.iret rfl dX6_mostKept_55 hK
def f_X6_mostKept (n : Nat) (x1 : Int) (x2 : Int) (M : Mem) : Option (Int) :=
  (f_X6_bearsOn n 0 x2 M).bind fun v1 =>
  if wr (x1 + v1) ≤ wr (M 47 12) then
    f_X6_mostKept_33 n 0 M
  else
    f_X6_mostKept_33 n ((x1 + v1) - (M 47 12)) M
set_option maxRecDepth 10000 in
theorem v_X6_mostKept_0 {E : En} {d : Nat} {Q : Po} {n : Nat} {x1 : Int} {x2 : Int} {M : Mem} {z : Int}  (hd : 2 ≤ d) (hF : f_X6_mostKept n x1 x2 M = some z) (hK : Q (some (vi z)) M) : V E mX6_mostKept d 0 [(0, rf E 46), (1, vi x1), (2, vi x2)] [] M Q := by
  unfold f_X6_mostKept at hF
  refine V.iload_n 1 1 1 rfl dX6_mostKept_0 rfl ?_
  refine V.aload_n 0 0 0 rfl dX6_mostKept_1 rfl ?_
  refine V.iconst 0 dX6_mostKept_2 ?_
  refine V.iload_n 2 2 2 rfl dX6_mostKept_3 rfl ?_
  replace hF := Option.bind_eq_some_iff.mp hF
  obtain ⟨v1, hv1, hF⟩ := hF
  refine V.callV (d' := d - 1) [vi 0, vi x2] [vi x1] (c_X6_bearsOn (by omega) hv1) okX6_bearsOn gw_1059 rfl rfl (by decide) (hcX6 E _) rfl (Nat.le_of_ble_eq_true rfl) (by omega) dX6_mostKept_4 ?_
  rintro _ _ ⟨rfl, rfl⟩
  show V E mX6_mostKept d 7 [(0, rf E 46), (1, vi x1), (2, vi x2)] [vi v1, vi x1] M _
  refine V.iadd dX6_mostKept_7 ?_
  refine V.istore_n 3 3 [(3, vi (x1 + v1)), (0, rf E 46), (1, vi x1), (2, vi x2)] rfl dX6_mostKept_8 (by decide) rfl ?_
  refine V.iload_n 3 3 0 rfl dX6_mostKept_9 rfl ?_
  refine V.aload_n 0 0 1 rfl dX6_mostKept_10 rfl ?_
  refine V.get (by decide) (hcX6 E _) rfl inX6 0 (by decide) rfl gw_875 dX6_mostKept_11 ?_
  refine V.bipush 12 12 (by decide) dX6_mostKept_14 ?_
  refine V.iald ar_47 (rd_lit 12 12 wr_12 (by decide)) dX6_mostKept_16 ?_
  refine V.icmp_le (tgt := 32) rfl rfl dX6_mostKept_17 (by decide) (fun hc => ?_) (fun hc => ?_)
  · rw [if_pos hc] at hF
    refine V.iconst 0 dX6_mostKept_32 ?_
    refine V.sub _ [1] rfl ?_
    exact v_X6_mostKept_33 hd hF hK
  · rw [if_neg hc] at hF
    refine V.iload_n 3 3 0 rfl dX6_mostKept_20 rfl ?_
    refine V.aload_n 0 0 1 rfl dX6_mostKept_21 rfl ?_
    refine V.get (by decide) (hcX6 E _) rfl inX6 0 (by decide) rfl gw_875 dX6_mostKept_22 ?_
    refine V.bipush 12 12 (by decide) dX6_mostKept_25 ?_
    refine V.iald ar_47 (rd_lit 12 12 wr_12 (by decide)) dX6_mostKept_27 ?_
    refine V.isub dX6_mostKept_28 ?_
    refine V.goto (tgt := 33) dX6_mostKept_29 (by decide) ?_
    refine V.sub _ [1] rfl ?_
    exact v_X6_mostKept_33 hd hF hK
theorem c_X6_mostKept {E : En} {d : Nat} {n : Nat} {x1 : Int} {x2 : Int} {M : Mem} {z : Int}  (hd : 2 ≤ d) (hF : f_X6_mostKept n x1 x2 M = some z) : Cn E mX6_mostKept d [rf E 46, vi x1, vi x2] M (fun v N => v = some (vi z) ∧ M = N) := by
  refine V.entry (by decide +kernel) (Nat.le_of_ble_eq_true rfl) ?_
  exact v_X6_mostKept_0  hd hF ⟨rfl, rfl⟩
abbrev mX6_bestSo : MI := (yX6_bestSo, cX6_bestSo, 12, (some .long))
theorem okX6_bestSo : OKV mX6_bestSo 5 := ⟨gw_1207, gw_52, gw_64, gw_1208, (by decide +kernel), (by decide)⟩
def f_X6_bestSo_79 (n : Nat) (x1 : Int) (x2 : Int) (x4 : Int) (x5 : Int) (x6 : Int) (x9 : Int) (s0 : Int) (M : Mem) : Option ((Int × Int) ⊕ (Int)) :=
  some (.inl (s0, x9 + 1))
set_option maxRecDepth 10000 in
theorem v_X6_bestSo_79 {E : En} {d : Nat} {Q : Po} {n : Nat} {x1 : Int} {x2 : Int} {x4 : Int} {x5 : Int} {x6 : Int} {x9 : Int} {s0 : Int} {M : Mem} {z : (Int × Int) ⊕ (Int)}  (hd : 3 ≤ d) (hF : f_X6_bestSo_79 n x1 x2 x4 x5 x6 x9 s0 M = some z) (hC0 : ∀ s' : Int × Int, z = (.inl s') → V E mX6_bestSo d 35 [(0, rf E 46), (1, vi x1), (2, vi x2), (4, vi x4), (5, vi x5), (6, vi x6), (7, vl (s'.1)), (9, vi (s'.2))] [] M Q) (hX : ∀ z0 : Int, z = (.inr z0) → Q (some (vl z0)) M) : V E mX6_bestSo d 79 [(0, rf E 46), (1, vi x1), (2, vi x2), (4, vi x4), (5, vi x5), (6, vi x6), (9, vi x9)] [vl s0] M Q := by
  unfold f_X6_bestSo_79 at hF
  refine V.lstore 7 [(7, vl s0), (0, rf E 46), (1, vi x1), (2, vi x2), (4, vi x4), (5, vi x5), (6, vi x6), (9, vi x9)] dX6_bestSo_79 (by decide) rfl ?_
  refine V.iinc 9 7 1 [(9, vi (x9 + 1)), (7, vl s0), (0, rf E 46), (1, vi x1), (2, vi x2), (4, vi x4), (5, vi x5), (6, vi x6)] dX6_bestSo_81 rfl (by decide) rfl ?_
  refine V.goto (tgt := 35) dX6_bestSo_84 (by decide) ?_
  cases Option.some.inj hF
  refine V.sub _ [2, 3, 4, 5, 6, 7, 1, 0] rfl ?_
  exact hC0 _ rfl
def f_X6_bestSo_35 (n : Nat) (x1 : Int) (x2 : Int) (x4 : Int) (x5 : Int) (x6 : Int) (x7 : Int) (x9 : Int) (M : Mem) : Option ((Int × Int) ⊕ (Int)) :=
  (f_X6_mostKept n x4 x5 M).bind fun v1 =>
  if wr v1 < wr x9 then
    some (.inr x7)
  else
    (f_X6_byKept n x1 x2 x6 x4 x5 x9 M).bind fun v2 =>
    if wl v2 ≤ wl x7 then
      f_X6_bestSo_79 n x1 x2 x4 x5 x6 x9 x7 M
    else
      f_X6_bestSo_79 n x1 x2 x4 x5 x6 x9 v2 M
set_option maxRecDepth 10000 in
theorem v_X6_bestSo_35 {E : En} {d : Nat} {Q : Po} {n : Nat} {x1 : Int} {x2 : Int} {x4 : Int} {x5 : Int} {x6 : Int} {x7 : Int} {x9 : Int} {M : Mem} {z : (Int × Int) ⊕ (Int)}  (hd : 3 ≤ d) (hF : f_X6_bestSo_35 n x1 x2 x4 x5 x6 x7 x9 M = some z) (hC0 : ∀ s' : Int × Int, z = (.inl s') → V E mX6_bestSo d 35 [(0, rf E 46), (1, vi x1), (2, vi x2), (4, vi x4), (5, vi x5), (6, vi x6), (7, vl (s'.1)), (9, vi (s'.2))] [] M Q) (hX : ∀ z0 : Int, z = (.inr z0) → Q (some (vl z0)) M) : V E mX6_bestSo d 35 [(0, rf E 46), (1, vi x1), (2, vi x2), (4, vi x4), (5, vi x5), (6, vi x6), (7, vl x7), (9, vi x9)] [] M Q := by
  unfold f_X6_bestSo_35 at hF
  refine V.iload 9 7 dX6_bestSo_35 rfl ?_
  refine V.aload_n 0 0 0 rfl dX6_bestSo_37 rfl ?_
  refine V.iload 4 3 dX6_bestSo_38 rfl ?_
  refine V.iload 5 4 dX6_bestSo_40 rfl ?_
  replace hF := Option.bind_eq_some_iff.mp hF
  obtain ⟨v1, hv1, hF⟩ := hF
  refine V.callV (d' := d - 1) [vi x4, vi x5] [vi x9] (c_X6_mostKept (by omega) hv1) okX6_mostKept gw_1213 rfl rfl (by decide) (hcX6 E _) rfl (Nat.le_of_ble_eq_true rfl) (by omega) dX6_bestSo_42 ?_
  rintro _ _ ⟨rfl, rfl⟩
  show V E mX6_bestSo d 45 [(0, rf E 46), (1, vi x1), (2, vi x2), (4, vi x4), (5, vi x5), (6, vi x6), (7, vl x7), (9, vi x9)] [vi v1, vi x9] M _
  refine V.icmp_gt (tgt := 87) rfl rfl dX6_bestSo_45 (by decide) (fun hc => ?_) (fun hc => ?_)
  · rw [if_pos hc] at hF
    refine V.lload 7 6 dX6_bestSo_87 rfl ?_
    cases Option.some.inj hF
    exact V.lret rfl dX6_bestSo_89 (hX _ rfl)
  · rw [if_neg hc] at hF
    refine V.aload_n 0 0 0 rfl dX6_bestSo_48 rfl ?_
    refine V.iload_n 1 1 1 rfl dX6_bestSo_49 rfl ?_
    refine V.iload_n 2 2 2 rfl dX6_bestSo_50 rfl ?_
    refine V.iload 6 5 dX6_bestSo_51 rfl ?_
    refine V.iload 4 3 dX6_bestSo_53 rfl ?_
    refine V.iload 5 4 dX6_bestSo_55 rfl ?_
    refine V.iload 9 7 dX6_bestSo_57 rfl ?_
    replace hF := Option.bind_eq_some_iff.mp hF
    obtain ⟨v2, hv2, hF⟩ := hF
    refine V.callV (d' := d - 1) [vi x1, vi x2, vi x6, vi x4, vi x5, vi x9] [] (c_X6_byKept (by omega) hv2) okX6_byKept gw_1209 rfl rfl (by decide) (hcX6 E _) rfl (Nat.le_of_ble_eq_true rfl) (by omega) dX6_bestSo_59 ?_
    rintro _ _ ⟨rfl, rfl⟩
    show V E mX6_bestSo d 62 [(0, rf E 46), (1, vi x1), (2, vi x2), (4, vi x4), (5, vi x5), (6, vi x6), (7, vl x7), (9, vi x9)] [vl v2] M _
    refine V.lstore 10 [(10, vl v2), (0, rf E 46), (1, vi x1), (2, vi x2), (4, vi x4), (5, vi x5), (6, vi x6), (7, vl x7), (9, vi x9)] dX6_bestSo_62 (by decide) rfl ?_
    refine V.lload 10 0 dX6_bestSo_64 rfl ?_
    refine V.lload 7 7 dX6_bestSo_66 rfl ?_
    refine V.lcmp_le (tgt := 77) rfl rfl dX6_bestSo_68 dX6_bestSo_69 (by decide) (fun hc => ?_) (fun hc => ?_)
    · rw [if_pos hc] at hF
      refine V.lload 7 7 dX6_bestSo_77 rfl ?_
      refine V.sub _ [1, 2, 3, 4, 5, 6, 8] rfl ?_
      exact v_X6_bestSo_79 hd hF hC0 hX
    · rw [if_neg hc] at hF
      refine V.lload 10 0 dX6_bestSo_72 rfl ?_
      refine V.goto (tgt := 79) dX6_bestSo_74 (by decide) ?_
      refine V.sub _ [1, 2, 3, 4, 5, 6, 8] rfl ?_
      exact v_X6_bestSo_79 hd hF hC0 hX
theorem l_X6_bestSo_35 {E : En} {d : Nat} {Q : Po} {n : Nat} {x1 : Int} {x2 : Int} {x4 : Int} {x5 : Int} {x6 : Int} {M : Mem} {k : Nat} {s : Int × Int} {z : Int}  (hd : 3 ≤ d) (hF : lp (fun s => f_X6_bestSo_35 n x1 x2 x4 x5 x6 s.1 s.2 M) k s = some z) (hK : Q (some (vl z)) M) : V E mX6_bestSo d 35 [(0, rf E 46), (1, vi x1), (2, vi x2), (4, vi x4), (5, vi x5), (6, vi x6), (7, vl s.1), (9, vi s.2)] [] M Q := by
  refine lp_ind (P := fun s => V E mX6_bestSo d 35 [(0, rf E 46), (1, vi x1), (2, vi x2), (4, vi x4), (5, vi x5), (6, vi x6), (7, vl s.1), (9, vi s.2)] [] M Q) (z0 := z) ?_ k s hF
  intro s z' hF hc hx
  exact v_X6_bestSo_35 hd hF (fun s' e => hc s' e) (fun z0 e => by rw [hx _ e]; exact hK)
def f_X6_bestSo (n : Nat) (x1 : Int) (x2 : Int) (x3 : Int) (x4 : Int) (x5 : Int) (M : Mem) : Option (Int) :=
  (f_X6_areSo n x3 x1 x5 M).bind fun v1 =>
  if wr v1 = 0 then
    some 0
  else
    (f_X6_byKept n x1 x2 v1 x4 x5 0 M).bind fun v2 =>
    lp (fun s => f_X6_bestSo_35 n x1 x2 x4 x5 v1 s.1 s.2 M) n (v2, 1)
set_option maxRecDepth 10000 in
theorem v_X6_bestSo_0 {E : En} {d : Nat} {Q : Po} {n : Nat} {x1 : Int} {x2 : Int} {x3 : Int} {x4 : Int} {x5 : Int} {M : Mem} {z : Int}  (hd : 3 ≤ d) (hF : f_X6_bestSo n x1 x2 x3 x4 x5 M = some z) (hK : Q (some (vl z)) M) : V E mX6_bestSo d 0 [(0, rf E 46), (1, vi x1), (2, vi x2), (3, vi x3), (4, vi x4), (5, vi x5)] [] M Q := by
  unfold f_X6_bestSo at hF
  refine V.aload_n 0 0 0 rfl dX6_bestSo_0 rfl ?_
  refine V.iload_n 3 3 3 rfl dX6_bestSo_1 rfl ?_
  refine V.iload_n 1 1 1 rfl dX6_bestSo_2 rfl ?_
  refine V.iload 5 5 dX6_bestSo_3 rfl ?_
  replace hF := Option.bind_eq_some_iff.mp hF
  obtain ⟨v1, hv1, hF⟩ := hF
  refine V.callV (d' := d - 1) [vi x3, vi x1, vi x5] [] (c_X6_areSo (by omega) hv1) okX6_areSo gw_1175 rfl rfl (by decide) (hcX6 E _) rfl (Nat.le_of_ble_eq_true rfl) (by omega) dX6_bestSo_5 ?_
  rintro _ _ ⟨rfl, rfl⟩
  show V E mX6_bestSo d 8 [(0, rf E 46), (1, vi x1), (2, vi x2), (3, vi x3), (4, vi x4), (5, vi x5)] [vi v1] M _
  refine V.istore 6 [(6, vi v1), (0, rf E 46), (1, vi x1), (2, vi x2), (3, vi x3), (4, vi x4), (5, vi x5)] dX6_bestSo_8 (by decide) rfl ?_
  refine V.iload 6 0 dX6_bestSo_10 rfl ?_
  refine V.if_ne (tgt := 17) rfl dX6_bestSo_12 (by decide) (fun hc => ?_) (fun hc => ?_)
  · rw [if_neg hc] at hF
    refine V.aload_n 0 0 1 rfl dX6_bestSo_17 rfl ?_
    refine V.iload_n 1 1 2 rfl dX6_bestSo_18 rfl ?_
    refine V.iload_n 2 2 3 rfl dX6_bestSo_19 rfl ?_
    refine V.iload 6 0 dX6_bestSo_20 rfl ?_
    refine V.iload 4 5 dX6_bestSo_22 rfl ?_
    refine V.iload 5 6 dX6_bestSo_24 rfl ?_
    refine V.iconst 0 dX6_bestSo_26 ?_
    replace hF := Option.bind_eq_some_iff.mp hF
    obtain ⟨v2, hv2, hF⟩ := hF
    refine V.callV (d' := d - 1) [vi x1, vi x2, vi v1, vi x4, vi x5, vi 0] [] (c_X6_byKept (by omega) hv2) okX6_byKept gw_1209 rfl rfl (by decide) (hcX6 E _) rfl (Nat.le_of_ble_eq_true rfl) (by omega) dX6_bestSo_27 ?_
    rintro _ _ ⟨rfl, rfl⟩
    show V E mX6_bestSo d 30 [(6, vi v1), (0, rf E 46), (1, vi x1), (2, vi x2), (3, vi x3), (4, vi x4), (5, vi x5)] [vl v2] M _
    refine V.lstore 7 [(7, vl v2), (6, vi v1), (0, rf E 46), (1, vi x1), (2, vi x2), (3, vi x3), (4, vi x4), (5, vi x5)] dX6_bestSo_30 (by decide) rfl ?_
    refine V.iconst 1 dX6_bestSo_32 ?_
    refine V.istore 9 [(9, vi 1), (7, vl v2), (6, vi v1), (0, rf E 46), (1, vi x1), (2, vi x2), (3, vi x3), (4, vi x4), (5, vi x5)] dX6_bestSo_33 (by decide) rfl ?_
    refine V.sub _ [3, 4, 5, 7, 8, 2, 1, 0] rfl ?_
    exact l_X6_bestSo_35 hd hF hK
  · rw [if_pos hc] at hF
    refine V.lconst 0 0 (by decide) dX6_bestSo_15 ?_
    cases Option.some.inj hF
    exact V.lret rfl dX6_bestSo_16 hK
theorem c_X6_bestSo {E : En} {d : Nat} {n : Nat} {x1 : Int} {x2 : Int} {x3 : Int} {x4 : Int} {x5 : Int} {M : Mem} {z : Int}  (hd : 3 ≤ d) (hF : f_X6_bestSo n x1 x2 x3 x4 x5 M = some z) : Cn E mX6_bestSo d [rf E 46, vi x1, vi x2, vi x3, vi x4, vi x5] M (fun v N => v = some (vl z) ∧ M = N) := by
  refine V.entry (by decide +kernel) (Nat.le_of_ble_eq_true rfl) ?_
  exact v_X6_bestSo_0  hd hF ⟨rfl, rfl⟩
abbrev mX6_yearsLeft : MI := (yX6_yearsLeft, cX6_yearsLeft, 3, (some .int))
theorem okX6_yearsLeft : OKV mX6_yearsLeft 1 := ⟨gw_1196, gw_50, gw_64, gw_1197, (by decide +kernel), (by decide)⟩
def f_X6_yearsLeft (x1 : Int) (M : Mem) : Option (Int) :=
  if wr (8 - (M 47 21)) ≤ wr x1 then
    some (8 - (M 47 21))
  else
    some x1
set_option maxRecDepth 10000 in
theorem v_X6_yearsLeft_0 {E : En} {d : Nat} {Q : Po} {x1 : Int} {M : Mem} {z : Int}  (hd : 1 ≤ d) (hF : f_X6_yearsLeft x1 M = some z) (hK : Q (some (vi z)) M) : V E mX6_yearsLeft d 0 [(0, rf E 46), (1, vi x1)] [] M Q := by
  unfold f_X6_yearsLeft at hF
  refine V.bipush 8 8 (by decide) dX6_yearsLeft_0 ?_
  refine V.aload_n 0 0 0 rfl dX6_yearsLeft_2 rfl ?_
  refine V.get (by decide) (hcX6 E _) rfl inX6 0 (by decide) rfl gw_875 dX6_yearsLeft_3 ?_
  refine V.bipush 21 21 (by decide) dX6_yearsLeft_6 ?_
  refine V.iald ar_47 (rd_lit 21 21 wr_21 (by decide)) dX6_yearsLeft_8 ?_
  refine V.isub dX6_yearsLeft_9 ?_
  refine V.istore_n 2 2 [(2, vi (8 - (M 47 21))), (0, rf E 46), (1, vi x1)] rfl dX6_yearsLeft_10 (by decide) rfl ?_
  refine V.iload_n 1 1 2 rfl dX6_yearsLeft_11 rfl ?_
  refine V.iload_n 2 2 0 rfl dX6_yearsLeft_12 rfl ?_
  refine V.icmp_ge (tgt := 20) rfl rfl dX6_yearsLeft_13 (by decide) (fun hc => ?_) (fun hc => ?_)
  · rw [if_pos hc] at hF
    refine V.iload_n 2 2 0 rfl dX6_yearsLeft_20 rfl ?_
    cases Option.some.inj hF
    exact V.iret rfl dX6_yearsLeft_21 hK
  · rw [if_neg hc] at hF
    refine V.iload_n 1 1 2 rfl dX6_yearsLeft_16 rfl ?_
    refine V.goto (tgt := 21) dX6_yearsLeft_17 (by decide) ?_
    cases Option.some.inj hF
    exact V.iret rfl dX6_yearsLeft_21 hK
theorem c_X6_yearsLeft {E : En} {d : Nat} {x1 : Int} {M : Mem} {z : Int}  (hd : 1 ≤ d) (hF : f_X6_yearsLeft x1 M = some z) : Cn E mX6_yearsLeft d [rf E 46, vi x1] M (fun v N => v = some (vi z) ∧ M = N) := by
  refine V.entry (by decide +kernel) (Nat.le_of_ble_eq_true rfl) ?_
  exact v_X6_yearsLeft_0  hd hF ⟨rfl, rfl⟩
abbrev mX6_layWorths : MI := (yX6_layWorths, cX6_layWorths, 6, none)
theorem okX6_layWorths : OKV mX6_layWorths 1 := ⟨gw_1200, gw_51, gw_64, gw_1201, (by decide +kernel), (by decide)⟩
def f_X6_layWorths_104 (n : Nat) (x1 : Int) (x2 : Int) (M : Mem) : Option ((Int × Mem) ⊕ (Mem)) :=
  some (.inl (x2 + 1, M))
set_option maxRecDepth 10000 in
theorem v_X6_layWorths_104 {E : En} {d : Nat} {Q : Po} {n : Nat} {x1 : Int} {x2 : Int} {M : Mem} {z : (Int × Mem) ⊕ (Mem)}  (hd : 4 ≤ d) (hF : f_X6_layWorths_104 n x1 x2 M = some z) (hC0 : ∀ s' : Int × Mem, z = (.inl s') → V E mX6_layWorths d 2 [(0, rf E 46), (1, vi x1), (2, vi (s'.1))] [] s'.2 Q) (hX : ∀ z0 : Mem, z = (.inr z0) → Q none z0) : V E mX6_layWorths d 104 [(0, rf E 46), (1, vi x1), (2, vi x2)] [] M Q := by
  unfold f_X6_layWorths_104 at hF
  refine V.iinc 2 2 1 [(2, vi (x2 + 1)), (0, rf E 46), (1, vi x1)] dX6_layWorths_104 rfl (by decide) rfl ?_
  refine V.goto (tgt := 2) dX6_layWorths_107 (by decide) ?_
  cases Option.some.inj hF
  refine V.sub _ [1, 2, 0] rfl ?_
  exact hC0 _ rfl
def f_X6_layWorths_98 (n : Nat) (x1 : Int) (x2 : Int) (x3 : Int) (x4 : Int) (M : Mem) : Option ((Int × Mem) ⊕ ((Int × Mem) ⊕ (Mem))) :=
  some (.inl (x4 + 1, M))
set_option maxRecDepth 10000 in
theorem v_X6_layWorths_98 {E : En} {d : Nat} {Q : Po} {n : Nat} {x1 : Int} {x2 : Int} {x3 : Int} {x4 : Int} {M : Mem} {z : (Int × Mem) ⊕ ((Int × Mem) ⊕ (Mem))}  (hd : 4 ≤ d) (hF : f_X6_layWorths_98 n x1 x2 x3 x4 M = some z) (hC0 : ∀ s' : Int × Mem, z = (.inl s') → V E mX6_layWorths d 22 [(0, rf E 46), (1, vi x1), (2, vi x2), (3, vi x3), (4, vi (s'.1))] [] s'.2 Q) (hC1 : ∀ s' : Int × Mem, z = (.inr (.inl s')) → V E mX6_layWorths d 2 [(0, rf E 46), (1, vi x1), (2, vi (s'.1))] [] s'.2 Q) (hX : ∀ z0 : Mem, z = (.inr (.inr z0)) → Q none z0) : V E mX6_layWorths d 98 [(0, rf E 46), (1, vi x1), (2, vi x2), (3, vi x3), (4, vi x4)] [] M Q := by
  unfold f_X6_layWorths_98 at hF
  refine V.iinc 4 4 1 [(4, vi (x4 + 1)), (0, rf E 46), (1, vi x1), (2, vi x2), (3, vi x3)] dX6_layWorths_98 rfl (by decide) rfl ?_
  refine V.goto (tgt := 22) dX6_layWorths_101 (by decide) ?_
  cases Option.some.inj hF
  refine V.sub _ [1, 2, 3, 4, 0] rfl ?_
  exact hC0 _ rfl
def f_X6_layWorths_91 (n : Nat) (x1 : Int) (x2 : Int) (x3 : Int) (x4 : Int) (x5 : Int) (s0 : Int) (s1 : Int) (M : Mem) : Option ((Int × Mem) ⊕ ((Int × Mem) ⊕ ((Int × Mem) ⊕ (Mem)))) :=
  (wt M 54 3936 s1 s0).bind fun M1 =>
  some (.inl (x5 + 1, M1))
set_option maxRecDepth 10000 in
theorem v_X6_layWorths_91 {E : En} {d : Nat} {Q : Po} {n : Nat} {x1 : Int} {x2 : Int} {x3 : Int} {x4 : Int} {x5 : Int} {s0 : Int} {s1 : Int} {M : Mem} {z : (Int × Mem) ⊕ ((Int × Mem) ⊕ ((Int × Mem) ⊕ (Mem)))}  (hd : 4 ≤ d) (hF : f_X6_layWorths_91 n x1 x2 x3 x4 x5 s0 s1 M = some z) (hC0 : ∀ s' : Int × Mem, z = (.inl s') → V E mX6_layWorths d 36 [(0, rf E 46), (1, vi x1), (2, vi x2), (3, vi x3), (4, vi x4), (5, vi (s'.1))] [] s'.2 Q) (hC1 : ∀ s' : Int × Mem, z = (.inr (.inl s')) → V E mX6_layWorths d 22 [(0, rf E 46), (1, vi x1), (2, vi x2), (3, vi x3), (4, vi (s'.1))] [] s'.2 Q) (hC2 : ∀ s' : Int × Mem, z = (.inr (.inr (.inl s'))) → V E mX6_layWorths d 2 [(0, rf E 46), (1, vi x1), (2, vi (s'.1))] [] s'.2 Q) (hX : ∀ z0 : Mem, z = (.inr (.inr (.inr z0))) → Q none z0) : V E mX6_layWorths d 91 [(0, rf E 46), (1, vi x1), (2, vi x2), (3, vi x3), (4, vi x4), (5, vi x5)] [vl s0, vi s1, rf E 54] M Q := by
  unfold f_X6_layWorths_91 at hF
  replace hF := Option.bind_eq_some_iff.mp hF
  obtain ⟨M1, hM1, hF⟩ := hF
  refine V.last ar_54 hM1 dX6_layWorths_91 ?_
  refine V.iinc 5 5 1 [(5, vi (x5 + 1)), (0, rf E 46), (1, vi x1), (2, vi x2), (3, vi x3), (4, vi x4)] dX6_layWorths_92 rfl (by decide) rfl ?_
  refine V.goto (tgt := 36) dX6_layWorths_95 (by decide) ?_
  cases Option.some.inj hF
  refine V.sub _ [1, 2, 3, 4, 5, 0] rfl ?_
  exact hC0 _ rfl
def f_X6_layWorths_64 (n : Nat) (x1 : Int) (x2 : Int) (x3 : Int) (x4 : Int) (x5 : Int) (s0 : Int) (M : Mem) : Option ((Int × Mem) ⊕ ((Int × Mem) ⊕ ((Int × Mem) ⊕ (Mem)))) :=
  f_X6_layWorths_91 n x1 x2 x3 x4 x5 0 s0 M
set_option maxRecDepth 10000 in
theorem v_X6_layWorths_64 {E : En} {d : Nat} {Q : Po} {n : Nat} {x1 : Int} {x2 : Int} {x3 : Int} {x4 : Int} {x5 : Int} {s0 : Int} {M : Mem} {z : (Int × Mem) ⊕ ((Int × Mem) ⊕ ((Int × Mem) ⊕ (Mem)))}  (hd : 4 ≤ d) (hF : f_X6_layWorths_64 n x1 x2 x3 x4 x5 s0 M = some z) (hC0 : ∀ s' : Int × Mem, z = (.inl s') → V E mX6_layWorths d 36 [(0, rf E 46), (1, vi x1), (2, vi x2), (3, vi x3), (4, vi x4), (5, vi (s'.1))] [] s'.2 Q) (hC1 : ∀ s' : Int × Mem, z = (.inr (.inl s')) → V E mX6_layWorths d 22 [(0, rf E 46), (1, vi x1), (2, vi x2), (3, vi x3), (4, vi (s'.1))] [] s'.2 Q) (hC2 : ∀ s' : Int × Mem, z = (.inr (.inr (.inl s'))) → V E mX6_layWorths d 2 [(0, rf E 46), (1, vi x1), (2, vi (s'.1))] [] s'.2 Q) (hX : ∀ z0 : Mem, z = (.inr (.inr (.inr z0))) → Q none z0) : V E mX6_layWorths d 64 [(0, rf E 46), (1, vi x1), (2, vi x2), (3, vi x3), (4, vi x4), (5, vi x5)] [vi s0, rf E 54] M Q := by
  unfold f_X6_layWorths_64 at hF
  refine V.lconst 0 0 (by decide) dX6_layWorths_64 ?_
  refine V.goto (tgt := 91) dX6_layWorths_65 (by decide) ?_
  exact v_X6_layWorths_91 hd hF hC0 hC1 hC2 hX
def f_X6_layWorths_36 (n : Nat) (x1 : Int) (x2 : Int) (x3 : Int) (x4 : Int) (x5 : Int) (M : Mem) : Option ((Int × Mem) ⊕ ((Int × Mem) ⊕ ((Int × Mem) ⊕ (Mem)))) :=
  if 40 < wr x5 then
    (f_X6_layWorths_98 n x1 x2 x3 x4 M).map Sum.inr
  else
    (f_X6_at x2 x4 x5 M).bind fun v1 =>
    if wr x2 = 0 then
      f_X6_layWorths_64 n x1 x2 x3 x4 x5 v1 M
    else
      if wr x4 = 0 then
        f_X6_layWorths_64 n x1 x2 x3 x4 x5 v1 M
      else
        (f_X6_bestSo n x3 x2 x4 x5 0 M).bind fun v2 =>
        (f_X6_bestSo n x3 x2 x4 x5 1 M).bind fun v3 =>
        f_X6_layWorths_91 n x1 x2 x3 x4 x5 (v2 + v3) v1 M
set_option maxRecDepth 10000 in
theorem v_X6_layWorths_36 {E : En} {d : Nat} {Q : Po} {n : Nat} {x1 : Int} {x2 : Int} {x3 : Int} {x4 : Int} {x5 : Int} {M : Mem} {z : (Int × Mem) ⊕ ((Int × Mem) ⊕ ((Int × Mem) ⊕ (Mem)))}  (hd : 4 ≤ d) (hF : f_X6_layWorths_36 n x1 x2 x3 x4 x5 M = some z) (hC0 : ∀ s' : Int × Mem, z = (.inl s') → V E mX6_layWorths d 36 [(0, rf E 46), (1, vi x1), (2, vi x2), (3, vi x3), (4, vi x4), (5, vi (s'.1))] [] s'.2 Q) (hC1 : ∀ s' : Int × Mem, z = (.inr (.inl s')) → V E mX6_layWorths d 22 [(0, rf E 46), (1, vi x1), (2, vi x2), (3, vi x3), (4, vi (s'.1))] [] s'.2 Q) (hC2 : ∀ s' : Int × Mem, z = (.inr (.inr (.inl s'))) → V E mX6_layWorths d 2 [(0, rf E 46), (1, vi x1), (2, vi (s'.1))] [] s'.2 Q) (hX : ∀ z0 : Mem, z = (.inr (.inr (.inr z0))) → Q none z0) : V E mX6_layWorths d 36 [(0, rf E 46), (1, vi x1), (2, vi x2), (3, vi x3), (4, vi x4), (5, vi x5)] [] M Q := by
  unfold f_X6_layWorths_36 at hF
  refine V.iload 5 5 dX6_layWorths_36 rfl ?_
  refine V.bipush 40 40 (by decide) dX6_layWorths_38 ?_
  refine V.icmp_gt (tgt := 98) rfl wr_40 dX6_layWorths_40 (by decide) (fun hc => ?_) (fun hc => ?_)
  · rw [if_pos hc] at hF
    replace hF := Option.map_eq_some_iff.mp hF
    obtain ⟨z0, hF, rfl⟩ := hF
    refine V.sub _ [0, 1, 2, 3, 4] rfl ?_
    exact v_X6_layWorths_98 hd hF (fun s' e => hC1 s' (congrArg Sum.inr e)) (fun s' e => hC2 s' (congrArg Sum.inr e)) (fun z0 e => hX z0 (congrArg Sum.inr e))
  · rw [if_neg hc] at hF
    refine V.aload_n 0 0 0 rfl dX6_layWorths_43 rfl ?_
    refine V.get (by decide) (hcX6 E _) rfl inX6 20 (by decide) rfl gw_895 dX6_layWorths_44 ?_
    refine V.iload_n 2 2 2 rfl dX6_layWorths_47 rfl ?_
    refine V.iload 4 4 dX6_layWorths_48 rfl ?_
    refine V.iload 5 5 dX6_layWorths_50 rfl ?_
    replace hF := Option.bind_eq_some_iff.mp hF
    obtain ⟨v1, hv1, hF⟩ := hF
    refine V.callS (d' := d - 1) [vi x2, vi x4, vi x5] [rf E 54] (c_X6_at (by omega) hv1) okX6_at gw_1202 rfl rfl (Nat.le_of_ble_eq_true rfl) (by omega) dX6_layWorths_52 ?_
    rintro _ _ ⟨rfl, rfl⟩
    show V E mX6_layWorths d 55 [(0, rf E 46), (1, vi x1), (2, vi x2), (3, vi x3), (4, vi x4), (5, vi x5)] [vi v1, rf E 54] M _
    refine V.iload_n 2 2 2 rfl dX6_layWorths_55 rfl ?_
    refine V.if_eq (tgt := 64) rfl dX6_layWorths_56 (by decide) (fun hc => ?_) (fun hc => ?_)
    · rw [if_pos hc] at hF
      exact v_X6_layWorths_64 hd hF hC0 hC1 hC2 hX
    · rw [if_neg hc] at hF
      refine V.iload 4 4 dX6_layWorths_59 rfl ?_
      refine V.if_ne (tgt := 68) rfl dX6_layWorths_61 (by decide) (fun hc => ?_) (fun hc => ?_)
      · rw [if_neg hc] at hF
        refine V.aload_n 0 0 0 rfl dX6_layWorths_68 rfl ?_
        refine V.iload_n 3 3 3 rfl dX6_layWorths_69 rfl ?_
        refine V.iload_n 2 2 2 rfl dX6_layWorths_70 rfl ?_
        refine V.iload 4 4 dX6_layWorths_71 rfl ?_
        refine V.iload 5 5 dX6_layWorths_73 rfl ?_
        refine V.iconst 0 dX6_layWorths_75 ?_
        replace hF := Option.bind_eq_some_iff.mp hF
        obtain ⟨v2, hv2, hF⟩ := hF
        refine V.callV (d' := d - 1) [vi x3, vi x2, vi x4, vi x5, vi 0] [vi v1, rf E 54] (c_X6_bestSo (by omega) hv2) okX6_bestSo gw_1205 rfl rfl (by decide) (hcX6 E _) rfl (Nat.le_of_ble_eq_true rfl) (by omega) dX6_layWorths_76 ?_
        rintro _ _ ⟨rfl, rfl⟩
        show V E mX6_layWorths d 79 [(0, rf E 46), (1, vi x1), (2, vi x2), (3, vi x3), (4, vi x4), (5, vi x5)] [vl v2, vi v1, rf E 54] M _
        refine V.aload_n 0 0 0 rfl dX6_layWorths_79 rfl ?_
        refine V.iload_n 3 3 3 rfl dX6_layWorths_80 rfl ?_
        refine V.iload_n 2 2 2 rfl dX6_layWorths_81 rfl ?_
        refine V.iload 4 4 dX6_layWorths_82 rfl ?_
        refine V.iload 5 5 dX6_layWorths_84 rfl ?_
        refine V.iconst 1 dX6_layWorths_86 ?_
        replace hF := Option.bind_eq_some_iff.mp hF
        obtain ⟨v3, hv3, hF⟩ := hF
        refine V.callV (d' := d - 1) [vi x3, vi x2, vi x4, vi x5, vi 1] [vl v2, vi v1, rf E 54] (c_X6_bestSo (by omega) hv3) okX6_bestSo gw_1205 rfl rfl (by decide) (hcX6 E _) rfl (Nat.le_of_ble_eq_true rfl) (by omega) dX6_layWorths_87 ?_
        rintro _ _ ⟨rfl, rfl⟩
        show V E mX6_layWorths d 90 [(0, rf E 46), (1, vi x1), (2, vi x2), (3, vi x3), (4, vi x4), (5, vi x5)] [vl v3, vl v2, vi v1, rf E 54] M _
        refine V.ladd dX6_layWorths_90 ?_
        exact v_X6_layWorths_91 hd hF hC0 hC1 hC2 hX
      · rw [if_pos hc] at hF
        exact v_X6_layWorths_64 hd hF hC0 hC1 hC2 hX
theorem l_X6_layWorths_36 {E : En} {d : Nat} {Q : Po} {n : Nat} {x1 : Int} {x2 : Int} {x3 : Int} {x4 : Int} {k : Nat} {s : Int × Mem} {z : (Int × Mem) ⊕ ((Int × Mem) ⊕ (Mem))}  (hd : 4 ≤ d) (hF : lp (fun s => f_X6_layWorths_36 n x1 x2 x3 x4 s.1 s.2) k s = some z) (hC0 : ∀ s' : Int × Mem, z = (.inl s') → V E mX6_layWorths d 22 [(0, rf E 46), (1, vi x1), (2, vi x2), (3, vi x3), (4, vi (s'.1))] [] s'.2 Q) (hC1 : ∀ s' : Int × Mem, z = (.inr (.inl s')) → V E mX6_layWorths d 2 [(0, rf E 46), (1, vi x1), (2, vi (s'.1))] [] s'.2 Q) (hX : ∀ z0 : Mem, z = (.inr (.inr z0)) → Q none z0) : V E mX6_layWorths d 36 [(0, rf E 46), (1, vi x1), (2, vi x2), (3, vi x3), (4, vi x4), (5, vi s.1)] [] s.2 Q := by
  refine lp_ind (P := fun s => V E mX6_layWorths d 36 [(0, rf E 46), (1, vi x1), (2, vi x2), (3, vi x3), (4, vi x4), (5, vi s.1)] [] s.2 Q) (z0 := z) ?_ k s hF
  intro s z' hF hc hx
  exact v_X6_layWorths_36 hd hF (fun s' e => hc s' e) (fun s' e => hC0 s' (hx _ e).symm) (fun s' e => hC1 s' (hx _ e).symm) (fun z0 e => hX z0 (hx _ e).symm)
def f_X6_layWorths_22 (n : Nat) (x1 : Int) (x2 : Int) (x3 : Int) (x4 : Int) (M : Mem) : Option ((Int × Mem) ⊕ ((Int × Mem) ⊕ (Mem))) :=
  if wr (bShl 1 (M 46 3)) ≤ wr x4 then
    (f_X6_layWorths_104 n x1 x2 M).map Sum.inr
  else
    lp (fun s => f_X6_layWorths_36 n x1 x2 x3 x4 s.1 s.2) n (0, M)
set_option maxRecDepth 10000 in
theorem v_X6_layWorths_22 {E : En} {d : Nat} {Q : Po} {n : Nat} {x1 : Int} {x2 : Int} {x3 : Int} {x4 : Int} {M : Mem} {z : (Int × Mem) ⊕ ((Int × Mem) ⊕ (Mem))}  (hd : 4 ≤ d) (hF : f_X6_layWorths_22 n x1 x2 x3 x4 M = some z) (hC0 : ∀ s' : Int × Mem, z = (.inl s') → V E mX6_layWorths d 22 [(0, rf E 46), (1, vi x1), (2, vi x2), (3, vi x3), (4, vi (s'.1))] [] s'.2 Q) (hC1 : ∀ s' : Int × Mem, z = (.inr (.inl s')) → V E mX6_layWorths d 2 [(0, rf E 46), (1, vi x1), (2, vi (s'.1))] [] s'.2 Q) (hX : ∀ z0 : Mem, z = (.inr (.inr z0)) → Q none z0) : V E mX6_layWorths d 22 [(0, rf E 46), (1, vi x1), (2, vi x2), (3, vi x3), (4, vi x4)] [] M Q := by
  unfold f_X6_layWorths_22 at hF
  refine V.iload 4 4 dX6_layWorths_22 rfl ?_
  refine V.iconst 1 dX6_layWorths_24 ?_
  refine V.aload_n 0 0 0 rfl dX6_layWorths_25 rfl ?_
  refine V.get (by decide) (hcX6 E _) rfl inX6 3 (by decide) rfl gw_878 dX6_layWorths_26 ?_
  refine V.ishl dX6_layWorths_29 ?_
  refine V.icmp_ge (tgt := 104) rfl rfl dX6_layWorths_30 (by decide) (fun hc => ?_) (fun hc => ?_)
  · rw [if_pos hc] at hF
    replace hF := Option.map_eq_some_iff.mp hF
    obtain ⟨z0, hF, rfl⟩ := hF
    refine V.sub _ [0, 1, 2] rfl ?_
    exact v_X6_layWorths_104 hd hF (fun s' e => hC1 s' (congrArg Sum.inr e)) (fun z0 e => hX z0 (congrArg Sum.inr e))
  · rw [if_neg hc] at hF
    refine V.iconst 0 dX6_layWorths_33 ?_
    refine V.istore 5 [(5, vi 0), (0, rf E 46), (1, vi x1), (2, vi x2), (3, vi x3), (4, vi x4)] dX6_layWorths_34 (by decide) rfl ?_
    refine V.sub _ [1, 2, 3, 4, 5, 0] rfl ?_
    exact l_X6_layWorths_36 hd hF hC0 hC1 hX
theorem l_X6_layWorths_22 {E : En} {d : Nat} {Q : Po} {n : Nat} {x1 : Int} {x2 : Int} {x3 : Int} {k : Nat} {s : Int × Mem} {z : (Int × Mem) ⊕ (Mem)}  (hd : 4 ≤ d) (hF : lp (fun s => f_X6_layWorths_22 n x1 x2 x3 s.1 s.2) k s = some z) (hC0 : ∀ s' : Int × Mem, z = (.inl s') → V E mX6_layWorths d 2 [(0, rf E 46), (1, vi x1), (2, vi (s'.1))] [] s'.2 Q) (hX : ∀ z0 : Mem, z = (.inr z0) → Q none z0) : V E mX6_layWorths d 22 [(0, rf E 46), (1, vi x1), (2, vi x2), (3, vi x3), (4, vi s.1)] [] s.2 Q := by
  refine lp_ind (P := fun s => V E mX6_layWorths d 22 [(0, rf E 46), (1, vi x1), (2, vi x2), (3, vi x3), (4, vi s.1)] [] s.2 Q) (z0 := z) ?_ k s hF
  intro s z' hF hc hx
  exact v_X6_layWorths_22 hd hF (fun s' e => hc s' e) (fun s' e => hC0 s' (hx _ e).symm) (fun z0 e => hX z0 (hx _ e).symm)
def f_X6_layWorths_2 (n : Nat) (x1 : Int) (x2 : Int) (M : Mem) : Option ((Int × Mem) ⊕ (Mem)) :=
  if wr x1 < wr x2 then
    some (.inr M)
  else
    lp (fun s => f_X6_layWorths_22 n x1 x2 (((M 47 21) + x1) - x2) s.1 s.2) n (0, M)
set_option maxRecDepth 10000 in
theorem v_X6_layWorths_2 {E : En} {d : Nat} {Q : Po} {n : Nat} {x1 : Int} {x2 : Int} {M : Mem} {z : (Int × Mem) ⊕ (Mem)}  (hd : 4 ≤ d) (hF : f_X6_layWorths_2 n x1 x2 M = some z) (hC0 : ∀ s' : Int × Mem, z = (.inl s') → V E mX6_layWorths d 2 [(0, rf E 46), (1, vi x1), (2, vi (s'.1))] [] s'.2 Q) (hX : ∀ z0 : Mem, z = (.inr z0) → Q none z0) : V E mX6_layWorths d 2 [(0, rf E 46), (1, vi x1), (2, vi x2)] [] M Q := by
  unfold f_X6_layWorths_2 at hF
  refine V.iload_n 2 2 2 rfl dX6_layWorths_2 rfl ?_
  refine V.iload_n 1 1 1 rfl dX6_layWorths_3 rfl ?_
  refine V.icmp_gt (tgt := 110) rfl rfl dX6_layWorths_4 (by decide) (fun hc => ?_) (fun hc => ?_)
  · rw [if_pos hc] at hF
    cases Option.some.inj hF
    exact V.vret rfl dX6_layWorths_110 (hX _ rfl)
  · rw [if_neg hc] at hF
    refine V.aload_n 0 0 0 rfl dX6_layWorths_7 rfl ?_
    refine V.get (by decide) (hcX6 E _) rfl inX6 0 (by decide) rfl gw_875 dX6_layWorths_8 ?_
    refine V.bipush 21 21 (by decide) dX6_layWorths_11 ?_
    refine V.iald ar_47 (rd_lit 21 21 wr_21 (by decide)) dX6_layWorths_13 ?_
    refine V.iload_n 1 1 1 rfl dX6_layWorths_14 rfl ?_
    refine V.iadd dX6_layWorths_15 ?_
    refine V.iload_n 2 2 2 rfl dX6_layWorths_16 rfl ?_
    refine V.isub dX6_layWorths_17 ?_
    refine V.istore_n 3 3 [(3, vi (((M 47 21) + x1) - x2)), (0, rf E 46), (1, vi x1), (2, vi x2)] rfl dX6_layWorths_18 (by decide) rfl ?_
    refine V.iconst 0 dX6_layWorths_19 ?_
    refine V.istore 4 [(4, vi 0), (3, vi (((M 47 21) + x1) - x2)), (0, rf E 46), (1, vi x1), (2, vi x2)] dX6_layWorths_20 (by decide) rfl ?_
    refine V.sub _ [2, 3, 4, 1, 0] rfl ?_
    exact l_X6_layWorths_22 hd hF hC0 hX
theorem l_X6_layWorths_2 {E : En} {d : Nat} {Q : Po} {n : Nat} {x1 : Int} {k : Nat} {s : Int × Mem} {z : Mem}  (hd : 4 ≤ d) (hF : lp (fun s => f_X6_layWorths_2 n x1 s.1 s.2) k s = some z) (hK : Q none z) : V E mX6_layWorths d 2 [(0, rf E 46), (1, vi x1), (2, vi s.1)] [] s.2 Q := by
  refine lp_ind (P := fun s => V E mX6_layWorths d 2 [(0, rf E 46), (1, vi x1), (2, vi s.1)] [] s.2 Q) (z0 := z) ?_ k s hF
  intro s z' hF hc hx
  exact v_X6_layWorths_2 hd hF (fun s' e => hc s' e) (fun z0 e => by rw [hx _ e]; exact hK)
def f_X6_layWorths (n : Nat) (x1 : Int) (M : Mem) : Option (Mem) :=
  lp (fun s => f_X6_layWorths_2 n x1 s.1 s.2) n (0, M)
set_option maxRecDepth 10000 in
theorem v_X6_layWorths_0 {E : En} {d : Nat} {Q : Po} {n : Nat} {x1 : Int} {M : Mem} {z : Mem}  (hd : 4 ≤ d) (hF : f_X6_layWorths n x1 M = some z) (hK : Q none z) : V E mX6_layWorths d 0 [(0, rf E 46), (1, vi x1)] [] M Q := by
  unfold f_X6_layWorths at hF
  refine V.iconst 0 dX6_layWorths_0 ?_
  refine V.istore_n 2 2 [(2, vi 0), (0, rf E 46), (1, vi x1)] rfl dX6_layWorths_1 (by decide) rfl ?_
  refine V.sub _ [1, 2, 0] rfl ?_
  exact l_X6_layWorths_2 hd hF hK
theorem c_X6_layWorths {E : En} {d : Nat} {n : Nat} {x1 : Int} {M : Mem} {z : Mem}  (hd : 4 ≤ d) (hF : f_X6_layWorths n x1 M = some z) : Cn E mX6_layWorths d [rf E 46, vi x1] M (fun v N => v = none ∧ z = N) := by
  refine V.entry (by decide +kernel) (Nat.le_of_ble_eq_true rfl) ?_
  exact v_X6_layWorths_0  hd hF ⟨rfl, rfl⟩
abbrev mX6_bestIn : MI := (yX6_bestIn, cX6_bestIn, 4, (some .long))
theorem okX6_bestIn : OKV mX6_bestIn 2 := ⟨gw_1192, gw_49, gw_64, gw_1193, (by decide +kernel), (by decide)⟩
def f_X6_bestIn (n : Nat) (x1 : Int) (x2 : Int) (M : Mem) : Option (Int × Mem) :=
  (f_X6_yearsLeft x1 M).bind fun v1 =>
  (f_X6_layWorths n v1 M).bind fun M2 =>
  (f_X6_at v1 x2 (M2 47 16) M2).bind fun v3 =>
  (rd M2 54 3936 v3).bind fun v4 =>
  some (v4, M2)
set_option maxRecDepth 10000 in
theorem v_X6_bestIn_0 {E : En} {d : Nat} {Q : Po} {n : Nat} {x1 : Int} {x2 : Int} {M : Mem} {z : Int × Mem}  (hd : 5 ≤ d) (hF : f_X6_bestIn n x1 x2 M = some z) (hK : Q (some (vl z.1)) z.2) : V E mX6_bestIn d 0 [(0, rf E 46), (1, vi x1), (2, vi x2)] [] M Q := by
  unfold f_X6_bestIn at hF
  refine V.aload_n 0 0 0 rfl dX6_bestIn_0 rfl ?_
  refine V.iload_n 1 1 1 rfl dX6_bestIn_1 rfl ?_
  replace hF := Option.bind_eq_some_iff.mp hF
  obtain ⟨v1, hv1, hF⟩ := hF
  refine V.callV (d' := d - 1) [vi x1] [] (c_X6_yearsLeft (by omega) hv1) okX6_yearsLeft gw_1194 rfl rfl (by decide) (hcX6 E _) rfl (Nat.le_of_ble_eq_true rfl) (by omega) dX6_bestIn_2 ?_
  rintro _ _ ⟨rfl, rfl⟩
  show V E mX6_bestIn d 5 [(0, rf E 46), (1, vi x1), (2, vi x2)] [vi v1] M _
  refine V.istore_n 3 3 [(3, vi v1), (0, rf E 46), (1, vi x1), (2, vi x2)] rfl dX6_bestIn_5 (by decide) rfl ?_
  refine V.aload_n 0 0 1 rfl dX6_bestIn_6 rfl ?_
  refine V.iload_n 3 3 0 rfl dX6_bestIn_7 rfl ?_
  replace hF := Option.bind_eq_some_iff.mp hF
  obtain ⟨M2, hM2, hF⟩ := hF
  refine V.callV (d' := d - 1) [vi v1] [] (c_X6_layWorths (by omega) hM2) okX6_layWorths gw_1198 rfl rfl (by decide) (hcX6 E _) rfl (Nat.le_of_ble_eq_true rfl) (by omega) dX6_bestIn_8 ?_
  rintro _ _ ⟨rfl, rfl⟩
  show V E mX6_bestIn d 11 [(3, vi v1), (0, rf E 46), (1, vi x1), (2, vi x2)] [] M2 _
  refine V.aload_n 0 0 1 rfl dX6_bestIn_11 rfl ?_
  refine V.get (by decide) (hcX6 E _) rfl inX6 20 (by decide) rfl gw_895 dX6_bestIn_12 ?_
  refine V.iload_n 3 3 0 rfl dX6_bestIn_15 rfl ?_
  refine V.iload_n 2 2 3 rfl dX6_bestIn_16 rfl ?_
  refine V.aload_n 0 0 1 rfl dX6_bestIn_17 rfl ?_
  refine V.get (by decide) (hcX6 E _) rfl inX6 0 (by decide) rfl gw_875 dX6_bestIn_18 ?_
  refine V.bipush 16 16 (by decide) dX6_bestIn_21 ?_
  refine V.iald ar_47 (rd_lit 16 16 wr_16 (by decide)) dX6_bestIn_23 ?_
  replace hF := Option.bind_eq_some_iff.mp hF
  obtain ⟨v3, hv3, hF⟩ := hF
  refine V.callS (d' := d - 1) [vi v1, vi x2, vi (M2 47 16)] [rf E 54] (c_X6_at (by omega) hv3) okX6_at gw_1202 rfl rfl (Nat.le_of_ble_eq_true rfl) (by omega) dX6_bestIn_24 ?_
  rintro _ _ ⟨rfl, rfl⟩
  show V E mX6_bestIn d 27 [(3, vi v1), (0, rf E 46), (1, vi x1), (2, vi x2)] [vi v3, rf E 54] M2 _
  replace hF := Option.bind_eq_some_iff.mp hF
  obtain ⟨v4, hv4, hF⟩ := hF
  refine V.lald ar_54 hv4 dX6_bestIn_27 ?_
  cases Option.some.inj hF
  exact V.lret rfl dX6_bestIn_28 hK
theorem c_X6_bestIn {E : En} {d : Nat} {n : Nat} {x1 : Int} {x2 : Int} {M : Mem} {zr : Int} {zM : Mem}  (hd : 5 ≤ d) (hF : f_X6_bestIn n x1 x2 M = some (zr, zM)) : Cn E mX6_bestIn d [rf E 46, vi x1, vi x2] M (fun v N => v = some (vl zr) ∧ zM = N) := by
  refine V.entry (by decide +kernel) (Nat.le_of_ble_eq_true rfl) ?_
  exact v_X6_bestIn_0  hd hF ⟨rfl, rfl⟩
abbrev mX6_best : MI := (yX6_best, cX6_best, 4, (some .long))
theorem okX6_best : OKV mX6_best 2 := ⟨gw_1187, gw_1188, gw_64, gw_1189, (by decide +kernel), (by decide)⟩
def f_X6_best_22 (n : Nat) (M : Mem) : Option (Int × Mem) :=
  some ((-1), M)
set_option maxRecDepth 10000 in
theorem v_X6_best_22 {E : En} {d : Nat} {Q : Po} {n : Nat} {M : Mem} {z : Int × Mem}  (hd : 6 ≤ d) (hF : f_X6_best_22 n M = some z) (hK : Q (some (vl z.1)) z.2) : V E mX6_best d 22 [] [] M Q := by
  unfold f_X6_best_22 at hF
  refine V.ldc2 216 (-1) (-1) (by decide) gw_1173 dX6_best_22 ?_
  cases Option.some.inj hF
  exact V.lret rfl dX6_best_25 hK
def f_X6_best (n : Nat) (x1 : Int) (x2 : Int) (M : Mem) : Option (Int × Mem) :=
  (f_X6_in (wr x1) 0 5 M).bind fun v1 =>
  if wr v1 = 0 then
    f_X6_best_22 n M
  else
    (f_X6_in (wr x2) 0 1 M).bind fun v2 =>
    if wr v2 = 0 then
      f_X6_best_22 n M
    else
      (f_X6_canNow n M).bind fun v3 =>
      if wr v3 = 0 then
        some ((-2), M)
      else
        (f_X6_bestIn n x1 v3 M).bind fun (v4, M5) =>
        (f_X6_oddsOf n v3 M5).bind fun v6 =>
        (f_X6_lowest n v4 v6 x2 M5).bind fun v7 =>
        some (v7, M5)
set_option maxRecDepth 10000 in
theorem v_X6_best_0 {E : En} {d : Nat} {Q : Po} {n : Nat} {x1 : Int} {x2 : Int} {M : Mem} {z : Int × Mem}  (hd : 6 ≤ d) (hF : f_X6_best n x1 x2 M = some z) (hK : Q (some (vl z.1)) z.2) : V E mX6_best d 0 [(0, rf E 46), (1, vi x1), (2, vi x2)] [] M Q := by
  unfold f_X6_best at hF
  refine V.iload_n 1 1 1 rfl dX6_best_0 rfl ?_
  refine V.i2l dX6_best_1 ?_
  refine V.lconst 0 0 (by decide) dX6_best_2 ?_
  refine V.ldc2 109 5 5 (by decide) gw_1001 dX6_best_3 ?_
  replace hF := Option.bind_eq_some_iff.mp hF
  obtain ⟨v1, hv1, hF⟩ := hF
  refine V.callS (d' := d - 1) [vl (wr x1), vl 0, vl 5] [] (c_X6_in (by omega) hv1) okX6_in gw_966 rfl rfl (Nat.le_of_ble_eq_true rfl) (by omega) dX6_best_6 ?_
  rintro _ _ ⟨rfl, rfl⟩
  show V E mX6_best d 9 [(0, rf E 46), (1, vi x1), (2, vi x2)] [vi v1] M _
  refine V.if_eq (tgt := 22) rfl dX6_best_9 (by decide) (fun hc => ?_) (fun hc => ?_)
  · rw [if_pos hc] at hF
    refine V.sub _ [] rfl ?_
    exact v_X6_best_22 hd hF hK
  · rw [if_neg hc] at hF
    refine V.iload_n 2 2 2 rfl dX6_best_12 rfl ?_
    refine V.i2l dX6_best_13 ?_
    refine V.lconst 0 0 (by decide) dX6_best_14 ?_
    refine V.lconst 1 1 (by decide) dX6_best_15 ?_
    replace hF := Option.bind_eq_some_iff.mp hF
    obtain ⟨v2, hv2, hF⟩ := hF
    refine V.callS (d' := d - 1) [vl (wr x2), vl 0, vl 1] [] (c_X6_in (by omega) hv2) okX6_in gw_966 rfl rfl (Nat.le_of_ble_eq_true rfl) (by omega) dX6_best_16 ?_
    rintro _ _ ⟨rfl, rfl⟩
    show V E mX6_best d 19 [(0, rf E 46), (1, vi x1), (2, vi x2)] [vi v2] M _
    refine V.if_ne (tgt := 26) rfl dX6_best_19 (by decide) (fun hc => ?_) (fun hc => ?_)
    · rw [if_neg hc] at hF
      refine V.aload_n 0 0 0 rfl dX6_best_26 rfl ?_
      replace hF := Option.bind_eq_some_iff.mp hF
      obtain ⟨v3, hv3, hF⟩ := hF
      refine V.callV (d' := d - 1) [] [] (c_X6_canNow (by omega) hv3) okX6_canNow gw_1164 rfl rfl (by decide) (hcX6 E _) rfl (Nat.le_of_ble_eq_true rfl) (by omega) dX6_best_27 ?_
      rintro _ _ ⟨rfl, rfl⟩
      show V E mX6_best d 30 [(0, rf E 46), (1, vi x1), (2, vi x2)] [vi v3] M _
      refine V.istore_n 3 3 [(3, vi v3), (0, rf E 46), (1, vi x1), (2, vi x2)] rfl dX6_best_30 (by decide) rfl ?_
      refine V.iload_n 3 3 0 rfl dX6_best_31 rfl ?_
      refine V.if_ne (tgt := 41) rfl dX6_best_32 (by decide) (fun hc => ?_) (fun hc => ?_)
      · rw [if_neg hc] at hF
        refine V.aload_n 0 0 1 rfl dX6_best_41 rfl ?_
        refine V.iload_n 1 1 2 rfl dX6_best_42 rfl ?_
        refine V.iload_n 3 3 0 rfl dX6_best_43 rfl ?_
        replace hF := Option.bind_eq_some_iff.mp hF
        obtain ⟨⟨v4, M5⟩, hv4, hF⟩ := hF
        dsimp only at hF
        refine V.callV (d' := d - 1) [vi x1, vi v3] [] (c_X6_bestIn (by omega) hv4) okX6_bestIn gw_1190 rfl rfl (by decide) (hcX6 E _) rfl (Nat.le_of_ble_eq_true rfl) (by omega) dX6_best_44 ?_
        rintro _ _ ⟨rfl, rfl⟩
        show V E mX6_best d 47 [(3, vi v3), (0, rf E 46), (1, vi x1), (2, vi x2)] [vl v4] M5 _
        refine V.aload_n 0 0 1 rfl dX6_best_47 rfl ?_
        refine V.iload_n 3 3 0 rfl dX6_best_48 rfl ?_
        replace hF := Option.bind_eq_some_iff.mp hF
        obtain ⟨v6, hv6, hF⟩ := hF
        refine V.callV (d' := d - 1) [vi v3] [vl v4] (c_X6_oddsOf (by omega) hv6) okX6_oddsOf gw_1179 rfl rfl (by decide) (hcX6 E _) rfl (Nat.le_of_ble_eq_true rfl) (by omega) dX6_best_49 ?_
        rintro _ _ ⟨rfl, rfl⟩
        show V E mX6_best d 52 [(3, vi v3), (0, rf E 46), (1, vi x1), (2, vi x2)] [vl v6, vl v4] M5 _
        refine V.iload_n 2 2 3 rfl dX6_best_52 rfl ?_
        replace hF := Option.bind_eq_some_iff.mp hF
        obtain ⟨v7, hv7, hF⟩ := hF
        refine V.callS (d' := d - 1) [vl v4, vl v6, vi x2] [] (c_X6_lowest (by omega) hv7) okX6_lowest gw_1183 rfl rfl (Nat.le_of_ble_eq_true rfl) (by omega) dX6_best_53 ?_
        rintro _ _ ⟨rfl, rfl⟩
        show V E mX6_best d 56 [(3, vi v3), (0, rf E 46), (1, vi x1), (2, vi x2)] [vl v7] M5 _
        cases Option.some.inj hF
        exact V.lret rfl dX6_best_56 hK
      · rw [if_pos hc] at hF
        refine V.ldc2 218 (-2) (-2) (by decide) gw_1174 dX6_best_35 ?_
        refine V.goto (tgt := 56) dX6_best_38 (by decide) ?_
        cases Option.some.inj hF
        exact V.lret rfl dX6_best_56 hK
    · rw [if_pos hc] at hF
      refine V.sub _ [] rfl ?_
      exact v_X6_best_22 hd hF hK
theorem c_X6_best {E : En} {d : Nat} {n : Nat} {x1 : Int} {x2 : Int} {M : Mem} {zr : Int} {zM : Mem}  (hd : 6 ≤ d) (hF : f_X6_best n x1 x2 M = some (zr, zM)) : Cn E mX6_best d [rf E 46, vi x1, vi x2] M (fun v N => v = some (vl zr) ∧ zM = N) := by
  refine V.entry (by decide +kernel) (Nat.le_of_ble_eq_true rfl) ?_
  exact v_X6_best_0  hd hF ⟨rfl, rfl⟩
abbrev mX6_choice : MI := (yX6_choice, cX6_choice, 9, (some .int))
theorem okX6_choice : OKV mX6_choice 2 := ⟨gw_1218, gw_1219, gw_64, gw_1220, (by decide +kernel), (by decide)⟩
def f_X6_choice_108 (n : Nat) (x2 : Int) (x4 : Int) (x5 : Int) (x6 : Int) (x8 : Int) (M : Mem) : Option ((Int) ⊕ (Int × Mem)) :=
  (f_X6_byKept n (M 47 21) x5 x4 (M 47 16) x2 x8 M).bind fun v1 =>
  if wl v1 = wl x6 then
    some (.inr (x8, M))
  else
    some (.inl (x8 + 1))
set_option maxRecDepth 10000 in
theorem v_X6_choice_108 {E : En} {d : Nat} {Q : Po} {n : Nat} {x2 : Int} {x4 : Int} {x5 : Int} {x6 : Int} {x8 : Int} {M : Mem} {z : (Int) ⊕ (Int × Mem)}  (hd : 5 ≤ d) (hF : f_X6_choice_108 n x2 x4 x5 x6 x8 M = some z) (hC0 : ∀ s' : Int, z = (.inl s') → V E mX6_choice d 108 [(0, rf E 46), (2, vi x2), (4, vi x4), (5, vi x5), (6, vl x6), (8, vi (s'))] [] M Q) (hX : ∀ z0 : Int × Mem, z = (.inr z0) → Q (some (vi z0.1)) z0.2) : V E mX6_choice d 108 [(0, rf E 46), (2, vi x2), (4, vi x4), (5, vi x5), (6, vl x6), (8, vi x8)] [] M Q := by
  unfold f_X6_choice_108 at hF
  refine V.aload_n 0 0 0 rfl dX6_choice_108 rfl ?_
  refine V.aload_n 0 0 0 rfl dX6_choice_109 rfl ?_
  refine V.get (by decide) (hcX6 E _) rfl inX6 0 (by decide) rfl gw_875 dX6_choice_110 ?_
  refine V.bipush 21 21 (by decide) dX6_choice_113 ?_
  refine V.iald ar_47 (rd_lit 21 21 wr_21 (by decide)) dX6_choice_115 ?_
  refine V.iload 5 3 dX6_choice_116 rfl ?_
  refine V.iload 4 2 dX6_choice_118 rfl ?_
  refine V.aload_n 0 0 0 rfl dX6_choice_120 rfl ?_
  refine V.get (by decide) (hcX6 E _) rfl inX6 0 (by decide) rfl gw_875 dX6_choice_121 ?_
  refine V.bipush 16 16 (by decide) dX6_choice_124 ?_
  refine V.iald ar_47 (rd_lit 16 16 wr_16 (by decide)) dX6_choice_126 ?_
  refine V.iload_n 2 2 1 rfl dX6_choice_127 rfl ?_
  refine V.iload 8 5 dX6_choice_128 rfl ?_
  replace hF := Option.bind_eq_some_iff.mp hF
  obtain ⟨v1, hv1, hF⟩ := hF
  refine V.callV (d' := d - 1) [vi (M 47 21), vi x5, vi x4, vi (M 47 16), vi x2, vi x8] [] (c_X6_byKept (by omega) hv1) okX6_byKept gw_1209 rfl rfl (by decide) (hcX6 E _) rfl (Nat.le_of_ble_eq_true rfl) (by omega) dX6_choice_130 ?_
  rintro _ _ ⟨rfl, rfl⟩
  show V E mX6_choice d 133 [(0, rf E 46), (2, vi x2), (4, vi x4), (5, vi x5), (6, vl x6), (8, vi x8)] [vl v1] M _
  refine V.lload 6 4 dX6_choice_133 rfl ?_
  refine V.lcmp_eq (tgt := 145) rfl rfl dX6_choice_135 dX6_choice_136 (by decide) (fun hc => ?_) (fun hc => ?_)
  · rw [if_pos hc] at hF
    refine V.iload 8 5 dX6_choice_145 rfl ?_
    cases Option.some.inj hF
    exact V.iret rfl dX6_choice_147 (hX _ rfl)
  · rw [if_neg hc] at hF
    refine V.iinc 8 5 1 [(8, vi (x8 + 1)), (0, rf E 46), (2, vi x2), (4, vi x4), (5, vi x5), (6, vl x6)] dX6_choice_139 rfl (by decide) rfl ?_
    refine V.goto (tgt := 108) dX6_choice_142 (by decide) ?_
    cases Option.some.inj hF
    refine V.sub _ [1, 2, 3, 4, 5, 0] rfl ?_
    exact hC0 _ rfl
theorem l_X6_choice_108 {E : En} {d : Nat} {Q : Po} {n : Nat} {x2 : Int} {x4 : Int} {x5 : Int} {x6 : Int} {M : Mem} {k : Nat} {s : Int} {z : Int × Mem}  (hd : 5 ≤ d) (hF : lp (fun s => f_X6_choice_108 n x2 x4 x5 x6 s M) k s = some z) (hK : Q (some (vi z.1)) z.2) : V E mX6_choice d 108 [(0, rf E 46), (2, vi x2), (4, vi x4), (5, vi x5), (6, vl x6), (8, vi s)] [] M Q := by
  refine lp_ind (P := fun s => V E mX6_choice d 108 [(0, rf E 46), (2, vi x2), (4, vi x4), (5, vi x5), (6, vl x6), (8, vi s)] [] M Q) (z0 := z) ?_ k s hF
  intro s z' hF hc hx
  exact v_X6_choice_108 hd hF (fun s' e => hc s' e) (fun z0 e => by rw [hx _ e]; exact hK)
def f_X6_choice (n : Nat) (x1 : Int) (x2 : Int) (M : Mem) : Option (Int × Mem) :=
  (f_X6_in (wr x1) 1 5 M).bind fun v1 =>
  if wr v1 = 0 then
    some ((-1), M)
  else
    (f_X6_isFat x2 M).bind fun v2 =>
    if wr v2 = 0 then
      some ((-1), M)
    else
      (f_X6_canNow n M).bind fun v3 =>
      if wr v3 = 0 then
        some ((-2), M)
      else
        if wr (M 47 21) = 8 then
          some ((-2), M)
        else
          (f_X6_areSo n v3 (M 47 21) x2 M).bind fun v4 =>
          if wr v4 = 0 then
            some ((-4), M)
          else
            (f_X6_yearsLeft x1 M).bind fun v5 =>
            (f_X6_layWorths n v5 M).bind fun M6 =>
            (f_X6_bestSo n (M6 47 21) v5 v3 (M6 47 16) x2 M6).bind fun v7 =>
            lp (fun s => f_X6_choice_108 n x2 v4 v5 v7 s M6) n 0
set_option maxRecDepth 10000 in
theorem v_X6_choice_0 {E : En} {d : Nat} {Q : Po} {n : Nat} {x1 : Int} {x2 : Int} {M : Mem} {z : Int × Mem}  (hd : 5 ≤ d) (hF : f_X6_choice n x1 x2 M = some z) (hK : Q (some (vi z.1)) z.2) : V E mX6_choice d 0 [(0, rf E 46), (1, vi x1), (2, vi x2)] [] M Q := by
  unfold f_X6_choice at hF
  refine V.iload_n 1 1 1 rfl dX6_choice_0 rfl ?_
  refine V.i2l dX6_choice_1 ?_
  refine V.lconst 1 1 (by decide) dX6_choice_2 ?_
  refine V.ldc2 109 5 5 (by decide) gw_1001 dX6_choice_3 ?_
  replace hF := Option.bind_eq_some_iff.mp hF
  obtain ⟨v1, hv1, hF⟩ := hF
  refine V.callS (d' := d - 1) [vl (wr x1), vl 1, vl 5] [] (c_X6_in (by omega) hv1) okX6_in gw_966 rfl rfl (Nat.le_of_ble_eq_true rfl) (by omega) dX6_choice_6 ?_
  rintro _ _ ⟨rfl, rfl⟩
  show V E mX6_choice d 9 [(0, rf E 46), (1, vi x1), (2, vi x2)] [vi v1] M _
  refine V.if_eq (tgt := 19) rfl dX6_choice_9 (by decide) (fun hc => ?_) (fun hc => ?_)
  · rw [if_pos hc] at hF
    refine V.iconst (-1) dX6_choice_19 ?_
    cases Option.some.inj hF
    exact V.iret rfl dX6_choice_20 hK
  · rw [if_neg hc] at hF
    refine V.iload_n 2 2 2 rfl dX6_choice_12 rfl ?_
    replace hF := Option.bind_eq_some_iff.mp hF
    obtain ⟨v2, hv2, hF⟩ := hF
    refine V.callS (d' := d - 1) [vi x2] [] (c_X6_isFat (by omega) hv2) okX6_isFat gw_1056 rfl rfl (Nat.le_of_ble_eq_true rfl) (by omega) dX6_choice_13 ?_
    rintro _ _ ⟨rfl, rfl⟩
    show V E mX6_choice d 16 [(0, rf E 46), (1, vi x1), (2, vi x2)] [vi v2] M _
    refine V.if_ne (tgt := 21) rfl dX6_choice_16 (by decide) (fun hc => ?_) (fun hc => ?_)
    · rw [if_neg hc] at hF
      refine V.aload_n 0 0 0 rfl dX6_choice_21 rfl ?_
      replace hF := Option.bind_eq_some_iff.mp hF
      obtain ⟨v3, hv3, hF⟩ := hF
      refine V.callV (d' := d - 1) [] [] (c_X6_canNow (by omega) hv3) okX6_canNow gw_1164 rfl rfl (by decide) (hcX6 E _) rfl (Nat.le_of_ble_eq_true rfl) (by omega) dX6_choice_22 ?_
      rintro _ _ ⟨rfl, rfl⟩
      show V E mX6_choice d 25 [(0, rf E 46), (1, vi x1), (2, vi x2)] [vi v3] M _
      refine V.istore_n 3 3 [(3, vi v3), (0, rf E 46), (1, vi x1), (2, vi x2)] rfl dX6_choice_25 (by decide) rfl ?_
      refine V.iload_n 3 3 0 rfl dX6_choice_26 rfl ?_
      refine V.if_eq (tgt := 42) rfl dX6_choice_27 (by decide) (fun hc => ?_) (fun hc => ?_)
      · rw [if_pos hc] at hF
        refine V.bipush (-2) (-2) (by decide) dX6_choice_42 ?_
        cases Option.some.inj hF
        exact V.iret rfl dX6_choice_44 hK
      · rw [if_neg hc] at hF
        refine V.aload_n 0 0 1 rfl dX6_choice_30 rfl ?_
        refine V.get (by decide) (hcX6 E _) rfl inX6 0 (by decide) rfl gw_875 dX6_choice_31 ?_
        refine V.bipush 21 21 (by decide) dX6_choice_34 ?_
        refine V.iald ar_47 (rd_lit 21 21 wr_21 (by decide)) dX6_choice_36 ?_
        refine V.bipush 8 8 (by decide) dX6_choice_37 ?_
        refine V.icmp_ne (tgt := 45) rfl wr_8 dX6_choice_39 (by decide) (fun hc => ?_) (fun hc => ?_)
        · rw [if_neg hc] at hF
          refine V.aload_n 0 0 1 rfl dX6_choice_45 rfl ?_
          refine V.iload_n 3 3 0 rfl dX6_choice_46 rfl ?_
          refine V.aload_n 0 0 1 rfl dX6_choice_47 rfl ?_
          refine V.get (by decide) (hcX6 E _) rfl inX6 0 (by decide) rfl gw_875 dX6_choice_48 ?_
          refine V.bipush 21 21 (by decide) dX6_choice_51 ?_
          refine V.iald ar_47 (rd_lit 21 21 wr_21 (by decide)) dX6_choice_53 ?_
          refine V.iload_n 2 2 3 rfl dX6_choice_54 rfl ?_
          replace hF := Option.bind_eq_some_iff.mp hF
          obtain ⟨v4, hv4, hF⟩ := hF
          refine V.callV (d' := d - 1) [vi v3, vi (M 47 21), vi x2] [] (c_X6_areSo (by omega) hv4) okX6_areSo gw_1175 rfl rfl (by decide) (hcX6 E _) rfl (Nat.le_of_ble_eq_true rfl) (by omega) dX6_choice_55 ?_
          rintro _ _ ⟨rfl, rfl⟩
          show V E mX6_choice d 58 [(3, vi v3), (0, rf E 46), (1, vi x1), (2, vi x2)] [vi v4] M _
          refine V.istore 4 [(4, vi v4), (3, vi v3), (0, rf E 46), (1, vi x1), (2, vi x2)] dX6_choice_58 (by decide) rfl ?_
          refine V.iload 4 0 dX6_choice_60 rfl ?_
          refine V.if_ne (tgt := 68) rfl dX6_choice_62 (by decide) (fun hc => ?_) (fun hc => ?_)
          · rw [if_neg hc] at hF
            refine V.aload_n 0 0 2 rfl dX6_choice_68 rfl ?_
            refine V.iload_n 1 1 3 rfl dX6_choice_69 rfl ?_
            replace hF := Option.bind_eq_some_iff.mp hF
            obtain ⟨v5, hv5, hF⟩ := hF
            refine V.callV (d' := d - 1) [vi x1] [] (c_X6_yearsLeft (by omega) hv5) okX6_yearsLeft gw_1194 rfl rfl (by decide) (hcX6 E _) rfl (Nat.le_of_ble_eq_true rfl) (by omega) dX6_choice_70 ?_
            rintro _ _ ⟨rfl, rfl⟩
            show V E mX6_choice d 73 [(4, vi v4), (3, vi v3), (0, rf E 46), (1, vi x1), (2, vi x2)] [vi v5] M _
            refine V.istore 5 [(5, vi v5), (4, vi v4), (3, vi v3), (0, rf E 46), (1, vi x1), (2, vi x2)] dX6_choice_73 (by decide) rfl ?_
            refine V.aload_n 0 0 3 rfl dX6_choice_75 rfl ?_
            refine V.iload 5 0 dX6_choice_76 rfl ?_
            replace hF := Option.bind_eq_some_iff.mp hF
            obtain ⟨M6, hM6, hF⟩ := hF
            refine V.callV (d' := d - 1) [vi v5] [] (c_X6_layWorths (by omega) hM6) okX6_layWorths gw_1198 rfl rfl (by decide) (hcX6 E _) rfl (Nat.le_of_ble_eq_true rfl) (by omega) dX6_choice_78 ?_
            rintro _ _ ⟨rfl, rfl⟩
            show V E mX6_choice d 81 [(5, vi v5), (4, vi v4), (3, vi v3), (0, rf E 46), (1, vi x1), (2, vi x2)] [] M6 _
            refine V.aload_n 0 0 3 rfl dX6_choice_81 rfl ?_
            refine V.aload_n 0 0 3 rfl dX6_choice_82 rfl ?_
            refine V.get (by decide) (hcX6 E _) rfl inX6 0 (by decide) rfl gw_875 dX6_choice_83 ?_
            refine V.bipush 21 21 (by decide) dX6_choice_86 ?_
            refine V.iald ar_47 (rd_lit 21 21 wr_21 (by decide)) dX6_choice_88 ?_
            refine V.iload 5 0 dX6_choice_89 rfl ?_
            refine V.iload_n 3 3 2 rfl dX6_choice_91 rfl ?_
            refine V.aload_n 0 0 3 rfl dX6_choice_92 rfl ?_
            refine V.get (by decide) (hcX6 E _) rfl inX6 0 (by decide) rfl gw_875 dX6_choice_93 ?_
            refine V.bipush 16 16 (by decide) dX6_choice_96 ?_
            refine V.iald ar_47 (rd_lit 16 16 wr_16 (by decide)) dX6_choice_98 ?_
            refine V.iload_n 2 2 5 rfl dX6_choice_99 rfl ?_
            replace hF := Option.bind_eq_some_iff.mp hF
            obtain ⟨v7, hv7, hF⟩ := hF
            refine V.callV (d' := d - 1) [vi (M6 47 21), vi v5, vi v3, vi (M6 47 16), vi x2] [] (c_X6_bestSo (by omega) hv7) okX6_bestSo gw_1205 rfl rfl (by decide) (hcX6 E _) rfl (Nat.le_of_ble_eq_true rfl) (by omega) dX6_choice_100 ?_
            rintro _ _ ⟨rfl, rfl⟩
            show V E mX6_choice d 103 [(5, vi v5), (4, vi v4), (3, vi v3), (0, rf E 46), (1, vi x1), (2, vi x2)] [vl v7] M6 _
            refine V.lstore 6 [(6, vl v7), (5, vi v5), (4, vi v4), (3, vi v3), (0, rf E 46), (1, vi x1), (2, vi x2)] dX6_choice_103 (by decide) rfl ?_
            refine V.iconst 0 dX6_choice_105 ?_
            refine V.istore 8 [(8, vi 0), (6, vl v7), (5, vi v5), (4, vi v4), (3, vi v3), (0, rf E 46), (1, vi x1), (2, vi x2)] dX6_choice_106 (by decide) rfl ?_
            refine V.sub _ [5, 7, 3, 2, 1, 0] rfl ?_
            exact l_X6_choice_108 hd hF hK
          · rw [if_pos hc] at hF
            refine V.bipush (-4) (-4) (by decide) dX6_choice_65 ?_
            cases Option.some.inj hF
            exact V.iret rfl dX6_choice_67 hK
        · rw [if_pos hc] at hF
          refine V.bipush (-2) (-2) (by decide) dX6_choice_42 ?_
          cases Option.some.inj hF
          exact V.iret rfl dX6_choice_44 hK
    · rw [if_pos hc] at hF
      refine V.iconst (-1) dX6_choice_19 ?_
      cases Option.some.inj hF
      exact V.iret rfl dX6_choice_20 hK
theorem c_X6_choice {E : En} {d : Nat} {n : Nat} {x1 : Int} {x2 : Int} {M : Mem} {zr : Int} {zM : Mem}  (hd : 5 ≤ d) (hF : f_X6_choice n x1 x2 M = some (zr, zM)) : Cn E mX6_choice d [rf E 46, vi x1, vi x2] M (fun v N => v = some (vi zr) ∧ zM = N) := by
  refine V.entry (by decide +kernel) (Nat.le_of_ble_eq_true rfl) ?_
  exact v_X6_choice_0  hd hF ⟨rfl, rfl⟩
abbrev mX6_knowing : MI := (yX6_knowing, cX6_knowing, 7, (some .long))
theorem okX6_knowing : OKV mX6_knowing 2 := ⟨gw_1222, gw_1223, gw_64, gw_1224, (by decide +kernel), (by decide)⟩
def f_X6_knowing_22 (n : Nat) (M : Mem) : Option (Int × Mem) :=
  some ((-1), M)
set_option maxRecDepth 10000 in
theorem v_X6_knowing_22 {E : En} {d : Nat} {Q : Po} {n : Nat} {M : Mem} {z : Int × Mem}  (hd : 6 ≤ d) (hF : f_X6_knowing_22 n M = some z) (hK : Q (some (vl z.1)) z.2) : V E mX6_knowing d 22 [] [] M Q := by
  unfold f_X6_knowing_22 at hF
  refine V.ldc2 216 (-1) (-1) (by decide) gw_1173 dX6_knowing_22 ?_
  cases Option.some.inj hF
  exact V.lret rfl dX6_knowing_25 hK
def f_X6_knowing_94 (n : Nat) (x2 : Int) (x3 : Int) (x4 : Int) (M : Mem) : Option (Int × Mem) :=
  (f_X6_oddsOf n x3 M).bind fun v1 =>
  (f_X6_lowest n x4 v1 x2 M).bind fun v2 =>
  some (v2, M)
set_option maxRecDepth 10000 in
theorem v_X6_knowing_94 {E : En} {d : Nat} {Q : Po} {n : Nat} {x2 : Int} {x3 : Int} {x4 : Int} {M : Mem} {z : Int × Mem}  (hd : 6 ≤ d) (hF : f_X6_knowing_94 n x2 x3 x4 M = some z) (hK : Q (some (vl z.1)) z.2) : V E mX6_knowing d 94 [(0, rf E 46), (2, vi x2), (3, vi x3), (4, vl x4)] [] M Q := by
  unfold f_X6_knowing_94 at hF
  refine V.lload 4 3 dX6_knowing_94 rfl ?_
  refine V.aload_n 0 0 0 rfl dX6_knowing_96 rfl ?_
  refine V.iload_n 3 3 2 rfl dX6_knowing_97 rfl ?_
  replace hF := Option.bind_eq_some_iff.mp hF
  obtain ⟨v1, hv1, hF⟩ := hF
  refine V.callV (d' := d - 1) [vi x3] [vl x4] (c_X6_oddsOf (by omega) hv1) okX6_oddsOf gw_1179 rfl rfl (by decide) (hcX6 E _) rfl (Nat.le_of_ble_eq_true rfl) (by omega) dX6_knowing_98 ?_
  rintro _ _ ⟨rfl, rfl⟩
  show V E mX6_knowing d 101 [(0, rf E 46), (2, vi x2), (3, vi x3), (4, vl x4)] [vl v1, vl x4] M _
  refine V.iload_n 2 2 1 rfl dX6_knowing_101 rfl ?_
  replace hF := Option.bind_eq_some_iff.mp hF
  obtain ⟨v2, hv2, hF⟩ := hF
  refine V.callS (d' := d - 1) [vl x4, vl v1, vi x2] [] (c_X6_lowest (by omega) hv2) okX6_lowest gw_1183 rfl rfl (Nat.le_of_ble_eq_true rfl) (by omega) dX6_knowing_102 ?_
  rintro _ _ ⟨rfl, rfl⟩
  show V E mX6_knowing d 105 [(0, rf E 46), (2, vi x2), (3, vi x3), (4, vl x4)] [vl v2] M _
  cases Option.some.inj hF
  exact V.lret rfl dX6_knowing_105 hK
def f_X6_knowing_85 (n : Nat) (x1 : Int) (x2 : Int) (x3 : Int) (x6 : Int) (s0 : Int) (s1 : Int) (M : Mem) : Option ((Int × Int × Mem) ⊕ (Int × Mem)) :=
  some (.inl (s1 + s0, x6 + 1, M))
set_option maxRecDepth 10000 in
theorem v_X6_knowing_85 {E : En} {d : Nat} {Q : Po} {n : Nat} {x1 : Int} {x2 : Int} {x3 : Int} {x6 : Int} {s0 : Int} {s1 : Int} {M : Mem} {z : (Int × Int × Mem) ⊕ (Int × Mem)}  (hd : 6 ≤ d) (hF : f_X6_knowing_85 n x1 x2 x3 x6 s0 s1 M = some z) (hC0 : ∀ s' : Int × Int × Mem, z = (.inl s') → V E mX6_knowing d 51 [(0, rf E 46), (1, vi x1), (2, vi x2), (3, vi x3), (4, vl (s'.1)), (6, vi (s'.2.1))] [] s'.2.2 Q) (hX : ∀ z0 : Int × Mem, z = (.inr z0) → Q (some (vl z0.1)) z0.2) : V E mX6_knowing d 85 [(0, rf E 46), (1, vi x1), (2, vi x2), (3, vi x3), (6, vi x6)] [vl s0, vl s1] M Q := by
  unfold f_X6_knowing_85 at hF
  refine V.ladd dX6_knowing_85 ?_
  refine V.lstore 4 [(4, vl (s1 + s0)), (0, rf E 46), (1, vi x1), (2, vi x2), (3, vi x3), (6, vi x6)] dX6_knowing_86 (by decide) rfl ?_
  refine V.iinc 6 5 1 [(6, vi (x6 + 1)), (4, vl (s1 + s0)), (0, rf E 46), (1, vi x1), (2, vi x2), (3, vi x3)] dX6_knowing_88 rfl (by decide) rfl ?_
  refine V.goto (tgt := 51) dX6_knowing_91 (by decide) ?_
  cases Option.some.inj hF
  refine V.sub _ [2, 3, 4, 5, 1, 0] rfl ?_
  exact hC0 _ rfl
def f_X6_knowing_51 (n : Nat) (x1 : Int) (x2 : Int) (x3 : Int) (x4 : Int) (x6 : Int) (M : Mem) : Option ((Int × Int × Mem) ⊕ (Int × Mem)) :=
  if wr (M 46 3) ≤ wr x6 then
    (f_X6_knowing_94 n x2 x3 x4 M).map Sum.inr
  else
    if wr (bAnd (bShr x3 x6) 1) = 1 then
      (f_X6_bestIn n x1 (bShl 1 x6) M).bind fun (v1, M2) =>
      f_X6_knowing_85 n x1 x2 x3 x6 v1 x4 M2
    else
      f_X6_knowing_85 n x1 x2 x3 x6 0 x4 M
set_option maxRecDepth 10000 in
theorem v_X6_knowing_51 {E : En} {d : Nat} {Q : Po} {n : Nat} {x1 : Int} {x2 : Int} {x3 : Int} {x4 : Int} {x6 : Int} {M : Mem} {z : (Int × Int × Mem) ⊕ (Int × Mem)}  (hd : 6 ≤ d) (hF : f_X6_knowing_51 n x1 x2 x3 x4 x6 M = some z) (hC0 : ∀ s' : Int × Int × Mem, z = (.inl s') → V E mX6_knowing d 51 [(0, rf E 46), (1, vi x1), (2, vi x2), (3, vi x3), (4, vl (s'.1)), (6, vi (s'.2.1))] [] s'.2.2 Q) (hX : ∀ z0 : Int × Mem, z = (.inr z0) → Q (some (vl z0.1)) z0.2) : V E mX6_knowing d 51 [(0, rf E 46), (1, vi x1), (2, vi x2), (3, vi x3), (4, vl x4), (6, vi x6)] [] M Q := by
  unfold f_X6_knowing_51 at hF
  refine V.iload 6 5 dX6_knowing_51 rfl ?_
  refine V.aload_n 0 0 0 rfl dX6_knowing_53 rfl ?_
  refine V.get (by decide) (hcX6 E _) rfl inX6 3 (by decide) rfl gw_878 dX6_knowing_54 ?_
  refine V.icmp_ge (tgt := 94) rfl rfl dX6_knowing_57 (by decide) (fun hc => ?_) (fun hc => ?_)
  · rw [if_pos hc] at hF
    replace hF := Option.map_eq_some_iff.mp hF
    obtain ⟨z0, hF, rfl⟩ := hF
    refine V.sub _ [0, 2, 3, 4] rfl ?_
    exact v_X6_knowing_94 hd hF (hX _ rfl)
  · rw [if_neg hc] at hF
    refine V.lload 4 4 dX6_knowing_60 rfl ?_
    refine V.iload_n 3 3 3 rfl dX6_knowing_62 rfl ?_
    refine V.iload 6 5 dX6_knowing_63 rfl ?_
    refine V.ishr dX6_knowing_65 ?_
    refine V.iconst 1 dX6_knowing_66 ?_
    refine V.iand dX6_knowing_67 ?_
    refine V.iconst 1 dX6_knowing_68 ?_
    refine V.icmp_ne (tgt := 84) rfl wr_1 dX6_knowing_69 (by decide) (fun hc => ?_) (fun hc => ?_)
    · rw [if_neg hc] at hF
      refine V.lconst 0 0 (by decide) dX6_knowing_84 ?_
      refine V.sub _ [0, 1, 2, 3, 5] rfl ?_
      exact v_X6_knowing_85 hd hF hC0 hX
    · rw [if_pos hc] at hF
      refine V.aload_n 0 0 0 rfl dX6_knowing_72 rfl ?_
      refine V.iload_n 1 1 1 rfl dX6_knowing_73 rfl ?_
      refine V.iconst 1 dX6_knowing_74 ?_
      refine V.iload 6 5 dX6_knowing_75 rfl ?_
      refine V.ishl dX6_knowing_77 ?_
      replace hF := Option.bind_eq_some_iff.mp hF
      obtain ⟨⟨v1, M2⟩, hv1, hF⟩ := hF
      dsimp only at hF
      refine V.callV (d' := d - 1) [vi x1, vi (bShl 1 x6)] [vl x4] (c_X6_bestIn (by omega) hv1) okX6_bestIn gw_1190 rfl rfl (by decide) (hcX6 E _) rfl (Nat.le_of_ble_eq_true rfl) (by omega) dX6_knowing_78 ?_
      rintro _ _ ⟨rfl, rfl⟩
      show V E mX6_knowing d 81 [(0, rf E 46), (1, vi x1), (2, vi x2), (3, vi x3), (4, vl x4), (6, vi x6)] [vl v1, vl x4] M2 _
      refine V.goto (tgt := 85) dX6_knowing_81 (by decide) ?_
      refine V.sub _ [0, 1, 2, 3, 5] rfl ?_
      exact v_X6_knowing_85 hd hF hC0 hX
theorem l_X6_knowing_51 {E : En} {d : Nat} {Q : Po} {n : Nat} {x1 : Int} {x2 : Int} {x3 : Int} {k : Nat} {s : Int × Int × Mem} {z : Int × Mem}  (hd : 6 ≤ d) (hF : lp (fun s => f_X6_knowing_51 n x1 x2 x3 s.1 s.2.1 s.2.2) k s = some z) (hK : Q (some (vl z.1)) z.2) : V E mX6_knowing d 51 [(0, rf E 46), (1, vi x1), (2, vi x2), (3, vi x3), (4, vl s.1), (6, vi s.2.1)] [] s.2.2 Q := by
  refine lp_ind (P := fun s => V E mX6_knowing d 51 [(0, rf E 46), (1, vi x1), (2, vi x2), (3, vi x3), (4, vl s.1), (6, vi s.2.1)] [] s.2.2 Q) (z0 := z) ?_ k s hF
  intro s z' hF hc hx
  exact v_X6_knowing_51 hd hF (fun s' e => hc s' e) (fun z0 e => by rw [hx _ e]; exact hK)
def f_X6_knowing (n : Nat) (x1 : Int) (x2 : Int) (M : Mem) : Option (Int × Mem) :=
  (f_X6_in (wr x1) 0 5 M).bind fun v1 =>
  if wr v1 = 0 then
    f_X6_knowing_22 n M
  else
    (f_X6_in (wr x2) 0 1 M).bind fun v2 =>
    if wr v2 = 0 then
      f_X6_knowing_22 n M
    else
      (f_X6_canNow n M).bind fun v3 =>
      if wr v3 = 0 then
        some ((-2), M)
      else
        (f_X6_bestIn n x1 v3 M).bind fun (v4, M5) =>
        lp (fun s => f_X6_knowing_51 n x1 x2 v3 s.1 s.2.1 s.2.2) n (-v4, 0, M5)
set_option maxRecDepth 10000 in
theorem v_X6_knowing_0 {E : En} {d : Nat} {Q : Po} {n : Nat} {x1 : Int} {x2 : Int} {M : Mem} {z : Int × Mem}  (hd : 6 ≤ d) (hF : f_X6_knowing n x1 x2 M = some z) (hK : Q (some (vl z.1)) z.2) : V E mX6_knowing d 0 [(0, rf E 46), (1, vi x1), (2, vi x2)] [] M Q := by
  unfold f_X6_knowing at hF
  refine V.iload_n 1 1 1 rfl dX6_knowing_0 rfl ?_
  refine V.i2l dX6_knowing_1 ?_
  refine V.lconst 0 0 (by decide) dX6_knowing_2 ?_
  refine V.ldc2 109 5 5 (by decide) gw_1001 dX6_knowing_3 ?_
  replace hF := Option.bind_eq_some_iff.mp hF
  obtain ⟨v1, hv1, hF⟩ := hF
  refine V.callS (d' := d - 1) [vl (wr x1), vl 0, vl 5] [] (c_X6_in (by omega) hv1) okX6_in gw_966 rfl rfl (Nat.le_of_ble_eq_true rfl) (by omega) dX6_knowing_6 ?_
  rintro _ _ ⟨rfl, rfl⟩
  show V E mX6_knowing d 9 [(0, rf E 46), (1, vi x1), (2, vi x2)] [vi v1] M _
  refine V.if_eq (tgt := 22) rfl dX6_knowing_9 (by decide) (fun hc => ?_) (fun hc => ?_)
  · rw [if_pos hc] at hF
    refine V.sub _ [] rfl ?_
    exact v_X6_knowing_22 hd hF hK
  · rw [if_neg hc] at hF
    refine V.iload_n 2 2 2 rfl dX6_knowing_12 rfl ?_
    refine V.i2l dX6_knowing_13 ?_
    refine V.lconst 0 0 (by decide) dX6_knowing_14 ?_
    refine V.lconst 1 1 (by decide) dX6_knowing_15 ?_
    replace hF := Option.bind_eq_some_iff.mp hF
    obtain ⟨v2, hv2, hF⟩ := hF
    refine V.callS (d' := d - 1) [vl (wr x2), vl 0, vl 1] [] (c_X6_in (by omega) hv2) okX6_in gw_966 rfl rfl (Nat.le_of_ble_eq_true rfl) (by omega) dX6_knowing_16 ?_
    rintro _ _ ⟨rfl, rfl⟩
    show V E mX6_knowing d 19 [(0, rf E 46), (1, vi x1), (2, vi x2)] [vi v2] M _
    refine V.if_ne (tgt := 26) rfl dX6_knowing_19 (by decide) (fun hc => ?_) (fun hc => ?_)
    · rw [if_neg hc] at hF
      refine V.aload_n 0 0 0 rfl dX6_knowing_26 rfl ?_
      replace hF := Option.bind_eq_some_iff.mp hF
      obtain ⟨v3, hv3, hF⟩ := hF
      refine V.callV (d' := d - 1) [] [] (c_X6_canNow (by omega) hv3) okX6_canNow gw_1164 rfl rfl (by decide) (hcX6 E _) rfl (Nat.le_of_ble_eq_true rfl) (by omega) dX6_knowing_27 ?_
      rintro _ _ ⟨rfl, rfl⟩
      show V E mX6_knowing d 30 [(0, rf E 46), (1, vi x1), (2, vi x2)] [vi v3] M _
      refine V.istore_n 3 3 [(3, vi v3), (0, rf E 46), (1, vi x1), (2, vi x2)] rfl dX6_knowing_30 (by decide) rfl ?_
      refine V.iload_n 3 3 0 rfl dX6_knowing_31 rfl ?_
      refine V.if_ne (tgt := 39) rfl dX6_knowing_32 (by decide) (fun hc => ?_) (fun hc => ?_)
      · rw [if_neg hc] at hF
        refine V.aload_n 0 0 1 rfl dX6_knowing_39 rfl ?_
        refine V.iload_n 1 1 2 rfl dX6_knowing_40 rfl ?_
        refine V.iload_n 3 3 0 rfl dX6_knowing_41 rfl ?_
        replace hF := Option.bind_eq_some_iff.mp hF
        obtain ⟨⟨v4, M5⟩, hv4, hF⟩ := hF
        dsimp only at hF
        refine V.callV (d' := d - 1) [vi x1, vi v3] [] (c_X6_bestIn (by omega) hv4) okX6_bestIn gw_1190 rfl rfl (by decide) (hcX6 E _) rfl (Nat.le_of_ble_eq_true rfl) (by omega) dX6_knowing_42 ?_
        rintro _ _ ⟨rfl, rfl⟩
        show V E mX6_knowing d 45 [(3, vi v3), (0, rf E 46), (1, vi x1), (2, vi x2)] [vl v4] M5 _
        refine V.lneg dX6_knowing_45 ?_
        refine V.lstore 4 [(4, vl (-v4)), (3, vi v3), (0, rf E 46), (1, vi x1), (2, vi x2)] dX6_knowing_46 (by decide) rfl ?_
        refine V.iconst 0 dX6_knowing_48 ?_
        refine V.istore 6 [(6, vi 0), (4, vl (-v4)), (3, vi v3), (0, rf E 46), (1, vi x1), (2, vi x2)] dX6_knowing_49 (by decide) rfl ?_
        refine V.sub _ [3, 4, 5, 2, 1, 0] rfl ?_
        exact l_X6_knowing_51 hd hF hK
      · rw [if_pos hc] at hF
        refine V.ldc2 218 (-2) (-2) (by decide) gw_1174 dX6_knowing_35 ?_
        cases Option.some.inj hF
        exact V.lret rfl dX6_knowing_38 hK
    · rw [if_pos hc] at hF
      refine V.sub _ [] rfl ?_
      exact v_X6_knowing_22 hd hF hK
theorem c_X6_knowing {E : En} {d : Nat} {n : Nat} {x1 : Int} {x2 : Int} {M : Mem} {zr : Int} {zM : Mem}  (hd : 6 ≤ d) (hF : f_X6_knowing n x1 x2 M = some (zr, zM)) : Cn E mX6_knowing d [rf E 46, vi x1, vi x2] M (fun v N => v = some (vl zr) ∧ zM = N) := by
  refine V.entry (by decide +kernel) (Nat.le_of_ble_eq_true rfl) ?_
  exact v_X6_knowing_0  hd hF ⟨rfl, rfl⟩
abbrev mX6_worth : MI := (yX6_worth, cX6_worth, 11, (some .long))
theorem okX6_worth : OKV mX6_worth 3 := ⟨gw_1226, gw_1227, gw_64, gw_1228, (by decide +kernel), (by decide)⟩
def f_X6_worth_30 (n : Nat) (M : Mem) : Option (Int × Mem) :=
  some ((-1), M)
set_option maxRecDepth 10000 in
theorem v_X6_worth_30 {E : En} {d : Nat} {Q : Po} {n : Nat} {M : Mem} {z : Int × Mem}  (hd : 6 ≤ d) (hF : f_X6_worth_30 n M = some z) (hK : Q (some (vl z.1)) z.2) : V E mX6_worth d 30 [] [] M Q := by
  unfold f_X6_worth_30 at hF
  refine V.ldc2 216 (-1) (-1) (by decide) gw_1173 dX6_worth_30 ?_
  cases Option.some.inj hF
  exact V.lret rfl dX6_worth_33 hK
def f_X6_worth (n : Nat) (x1 : Int) (x2 : Int) (x3 : Int) (M : Mem) : Option (Int × Mem) :=
  (f_X6_isLand x1 M).bind fun v1 =>
  if wr v1 = 0 then
    f_X6_worth_30 n M
  else
    (f_X6_in (wr x2) 0 5 M).bind fun v2 =>
    if wr v2 = 0 then
      f_X6_worth_30 n M
    else
      (f_X6_in (wr x3) 0 1 M).bind fun v3 =>
      if wr v3 = 0 then
        f_X6_worth_30 n M
      else
        (f_X6_canNow n M).bind fun v4 =>
        if wr v4 = 0 then
          some ((-2), M)
        else
          (f_X6_bestIn n x2 v4 M).bind fun (v5, M6) =>
          (rd M6 47 125 (2 * x1)).bind fun v7 =>
          (rd M6 47 125 ((2 * x1) + 1)).bind fun v8 =>
          (wt M6 47 125 (2 * x1) 0).bind fun M9 =>
          (wt M9 47 125 ((2 * x1) + 1) 0).bind fun M10 =>
          (f_X6_bestIn n x2 v4 M10).bind fun (v11, M12) =>
          (wt M12 47 125 (2 * x1) v7).bind fun M13 =>
          (wt M13 47 125 ((2 * x1) + 1) v8).bind fun M14 =>
          (f_X6_oddsOf n v4 M14).bind fun v15 =>
          (f_X6_lowest n (v5 - v11) v15 x3 M14).bind fun v16 =>
          some (v16, M14)
set_option maxRecDepth 10000 in
theorem v_X6_worth_0 {E : En} {d : Nat} {Q : Po} {n : Nat} {x1 : Int} {x2 : Int} {x3 : Int} {M : Mem} {z : Int × Mem}  (hd : 6 ≤ d) (hF : f_X6_worth n x1 x2 x3 M = some z) (hK : Q (some (vl z.1)) z.2) : V E mX6_worth d 0 [(0, rf E 46), (1, vi x1), (2, vi x2), (3, vi x3)] [] M Q := by
  unfold f_X6_worth at hF
  refine V.aload_n 0 0 0 rfl dX6_worth_0 rfl ?_
  refine V.iload_n 1 1 1 rfl dX6_worth_1 rfl ?_
  replace hF := Option.bind_eq_some_iff.mp hF
  obtain ⟨v1, hv1, hF⟩ := hF
  refine V.callV (d' := d - 1) [vi x1] [] (c_X6_isLand (by omega) hv1) okX6_isLand gw_1034 rfl rfl (by decide) (hcX6 E _) rfl (Nat.le_of_ble_eq_true rfl) (by omega) dX6_worth_2 ?_
  rintro _ _ ⟨rfl, rfl⟩
  show V E mX6_worth d 5 [(0, rf E 46), (1, vi x1), (2, vi x2), (3, vi x3)] [vi v1] M _
  refine V.if_eq (tgt := 30) rfl dX6_worth_5 (by decide) (fun hc => ?_) (fun hc => ?_)
  · rw [if_pos hc] at hF
    refine V.sub _ [] rfl ?_
    exact v_X6_worth_30 hd hF hK
  · rw [if_neg hc] at hF
    refine V.iload_n 2 2 2 rfl dX6_worth_8 rfl ?_
    refine V.i2l dX6_worth_9 ?_
    refine V.lconst 0 0 (by decide) dX6_worth_10 ?_
    refine V.ldc2 109 5 5 (by decide) gw_1001 dX6_worth_11 ?_
    replace hF := Option.bind_eq_some_iff.mp hF
    obtain ⟨v2, hv2, hF⟩ := hF
    refine V.callS (d' := d - 1) [vl (wr x2), vl 0, vl 5] [] (c_X6_in (by omega) hv2) okX6_in gw_966 rfl rfl (Nat.le_of_ble_eq_true rfl) (by omega) dX6_worth_14 ?_
    rintro _ _ ⟨rfl, rfl⟩
    show V E mX6_worth d 17 [(0, rf E 46), (1, vi x1), (2, vi x2), (3, vi x3)] [vi v2] M _
    refine V.if_eq (tgt := 30) rfl dX6_worth_17 (by decide) (fun hc => ?_) (fun hc => ?_)
    · rw [if_pos hc] at hF
      refine V.sub _ [] rfl ?_
      exact v_X6_worth_30 hd hF hK
    · rw [if_neg hc] at hF
      refine V.iload_n 3 3 3 rfl dX6_worth_20 rfl ?_
      refine V.i2l dX6_worth_21 ?_
      refine V.lconst 0 0 (by decide) dX6_worth_22 ?_
      refine V.lconst 1 1 (by decide) dX6_worth_23 ?_
      replace hF := Option.bind_eq_some_iff.mp hF
      obtain ⟨v3, hv3, hF⟩ := hF
      refine V.callS (d' := d - 1) [vl (wr x3), vl 0, vl 1] [] (c_X6_in (by omega) hv3) okX6_in gw_966 rfl rfl (Nat.le_of_ble_eq_true rfl) (by omega) dX6_worth_24 ?_
      rintro _ _ ⟨rfl, rfl⟩
      show V E mX6_worth d 27 [(0, rf E 46), (1, vi x1), (2, vi x2), (3, vi x3)] [vi v3] M _
      refine V.if_ne (tgt := 34) rfl dX6_worth_27 (by decide) (fun hc => ?_) (fun hc => ?_)
      · rw [if_neg hc] at hF
        refine V.aload_n 0 0 0 rfl dX6_worth_34 rfl ?_
        replace hF := Option.bind_eq_some_iff.mp hF
        obtain ⟨v4, hv4, hF⟩ := hF
        refine V.callV (d' := d - 1) [] [] (c_X6_canNow (by omega) hv4) okX6_canNow gw_1164 rfl rfl (by decide) (hcX6 E _) rfl (Nat.le_of_ble_eq_true rfl) (by omega) dX6_worth_35 ?_
        rintro _ _ ⟨rfl, rfl⟩
        show V E mX6_worth d 38 [(0, rf E 46), (1, vi x1), (2, vi x2), (3, vi x3)] [vi v4] M _
        refine V.istore 4 [(4, vi v4), (0, rf E 46), (1, vi x1), (2, vi x2), (3, vi x3)] dX6_worth_38 (by decide) rfl ?_
        refine V.iload 4 0 dX6_worth_40 rfl ?_
        refine V.if_ne (tgt := 49) rfl dX6_worth_42 (by decide) (fun hc => ?_) (fun hc => ?_)
        · rw [if_neg hc] at hF
          refine V.aload_n 0 0 1 rfl dX6_worth_49 rfl ?_
          refine V.iload_n 2 2 3 rfl dX6_worth_50 rfl ?_
          refine V.iload 4 0 dX6_worth_51 rfl ?_
          replace hF := Option.bind_eq_some_iff.mp hF
          obtain ⟨⟨v5, M6⟩, hv5, hF⟩ := hF
          dsimp only at hF
          refine V.callV (d' := d - 1) [vi x2, vi v4] [] (c_X6_bestIn (by omega) hv5) okX6_bestIn gw_1190 rfl rfl (by decide) (hcX6 E _) rfl (Nat.le_of_ble_eq_true rfl) (by omega) dX6_worth_53 ?_
          rintro _ _ ⟨rfl, rfl⟩
          show V E mX6_worth d 56 [(4, vi v4), (0, rf E 46), (1, vi x1), (2, vi x2), (3, vi x3)] [vl v5] M6 _
          refine V.lstore 5 [(5, vl v5), (4, vi v4), (0, rf E 46), (1, vi x1), (2, vi x2), (3, vi x3)] dX6_worth_56 (by decide) rfl ?_
          refine V.aload_n 0 0 2 rfl dX6_worth_58 rfl ?_
          refine V.get (by decide) (hcX6 E _) rfl inX6 0 (by decide) rfl gw_875 dX6_worth_59 ?_
          refine V.iconst 2 dX6_worth_62 ?_
          refine V.iload_n 1 1 3 rfl dX6_worth_63 rfl ?_
          refine V.imul dX6_worth_64 ?_
          replace hF := Option.bind_eq_some_iff.mp hF
          obtain ⟨v7, hv7, hF⟩ := hF
          refine V.iald ar_47 hv7 dX6_worth_65 ?_
          refine V.istore 7 [(7, vi v7), (5, vl v5), (4, vi v4), (0, rf E 46), (1, vi x1), (2, vi x2), (3, vi x3)] dX6_worth_66 (by decide) rfl ?_
          refine V.aload_n 0 0 3 rfl dX6_worth_68 rfl ?_
          refine V.get (by decide) (hcX6 E _) rfl inX6 0 (by decide) rfl gw_875 dX6_worth_69 ?_
          refine V.iconst 2 dX6_worth_72 ?_
          refine V.iload_n 1 1 4 rfl dX6_worth_73 rfl ?_
          refine V.imul dX6_worth_74 ?_
          refine V.iconst 1 dX6_worth_75 ?_
          refine V.iadd dX6_worth_76 ?_
          replace hF := Option.bind_eq_some_iff.mp hF
          obtain ⟨v8, hv8, hF⟩ := hF
          refine V.iald ar_47 hv8 dX6_worth_77 ?_
          refine V.istore 8 [(8, vi v8), (7, vi v7), (5, vl v5), (4, vi v4), (0, rf E 46), (1, vi x1), (2, vi x2), (3, vi x3)] dX6_worth_78 (by decide) rfl ?_
          refine V.aload_n 0 0 4 rfl dX6_worth_80 rfl ?_
          refine V.get (by decide) (hcX6 E _) rfl inX6 0 (by decide) rfl gw_875 dX6_worth_81 ?_
          refine V.iconst 2 dX6_worth_84 ?_
          refine V.iload_n 1 1 5 rfl dX6_worth_85 rfl ?_
          refine V.imul dX6_worth_86 ?_
          refine V.iconst 0 dX6_worth_87 ?_
          replace hF := Option.bind_eq_some_iff.mp hF
          obtain ⟨M9, hM9, hF⟩ := hF
          refine V.iast ar_47 hM9 dX6_worth_88 ?_
          refine V.aload_n 0 0 4 rfl dX6_worth_89 rfl ?_
          refine V.get (by decide) (hcX6 E _) rfl inX6 0 (by decide) rfl gw_875 dX6_worth_90 ?_
          refine V.iconst 2 dX6_worth_93 ?_
          refine V.iload_n 1 1 5 rfl dX6_worth_94 rfl ?_
          refine V.imul dX6_worth_95 ?_
          refine V.iconst 1 dX6_worth_96 ?_
          refine V.iadd dX6_worth_97 ?_
          refine V.iconst 0 dX6_worth_98 ?_
          replace hF := Option.bind_eq_some_iff.mp hF
          obtain ⟨M10, hM10, hF⟩ := hF
          refine V.iast ar_47 hM10 dX6_worth_99 ?_
          refine V.aload_n 0 0 4 rfl dX6_worth_100 rfl ?_
          refine V.iload_n 2 2 6 rfl dX6_worth_101 rfl ?_
          refine V.iload 4 3 dX6_worth_102 rfl ?_
          replace hF := Option.bind_eq_some_iff.mp hF
          obtain ⟨⟨v11, M12⟩, hv11, hF⟩ := hF
          dsimp only at hF
          refine V.callV (d' := d - 1) [vi x2, vi v4] [] (c_X6_bestIn (by omega) hv11) okX6_bestIn gw_1190 rfl rfl (by decide) (hcX6 E _) rfl (Nat.le_of_ble_eq_true rfl) (by omega) dX6_worth_104 ?_
          rintro _ _ ⟨rfl, rfl⟩
          show V E mX6_worth d 107 [(8, vi v8), (7, vi v7), (5, vl v5), (4, vi v4), (0, rf E 46), (1, vi x1), (2, vi x2), (3, vi x3)] [vl v11] M12 _
          refine V.lstore 9 [(9, vl v11), (8, vi v8), (7, vi v7), (5, vl v5), (4, vi v4), (0, rf E 46), (1, vi x1), (2, vi x2), (3, vi x3)] dX6_worth_107 (by decide) rfl ?_
          refine V.aload_n 0 0 5 rfl dX6_worth_109 rfl ?_
          refine V.get (by decide) (hcX6 E _) rfl inX6 0 (by decide) rfl gw_875 dX6_worth_110 ?_
          refine V.iconst 2 dX6_worth_113 ?_
          refine V.iload_n 1 1 6 rfl dX6_worth_114 rfl ?_
          refine V.imul dX6_worth_115 ?_
          refine V.iload 7 2 dX6_worth_116 rfl ?_
          replace hF := Option.bind_eq_some_iff.mp hF
          obtain ⟨M13, hM13, hF⟩ := hF
          refine V.iast ar_47 hM13 dX6_worth_118 ?_
          refine V.aload_n 0 0 5 rfl dX6_worth_119 rfl ?_
          refine V.get (by decide) (hcX6 E _) rfl inX6 0 (by decide) rfl gw_875 dX6_worth_120 ?_
          refine V.iconst 2 dX6_worth_123 ?_
          refine V.iload_n 1 1 6 rfl dX6_worth_124 rfl ?_
          refine V.imul dX6_worth_125 ?_
          refine V.iconst 1 dX6_worth_126 ?_
          refine V.iadd dX6_worth_127 ?_
          refine V.iload 8 1 dX6_worth_128 rfl ?_
          replace hF := Option.bind_eq_some_iff.mp hF
          obtain ⟨M14, hM14, hF⟩ := hF
          refine V.iast ar_47 hM14 dX6_worth_130 ?_
          refine V.lload 5 3 dX6_worth_131 rfl ?_
          refine V.lload 9 0 dX6_worth_133 rfl ?_
          refine V.lsub dX6_worth_135 ?_
          refine V.aload_n 0 0 5 rfl dX6_worth_136 rfl ?_
          refine V.iload 4 4 dX6_worth_137 rfl ?_
          replace hF := Option.bind_eq_some_iff.mp hF
          obtain ⟨v15, hv15, hF⟩ := hF
          refine V.callV (d' := d - 1) [vi v4] [vl (v5 - v11)] (c_X6_oddsOf (by omega) hv15) okX6_oddsOf gw_1179 rfl rfl (by decide) (hcX6 E _) rfl (Nat.le_of_ble_eq_true rfl) (by omega) dX6_worth_139 ?_
          rintro _ _ ⟨rfl, rfl⟩
          show V E mX6_worth d 142 [(9, vl v11), (8, vi v8), (7, vi v7), (5, vl v5), (4, vi v4), (0, rf E 46), (1, vi x1), (2, vi x2), (3, vi x3)] [vl v15, vl (v5 - v11)] M14 _
          refine V.iload_n 3 3 8 rfl dX6_worth_142 rfl ?_
          replace hF := Option.bind_eq_some_iff.mp hF
          obtain ⟨v16, hv16, hF⟩ := hF
          refine V.callS (d' := d - 1) [vl (v5 - v11), vl v15, vi x3] [] (c_X6_lowest (by omega) hv16) okX6_lowest gw_1183 rfl rfl (Nat.le_of_ble_eq_true rfl) (by omega) dX6_worth_143 ?_
          rintro _ _ ⟨rfl, rfl⟩
          show V E mX6_worth d 146 [(9, vl v11), (8, vi v8), (7, vi v7), (5, vl v5), (4, vi v4), (0, rf E 46), (1, vi x1), (2, vi x2), (3, vi x3)] [vl v16] M14 _
          cases Option.some.inj hF
          exact V.lret rfl dX6_worth_146 hK
        · rw [if_pos hc] at hF
          refine V.ldc2 218 (-2) (-2) (by decide) gw_1174 dX6_worth_45 ?_
          cases Option.some.inj hF
          exact V.lret rfl dX6_worth_48 hK
      · rw [if_pos hc] at hF
        refine V.sub _ [] rfl ?_
        exact v_X6_worth_30 hd hF hK
theorem c_X6_worth {E : En} {d : Nat} {n : Nat} {x1 : Int} {x2 : Int} {x3 : Int} {M : Mem} {zr : Int} {zM : Mem}  (hd : 6 ≤ d) (hF : f_X6_worth n x1 x2 x3 M = some (zr, zM)) : Cn E mX6_worth d [rf E 46, vi x1, vi x2, vi x3] M (fun v N => v = some (vl zr) ∧ zM = N) := by
  refine V.entry (by decide +kernel) (Nat.le_of_ble_eq_true rfl) ?_
  exact v_X6_worth_0  hd hF ⟨rfl, rfl⟩
abbrev mX6_isSafe : MI := (yX6_isSafe, cX6_isSafe, 3, (some .boolean))
theorem okX6_isSafe : OKV mX6_isSafe 0 := ⟨gw_1235, gw_55, gw_64, gw_1236, (by decide +kernel), (by decide)⟩
def f_X6_isSafe_48 (n : Nat) (x1 : Int) (x2 : Int) (M : Mem) : Option ((Int × Int × Mem) ⊕ (Int × Mem)) :=
  some (.inl (x1, x2 + 1, M))
set_option maxRecDepth 10000 in
theorem v_X6_isSafe_48 {E : En} {d : Nat} {Q : Po} {n : Nat} {x1 : Int} {x2 : Int} {M : Mem} {z : (Int × Int × Mem) ⊕ (Int × Mem)}  (hd : 6 ≤ d) (hF : f_X6_isSafe_48 n x1 x2 M = some z) (hC0 : ∀ s' : Int × Int × Mem, z = (.inl s') → V E mX6_isSafe d 4 [(0, rf E 46), (1, vi (s'.1)), (2, vi (s'.2.1))] [] s'.2.2 Q) (hX : ∀ z0 : Int × Mem, z = (.inr z0) → Q (some (vi z0.1)) z0.2) : V E mX6_isSafe d 48 [(0, rf E 46), (1, vi x1), (2, vi x2)] [] M Q := by
  unfold f_X6_isSafe_48 at hF
  refine V.iinc 2 2 1 [(2, vi (x2 + 1)), (0, rf E 46), (1, vi x1)] dX6_isSafe_48 rfl (by decide) rfl ?_
  refine V.goto (tgt := 4) dX6_isSafe_51 (by decide) ?_
  cases Option.some.inj hF
  refine V.sub _ [1, 2, 0] rfl ?_
  exact hC0 _ rfl
def f_X6_isSafe_47 (n : Nat) (x2 : Int) (s0 : Int) (M : Mem) : Option ((Int × Int × Mem) ⊕ (Int × Mem)) :=
  f_X6_isSafe_48 n s0 x2 M
set_option maxRecDepth 10000 in
theorem v_X6_isSafe_47 {E : En} {d : Nat} {Q : Po} {n : Nat} {x2 : Int} {s0 : Int} {M : Mem} {z : (Int × Int × Mem) ⊕ (Int × Mem)}  (hd : 6 ≤ d) (hF : f_X6_isSafe_47 n x2 s0 M = some z) (hC0 : ∀ s' : Int × Int × Mem, z = (.inl s') → V E mX6_isSafe d 4 [(0, rf E 46), (1, vi (s'.1)), (2, vi (s'.2.1))] [] s'.2.2 Q) (hX : ∀ z0 : Int × Mem, z = (.inr z0) → Q (some (vi z0.1)) z0.2) : V E mX6_isSafe d 47 [(0, rf E 46), (2, vi x2)] [vi s0] M Q := by
  unfold f_X6_isSafe_47 at hF
  refine V.istore_n 1 1 [(1, vi s0), (0, rf E 46), (2, vi x2)] rfl dX6_isSafe_47 (by decide) rfl ?_
  refine V.sub _ [1, 0, 2] rfl ?_
  exact v_X6_isSafe_48 hd hF hC0 hX
def f_X6_isSafe_46 (n : Nat) (x2 : Int) (M : Mem) : Option ((Int × Int × Mem) ⊕ (Int × Mem)) :=
  f_X6_isSafe_47 n x2 0 M
set_option maxRecDepth 10000 in
theorem v_X6_isSafe_46 {E : En} {d : Nat} {Q : Po} {n : Nat} {x2 : Int} {M : Mem} {z : (Int × Int × Mem) ⊕ (Int × Mem)}  (hd : 6 ≤ d) (hF : f_X6_isSafe_46 n x2 M = some z) (hC0 : ∀ s' : Int × Int × Mem, z = (.inl s') → V E mX6_isSafe d 4 [(0, rf E 46), (1, vi (s'.1)), (2, vi (s'.2.1))] [] s'.2.2 Q) (hX : ∀ z0 : Int × Mem, z = (.inr z0) → Q (some (vi z0.1)) z0.2) : V E mX6_isSafe d 46 [(0, rf E 46), (2, vi x2)] [] M Q := by
  unfold f_X6_isSafe_46 at hF
  refine V.iconst 0 dX6_isSafe_46 ?_
  exact v_X6_isSafe_47 hd hF hC0 hX
def f_X6_isSafe_4 (n : Nat) (x1 : Int) (x2 : Int) (M : Mem) : Option ((Int × Int × Mem) ⊕ (Int × Mem)) :=
  if wr (M 46 3) ≤ wr x2 then
    (bz x1).bind fun v1 =>
    some (.inr (v1, M))
  else
    (f_X6_canBe x2 M).bind fun v2 =>
    if wr v2 = 0 then
      f_X6_isSafe_48 n x1 x2 M
    else
      (f_X6_copies n 75 100 M).bind fun M3 =>
      if wr x1 = 0 then
        f_X6_isSafe_46 n x2 M3
      else
        (f_X6_starvesIn n x2 M3).bind fun (v4, M5) =>
        if wr v4 = (-4) then
          f_X6_isSafe_47 n x2 1 M5
        else
          f_X6_isSafe_46 n x2 M5
set_option maxRecDepth 10000 in
theorem v_X6_isSafe_4 {E : En} {d : Nat} {Q : Po} {n : Nat} {x1 : Int} {x2 : Int} {M : Mem} {z : (Int × Int × Mem) ⊕ (Int × Mem)}  (hd : 6 ≤ d) (hF : f_X6_isSafe_4 n x1 x2 M = some z) (hC0 : ∀ s' : Int × Int × Mem, z = (.inl s') → V E mX6_isSafe d 4 [(0, rf E 46), (1, vi (s'.1)), (2, vi (s'.2.1))] [] s'.2.2 Q) (hX : ∀ z0 : Int × Mem, z = (.inr z0) → Q (some (vi z0.1)) z0.2) : V E mX6_isSafe d 4 [(0, rf E 46), (1, vi x1), (2, vi x2)] [] M Q := by
  unfold f_X6_isSafe_4 at hF
  refine V.iload_n 2 2 2 rfl dX6_isSafe_4 rfl ?_
  refine V.aload_n 0 0 0 rfl dX6_isSafe_5 rfl ?_
  refine V.get (by decide) (hcX6 E _) rfl inX6 3 (by decide) rfl gw_878 dX6_isSafe_6 ?_
  refine V.icmp_ge (tgt := 54) rfl rfl dX6_isSafe_9 (by decide) (fun hc => ?_) (fun hc => ?_)
  · rw [if_pos hc] at hF
    refine V.iload_n 1 1 1 rfl dX6_isSafe_54 rfl ?_
    replace hF := Option.bind_eq_some_iff.mp hF
    obtain ⟨v1, hv1, hF⟩ := hF
    obtain ⟨hzv1, rfl⟩ := bz_some hv1
    cases Option.some.inj hF
    exact V.zret rfl hzv1 dX6_isSafe_55 (hX _ rfl)
  · rw [if_neg hc] at hF
    refine V.aload_n 0 0 0 rfl dX6_isSafe_12 rfl ?_
    refine V.iload_n 2 2 2 rfl dX6_isSafe_13 rfl ?_
    replace hF := Option.bind_eq_some_iff.mp hF
    obtain ⟨v2, hv2, hF⟩ := hF
    refine V.callV (d' := d - 1) [vi x2] [] (c_X6_canBe (by omega) hv2) okX6_canBe gw_1048 rfl rfl (by decide) (hcX6 E _) rfl (Nat.le_of_ble_eq_true rfl) (by omega) dX6_isSafe_14 ?_
    rintro _ _ ⟨rfl, rfl⟩
    show V E mX6_isSafe d 17 [(0, rf E 46), (1, vi x1), (2, vi x2)] [vi v2] M _
    refine V.if_eq (tgt := 48) rfl dX6_isSafe_17 (by decide) (fun hc => ?_) (fun hc => ?_)
    · rw [if_pos hc] at hF
      exact v_X6_isSafe_48 hd hF hC0 hX
    · rw [if_neg hc] at hF
      refine V.aload_n 0 0 0 rfl dX6_isSafe_20 rfl ?_
      refine V.bipush 75 75 (by decide) dX6_isSafe_21 ?_
      refine V.bipush 100 100 (by decide) dX6_isSafe_23 ?_
      replace hF := Option.bind_eq_some_iff.mp hF
      obtain ⟨M3, hM3, hF⟩ := hF
      refine V.callV (d' := d - 1) [vi 75, vi 100] [] (c_X6_copies (by omega) hM3) okX6_copies gw_1144 rfl rfl (by decide) (hcX6 E _) rfl (Nat.le_of_ble_eq_true rfl) (by omega) dX6_isSafe_25 ?_
      rintro _ _ ⟨rfl, rfl⟩
      show V E mX6_isSafe d 28 [(0, rf E 46), (1, vi x1), (2, vi x2)] [] M3 _
      refine V.iload_n 1 1 1 rfl dX6_isSafe_28 rfl ?_
      refine V.if_eq (tgt := 46) rfl dX6_isSafe_29 (by decide) (fun hc => ?_) (fun hc => ?_)
      · rw [if_pos hc] at hF
        refine V.sub _ [0, 2] rfl ?_
        exact v_X6_isSafe_46 hd hF hC0 hX
      · rw [if_neg hc] at hF
        refine V.aload_n 0 0 0 rfl dX6_isSafe_32 rfl ?_
        refine V.iload_n 2 2 2 rfl dX6_isSafe_33 rfl ?_
        replace hF := Option.bind_eq_some_iff.mp hF
        obtain ⟨⟨v4, M5⟩, hv4, hF⟩ := hF
        dsimp only at hF
        refine V.callV (d' := d - 1) [vi x2] [] (c_X6_starvesIn (by omega) hv4) okX6_starvesIn gw_1156 rfl rfl (by decide) (hcX6 E _) rfl (Nat.le_of_ble_eq_true rfl) (by omega) dX6_isSafe_34 ?_
        rintro _ _ ⟨rfl, rfl⟩
        show V E mX6_isSafe d 37 [(0, rf E 46), (1, vi x1), (2, vi x2)] [vi v4] M5 _
        refine V.bipush (-4) (-4) (by decide) dX6_isSafe_37 ?_
        refine V.icmp_ne (tgt := 46) rfl wr_m4 dX6_isSafe_39 (by decide) (fun hc => ?_) (fun hc => ?_)
        · rw [if_neg hc] at hF
          refine V.sub _ [0, 2] rfl ?_
          exact v_X6_isSafe_46 hd hF hC0 hX
        · rw [if_pos hc] at hF
          refine V.iconst 1 dX6_isSafe_42 ?_
          refine V.goto (tgt := 47) dX6_isSafe_43 (by decide) ?_
          refine V.sub _ [0, 2] rfl ?_
          exact v_X6_isSafe_47 hd hF hC0 hX
theorem l_X6_isSafe_4 {E : En} {d : Nat} {Q : Po} {n : Nat} {k : Nat} {s : Int × Int × Mem} {z : Int × Mem}  (hd : 6 ≤ d) (hF : lp (fun s => f_X6_isSafe_4 n s.1 s.2.1 s.2.2) k s = some z) (hK : Q (some (vi z.1)) z.2) : V E mX6_isSafe d 4 [(0, rf E 46), (1, vi s.1), (2, vi s.2.1)] [] s.2.2 Q := by
  refine lp_ind (P := fun s => V E mX6_isSafe d 4 [(0, rf E 46), (1, vi s.1), (2, vi s.2.1)] [] s.2.2 Q) (z0 := z) ?_ k s hF
  intro s z' hF hc hx
  exact v_X6_isSafe_4 hd hF (fun s' e => hc s' e) (fun z0 e => by rw [hx _ e]; exact hK)
def f_X6_isSafe (n : Nat) (M : Mem) : Option (Int × Mem) :=
  lp (fun s => f_X6_isSafe_4 n s.1 s.2.1 s.2.2) n (1, 0, M)
set_option maxRecDepth 10000 in
theorem v_X6_isSafe_0 {E : En} {d : Nat} {Q : Po} {n : Nat} {M : Mem} {z : Int × Mem}  (hd : 6 ≤ d) (hF : f_X6_isSafe n M = some z) (hK : Q (some (vi z.1)) z.2) : V E mX6_isSafe d 0 [(0, rf E 46)] [] M Q := by
  unfold f_X6_isSafe at hF
  refine V.iconst 1 dX6_isSafe_0 ?_
  refine V.istore_n 1 1 [(1, vi 1), (0, rf E 46)] rfl dX6_isSafe_1 (by decide) rfl ?_
  refine V.iconst 0 dX6_isSafe_2 ?_
  refine V.istore_n 2 2 [(2, vi 0), (1, vi 1), (0, rf E 46)] rfl dX6_isSafe_3 (by decide) rfl ?_
  refine V.sub _ [2, 1, 0] rfl ?_
  exact l_X6_isSafe_4 hd hF hK
theorem c_X6_isSafe {E : En} {d : Nat} {n : Nat} {M : Mem} {zr : Int} {zM : Mem}  (hd : 6 ≤ d) (hF : f_X6_isSafe n M = some (zr, zM)) : Cn E mX6_isSafe d [rf E 46] M (fun v N => v = some (vi zr) ∧ zM = N) := by
  refine V.entry (by decide +kernel) (Nat.le_of_ble_eq_true rfl) ?_
  exact v_X6_isSafe_0  hd hF ⟨rfl, rfl⟩
abbrev mX6_safe : MI := (yX6_safe, cX6_safe, 4, (some .int))
theorem okX6_safe : OKV mX6_safe 1 := ⟨gw_1230, gw_1231, gw_64, gw_1232, (by decide +kernel), (by decide)⟩
def f_X6_safe_62 (n : Nat) (x3 : Int) (s0 : Int) (s1 : Int) (M : Mem) : Option ((Int × Int × Mem) ⊕ (Int × Mem)) :=
  some (.inl (bOr s1 s0, x3 + 1, M))
set_option maxRecDepth 10000 in
theorem v_X6_safe_62 {E : En} {d : Nat} {Q : Po} {n : Nat} {x3 : Int} {s0 : Int} {s1 : Int} {M : Mem} {z : (Int × Int × Mem) ⊕ (Int × Mem)}  (hd : 7 ≤ d) (hF : f_X6_safe_62 n x3 s0 s1 M = some z) (hC0 : ∀ s' : Int × Int × Mem, z = (.inl s') → V E mX6_safe d 33 [(0, rf E 46), (2, vi (s'.1)), (3, vi (s'.2.1))] [] s'.2.2 Q) (hX : ∀ z0 : Int × Mem, z = (.inr z0) → Q (some (vi z0.1)) z0.2) : V E mX6_safe d 62 [(0, rf E 46), (3, vi x3)] [vi s0, vi s1] M Q := by
  unfold f_X6_safe_62 at hF
  refine V.ior dX6_safe_62 ?_
  refine V.istore_n 2 2 [(2, vi (bOr s1 s0)), (0, rf E 46), (3, vi x3)] rfl dX6_safe_63 (by decide) rfl ?_
  refine V.iinc 3 2 1 [(3, vi (x3 + 1)), (2, vi (bOr s1 s0)), (0, rf E 46)] dX6_safe_64 rfl (by decide) rfl ?_
  refine V.goto (tgt := 33) dX6_safe_67 (by decide) ?_
  cases Option.some.inj hF
  refine V.sub _ [2, 1, 0] rfl ?_
  exact hC0 _ rfl
def f_X6_safe_33 (n : Nat) (x2 : Int) (x3 : Int) (M : Mem) : Option ((Int × Int × Mem) ⊕ (Int × Mem)) :=
  if 10 ≤ wr x3 then
    some (.inr (x2, M))
  else
    (some (st M 47 95 x3)).bind fun M1 =>
    (f_X6_isSafe n M1).bind fun (v2, M3) =>
    if wr v2 = 0 then
      f_X6_safe_62 n x3 0 x2 M3
    else
      f_X6_safe_62 n x3 (bShl 1 x3) x2 M3
set_option maxRecDepth 10000 in
theorem v_X6_safe_33 {E : En} {d : Nat} {Q : Po} {n : Nat} {x2 : Int} {x3 : Int} {M : Mem} {z : (Int × Int × Mem) ⊕ (Int × Mem)}  (hd : 7 ≤ d) (hF : f_X6_safe_33 n x2 x3 M = some z) (hC0 : ∀ s' : Int × Int × Mem, z = (.inl s') → V E mX6_safe d 33 [(0, rf E 46), (2, vi (s'.1)), (3, vi (s'.2.1))] [] s'.2.2 Q) (hX : ∀ z0 : Int × Mem, z = (.inr z0) → Q (some (vi z0.1)) z0.2) : V E mX6_safe d 33 [(0, rf E 46), (2, vi x2), (3, vi x3)] [] M Q := by
  unfold f_X6_safe_33 at hF
  refine V.iload_n 3 3 2 rfl dX6_safe_33 rfl ?_
  refine V.bipush 10 10 (by decide) dX6_safe_34 ?_
  refine V.icmp_ge (tgt := 70) rfl wr_10 dX6_safe_36 (by decide) (fun hc => ?_) (fun hc => ?_)
  · rw [if_pos hc] at hF
    refine V.iload_n 2 2 1 rfl dX6_safe_70 rfl ?_
    cases Option.some.inj hF
    exact V.iret rfl dX6_safe_71 (hX _ rfl)
  · rw [if_neg hc] at hF
    refine V.aload_n 0 0 0 rfl dX6_safe_39 rfl ?_
    refine V.get (by decide) (hcX6 E _) rfl inX6 0 (by decide) rfl gw_875 dX6_safe_40 ?_
    refine V.bipush 95 95 (by decide) dX6_safe_43 ?_
    refine V.iload_n 3 3 2 rfl dX6_safe_45 rfl ?_
    replace hF := Option.bind_eq_some_iff.mp hF
    obtain ⟨M1, hM1, hF⟩ := hF
    refine V.iast ar_47 ((wt_lit 95 95 wr_95 (by decide)).trans hM1) dX6_safe_46 ?_
    refine V.iload_n 2 2 1 rfl dX6_safe_47 rfl ?_
    refine V.aload_n 0 0 0 rfl dX6_safe_48 rfl ?_
    replace hF := Option.bind_eq_some_iff.mp hF
    obtain ⟨⟨v2, M3⟩, hv2, hF⟩ := hF
    dsimp only at hF
    refine V.callV (d' := d - 1) [] [vi x2] (c_X6_isSafe (by omega) hv2) okX6_isSafe gw_1233 rfl rfl (by decide) (hcX6 E _) rfl (Nat.le_of_ble_eq_true rfl) (by omega) dX6_safe_49 ?_
    rintro _ _ ⟨rfl, rfl⟩
    show V E mX6_safe d 52 [(0, rf E 46), (2, vi x2), (3, vi x3)] [vi v2, vi x2] M3 _
    refine V.if_eq (tgt := 61) rfl dX6_safe_52 (by decide) (fun hc => ?_) (fun hc => ?_)
    · rw [if_pos hc] at hF
      refine V.iconst 0 dX6_safe_61 ?_
      refine V.sub _ [0, 2] rfl ?_
      exact v_X6_safe_62 hd hF hC0 hX
    · rw [if_neg hc] at hF
      refine V.iconst 1 dX6_safe_55 ?_
      refine V.iload_n 3 3 2 rfl dX6_safe_56 rfl ?_
      refine V.ishl dX6_safe_57 ?_
      refine V.goto (tgt := 62) dX6_safe_58 (by decide) ?_
      refine V.sub _ [0, 2] rfl ?_
      exact v_X6_safe_62 hd hF hC0 hX
theorem l_X6_safe_33 {E : En} {d : Nat} {Q : Po} {n : Nat} {k : Nat} {s : Int × Int × Mem} {z : Int × Mem}  (hd : 7 ≤ d) (hF : lp (fun s => f_X6_safe_33 n s.1 s.2.1 s.2.2) k s = some z) (hK : Q (some (vi z.1)) z.2) : V E mX6_safe d 33 [(0, rf E 46), (2, vi s.1), (3, vi s.2.1)] [] s.2.2 Q := by
  refine lp_ind (P := fun s => V E mX6_safe d 33 [(0, rf E 46), (2, vi s.1), (3, vi s.2.1)] [] s.2.2 Q) (z0 := z) ?_ k s hF
  intro s z' hF hc hx
  exact v_X6_safe_33 hd hF (fun s' e => hc s' e) (fun z0 e => by rw [hx _ e]; exact hK)
def f_X6_safe (n : Nat) (x1 : Int) (M : Mem) : Option (Int × Mem) :=
  (f_X6_in (wr x1) 0 4 M).bind fun v1 =>
  if wr v1 = 0 then
    some ((-1), M)
  else
    (f_X6_copies n 0 75 M).bind fun M2 =>
    (some (st M2 47 94 x1)).bind fun M3 =>
    lp (fun s => f_X6_safe_33 n s.1 s.2.1 s.2.2) n (0, 0, M3)
set_option maxRecDepth 10000 in
theorem v_X6_safe_0 {E : En} {d : Nat} {Q : Po} {n : Nat} {x1 : Int} {M : Mem} {z : Int × Mem}  (hd : 7 ≤ d) (hF : f_X6_safe n x1 M = some z) (hK : Q (some (vi z.1)) z.2) : V E mX6_safe d 0 [(0, rf E 46), (1, vi x1)] [] M Q := by
  unfold f_X6_safe at hF
  refine V.iload_n 1 1 1 rfl dX6_safe_0 rfl ?_
  refine V.i2l dX6_safe_1 ?_
  refine V.lconst 0 0 (by decide) dX6_safe_2 ?_
  refine V.ldc2 177 4 4 (by decide) gw_1105 dX6_safe_3 ?_
  replace hF := Option.bind_eq_some_iff.mp hF
  obtain ⟨v1, hv1, hF⟩ := hF
  refine V.callS (d' := d - 1) [vl (wr x1), vl 0, vl 4] [] (c_X6_in (by omega) hv1) okX6_in gw_966 rfl rfl (Nat.le_of_ble_eq_true rfl) (by omega) dX6_safe_6 ?_
  rintro _ _ ⟨rfl, rfl⟩
  show V E mX6_safe d 9 [(0, rf E 46), (1, vi x1)] [vi v1] M _
  refine V.if_ne (tgt := 14) rfl dX6_safe_9 (by decide) (fun hc => ?_) (fun hc => ?_)
  · rw [if_neg hc] at hF
    refine V.iconst 0 dX6_safe_14 ?_
    refine V.istore_n 2 2 [(2, vi 0), (0, rf E 46), (1, vi x1)] rfl dX6_safe_15 (by decide) rfl ?_
    refine V.aload_n 0 0 1 rfl dX6_safe_16 rfl ?_
    refine V.iconst 0 dX6_safe_17 ?_
    refine V.bipush 75 75 (by decide) dX6_safe_18 ?_
    replace hF := Option.bind_eq_some_iff.mp hF
    obtain ⟨M2, hM2, hF⟩ := hF
    refine V.callV (d' := d - 1) [vi 0, vi 75] [] (c_X6_copies (by omega) hM2) okX6_copies gw_1144 rfl rfl (by decide) (hcX6 E _) rfl (Nat.le_of_ble_eq_true rfl) (by omega) dX6_safe_20 ?_
    rintro _ _ ⟨rfl, rfl⟩
    show V E mX6_safe d 23 [(2, vi 0), (0, rf E 46), (1, vi x1)] [] M2 _
    refine V.aload_n 0 0 1 rfl dX6_safe_23 rfl ?_
    refine V.get (by decide) (hcX6 E _) rfl inX6 0 (by decide) rfl gw_875 dX6_safe_24 ?_
    refine V.bipush 94 94 (by decide) dX6_safe_27 ?_
    refine V.iload_n 1 1 2 rfl dX6_safe_29 rfl ?_
    replace hF := Option.bind_eq_some_iff.mp hF
    obtain ⟨M3, hM3, hF⟩ := hF
    refine V.iast ar_47 ((wt_lit 94 94 wr_94 (by decide)).trans hM3) dX6_safe_30 ?_
    refine V.iconst 0 dX6_safe_31 ?_
    refine V.istore_n 3 3 [(3, vi 0), (2, vi 0), (0, rf E 46), (1, vi x1)] rfl dX6_safe_32 (by decide) rfl ?_
    refine V.sub _ [2, 1, 0] rfl ?_
    exact l_X6_safe_33 hd hF hK
  · rw [if_pos hc] at hF
    refine V.iconst (-1) dX6_safe_12 ?_
    cases Option.some.inj hF
    exact V.iret rfl dX6_safe_13 hK
theorem c_X6_safe {E : En} {d : Nat} {n : Nat} {x1 : Int} {M : Mem} {zr : Int} {zM : Mem}  (hd : 7 ≤ d) (hF : f_X6_safe n x1 M = some (zr, zM)) : Cn E mX6_safe d [rf E 46, vi x1] M (fun v N => v = some (vi zr) ∧ zM = N) := by
  refine V.entry (by decide +kernel) (Nat.le_of_ble_eq_true rfl) ?_
  exact v_X6_safe_0  hd hF ⟨rfl, rfl⟩
abbrev mX6_granary : MI := (yX6_granary, cX6_granary, 2, (some .int))
theorem okX6_granary : OKV mX6_granary 0 := ⟨gw_1238, gw_1239, gw_64, gw_1240, (by decide +kernel), (by decide)⟩
def f_X6_granary_23 (n : Nat) (x1 : Int) (M : Mem) : Option ((Int × Mem) ⊕ (Int × Mem)) :=
  if 40 < wr x1 then
    some (.inr ((-4), M))
  else
    (some (st M 47 89 (40 - x1))).bind fun M1 =>
    (f_X6_isSafe n M1).bind fun (v2, M3) =>
    if wr v2 = 0 then
      some (.inl (x1 + 1, M3))
    else
      some (.inr (x1, M3))
set_option maxRecDepth 10000 in
theorem v_X6_granary_23 {E : En} {d : Nat} {Q : Po} {n : Nat} {x1 : Int} {M : Mem} {z : (Int × Mem) ⊕ (Int × Mem)}  (hd : 7 ≤ d) (hF : f_X6_granary_23 n x1 M = some z) (hC0 : ∀ s' : Int × Mem, z = (.inl s') → V E mX6_granary d 23 [(0, rf E 46), (1, vi (s'.1))] [] s'.2 Q) (hX : ∀ z0 : Int × Mem, z = (.inr z0) → Q (some (vi z0.1)) z0.2) : V E mX6_granary d 23 [(0, rf E 46), (1, vi x1)] [] M Q := by
  unfold f_X6_granary_23 at hF
  refine V.iload_n 1 1 1 rfl dX6_granary_23 rfl ?_
  refine V.bipush 40 40 (by decide) dX6_granary_24 ?_
  refine V.icmp_gt (tgt := 55) rfl wr_40 dX6_granary_26 (by decide) (fun hc => ?_) (fun hc => ?_)
  · rw [if_pos hc] at hF
    refine V.bipush (-4) (-4) (by decide) dX6_granary_55 ?_
    cases Option.some.inj hF
    exact V.iret rfl dX6_granary_57 (hX _ rfl)
  · rw [if_neg hc] at hF
    refine V.aload_n 0 0 0 rfl dX6_granary_29 rfl ?_
    refine V.get (by decide) (hcX6 E _) rfl inX6 0 (by decide) rfl gw_875 dX6_granary_30 ?_
    refine V.bipush 89 89 (by decide) dX6_granary_33 ?_
    refine V.bipush 40 40 (by decide) dX6_granary_35 ?_
    refine V.iload_n 1 1 1 rfl dX6_granary_37 rfl ?_
    refine V.isub dX6_granary_38 ?_
    replace hF := Option.bind_eq_some_iff.mp hF
    obtain ⟨M1, hM1, hF⟩ := hF
    refine V.iast ar_47 ((wt_lit 89 89 wr_89 (by decide)).trans hM1) dX6_granary_39 ?_
    refine V.aload_n 0 0 0 rfl dX6_granary_40 rfl ?_
    replace hF := Option.bind_eq_some_iff.mp hF
    obtain ⟨⟨v2, M3⟩, hv2, hF⟩ := hF
    dsimp only at hF
    refine V.callV (d' := d - 1) [] [] (c_X6_isSafe (by omega) hv2) okX6_isSafe gw_1233 rfl rfl (by decide) (hcX6 E _) rfl (Nat.le_of_ble_eq_true rfl) (by omega) dX6_granary_41 ?_
    rintro _ _ ⟨rfl, rfl⟩
    show V E mX6_granary d 44 [(0, rf E 46), (1, vi x1)] [vi v2] M3 _
    refine V.if_eq (tgt := 49) rfl dX6_granary_44 (by decide) (fun hc => ?_) (fun hc => ?_)
    · rw [if_pos hc] at hF
      refine V.iinc 1 1 1 [(1, vi (x1 + 1)), (0, rf E 46)] dX6_granary_49 rfl (by decide) rfl ?_
      refine V.goto (tgt := 23) dX6_granary_52 (by decide) ?_
      cases Option.some.inj hF
      refine V.sub _ [1, 0] rfl ?_
      exact hC0 _ rfl
    · rw [if_neg hc] at hF
      refine V.iload_n 1 1 1 rfl dX6_granary_47 rfl ?_
      cases Option.some.inj hF
      exact V.iret rfl dX6_granary_48 (hX _ rfl)
theorem l_X6_granary_23 {E : En} {d : Nat} {Q : Po} {n : Nat} {k : Nat} {s : Int × Mem} {z : Int × Mem}  (hd : 7 ≤ d) (hF : lp (fun s => f_X6_granary_23 n s.1 s.2) k s = some z) (hK : Q (some (vi z.1)) z.2) : V E mX6_granary d 23 [(0, rf E 46), (1, vi s.1)] [] s.2 Q := by
  refine lp_ind (P := fun s => V E mX6_granary d 23 [(0, rf E 46), (1, vi s.1)] [] s.2 Q) (z0 := z) ?_ k s hF
  intro s z' hF hc hx
  exact v_X6_granary_23 hd hF (fun s' e => hc s' e) (fun z0 e => by rw [hx _ e]; exact hK)
def f_X6_granary (n : Nat) (M : Mem) : Option (Int × Mem) :=
  (f_X6_copies n 0 75 M).bind fun M1 =>
  (some (st M1 47 94 0)).bind fun M2 =>
  lp (fun s => f_X6_granary_23 n s.1 s.2) n (M2 47 16, M2)
set_option maxRecDepth 10000 in
theorem v_X6_granary_0 {E : En} {d : Nat} {Q : Po} {n : Nat} {M : Mem} {z : Int × Mem}  (hd : 7 ≤ d) (hF : f_X6_granary n M = some z) (hK : Q (some (vi z.1)) z.2) : V E mX6_granary d 0 [(0, rf E 46)] [] M Q := by
  unfold f_X6_granary at hF
  refine V.aload_n 0 0 0 rfl dX6_granary_0 rfl ?_
  refine V.iconst 0 dX6_granary_1 ?_
  refine V.bipush 75 75 (by decide) dX6_granary_2 ?_
  replace hF := Option.bind_eq_some_iff.mp hF
  obtain ⟨M1, hM1, hF⟩ := hF
  refine V.callV (d' := d - 1) [vi 0, vi 75] [] (c_X6_copies (by omega) hM1) okX6_copies gw_1144 rfl rfl (by decide) (hcX6 E _) rfl (Nat.le_of_ble_eq_true rfl) (by omega) dX6_granary_4 ?_
  rintro _ _ ⟨rfl, rfl⟩
  show V E mX6_granary d 7 [(0, rf E 46)] [] M1 _
  refine V.aload_n 0 0 0 rfl dX6_granary_7 rfl ?_
  refine V.get (by decide) (hcX6 E _) rfl inX6 0 (by decide) rfl gw_875 dX6_granary_8 ?_
  refine V.bipush 94 94 (by decide) dX6_granary_11 ?_
  refine V.iconst 0 dX6_granary_13 ?_
  replace hF := Option.bind_eq_some_iff.mp hF
  obtain ⟨M2, hM2, hF⟩ := hF
  refine V.iast ar_47 ((wt_lit 94 94 wr_94 (by decide)).trans hM2) dX6_granary_14 ?_
  refine V.aload_n 0 0 0 rfl dX6_granary_15 rfl ?_
  refine V.get (by decide) (hcX6 E _) rfl inX6 0 (by decide) rfl gw_875 dX6_granary_16 ?_
  refine V.bipush 16 16 (by decide) dX6_granary_19 ?_
  refine V.iald ar_47 (rd_lit 16 16 wr_16 (by decide)) dX6_granary_21 ?_
  refine V.istore_n 1 1 [(1, vi (M2 47 16)), (0, rf E 46)] rfl dX6_granary_22 (by decide) rfl ?_
  refine V.sub _ [1, 0] rfl ?_
  exact l_X6_granary_23 hd hF hK
theorem c_X6_granary {E : En} {d : Nat} {n : Nat} {M : Mem} {zr : Int} {zM : Mem}  (hd : 7 ≤ d) (hF : f_X6_granary n M = some (zr, zM)) : Cn E mX6_granary d [rf E 46] M (fun v N => v = some (vi zr) ∧ zM = N) := by
  refine V.entry (by decide +kernel) (Nat.le_of_ble_eq_true rfl) ?_
  exact v_X6_granary_0  hd hF ⟨rfl, rfl⟩
abbrev mX6_least : MI := (yX6_least, cX6_least, 2, (some .int))
theorem okX6_least : OKV mX6_least 0 := ⟨gw_1242, gw_1243, gw_64, gw_1244, (by decide +kernel), (by decide)⟩
def f_X6_least_9 (n : Nat) (x1 : Int) (M : Mem) : Option ((Int × Mem) ⊕ (Int × Mem)) :=
  (f_X6_capOn 0 M).bind fun v1 =>
  if wr v1 < wr x1 then
    some (.inr ((-4), M))
  else
    (some (st M 47 91 x1)).bind fun M2 =>
    (f_X6_isSafe n M2).bind fun (v3, M4) =>
    if wr v3 = 0 then
      some (.inl (x1 + 1, M4))
    else
      some (.inr (x1, M4))
set_option maxRecDepth 10000 in
theorem v_X6_least_9 {E : En} {d : Nat} {Q : Po} {n : Nat} {x1 : Int} {M : Mem} {z : (Int × Mem) ⊕ (Int × Mem)}  (hd : 7 ≤ d) (hF : f_X6_least_9 n x1 M = some z) (hC0 : ∀ s' : Int × Mem, z = (.inl s') → V E mX6_least d 9 [(0, rf E 46), (1, vi (s'.1))] [] s'.2 Q) (hX : ∀ z0 : Int × Mem, z = (.inr z0) → Q (some (vi z0.1)) z0.2) : V E mX6_least d 9 [(0, rf E 46), (1, vi x1)] [] M Q := by
  unfold f_X6_least_9 at hF
  refine V.iload_n 1 1 1 rfl dX6_least_9 rfl ?_
  refine V.aload_n 0 0 0 rfl dX6_least_10 rfl ?_
  refine V.iconst 0 dX6_least_11 ?_
  replace hF := Option.bind_eq_some_iff.mp hF
  obtain ⟨v1, hv1, hF⟩ := hF
  refine V.callV (d' := d - 1) [vi 0] [vi x1] (c_X6_capOn (by omega) hv1) okX6_capOn gw_1022 rfl rfl (by decide) (hcX6 E _) rfl (Nat.le_of_ble_eq_true rfl) (by omega) dX6_least_12 ?_
  rintro _ _ ⟨rfl, rfl⟩
  show V E mX6_least d 15 [(0, rf E 46), (1, vi x1)] [vi v1, vi x1] M _
  refine V.icmp_gt (tgt := 41) rfl rfl dX6_least_15 (by decide) (fun hc => ?_) (fun hc => ?_)
  · rw [if_pos hc] at hF
    refine V.bipush (-4) (-4) (by decide) dX6_least_41 ?_
    cases Option.some.inj hF
    exact V.iret rfl dX6_least_43 (hX _ rfl)
  · rw [if_neg hc] at hF
    refine V.aload_n 0 0 0 rfl dX6_least_18 rfl ?_
    refine V.get (by decide) (hcX6 E _) rfl inX6 0 (by decide) rfl gw_875 dX6_least_19 ?_
    refine V.bipush 91 91 (by decide) dX6_least_22 ?_
    refine V.iload_n 1 1 1 rfl dX6_least_24 rfl ?_
    replace hF := Option.bind_eq_some_iff.mp hF
    obtain ⟨M2, hM2, hF⟩ := hF
    refine V.iast ar_47 ((wt_lit 91 91 wr_91 (by decide)).trans hM2) dX6_least_25 ?_
    refine V.aload_n 0 0 0 rfl dX6_least_26 rfl ?_
    replace hF := Option.bind_eq_some_iff.mp hF
    obtain ⟨⟨v3, M4⟩, hv3, hF⟩ := hF
    dsimp only at hF
    refine V.callV (d' := d - 1) [] [] (c_X6_isSafe (by omega) hv3) okX6_isSafe gw_1233 rfl rfl (by decide) (hcX6 E _) rfl (Nat.le_of_ble_eq_true rfl) (by omega) dX6_least_27 ?_
    rintro _ _ ⟨rfl, rfl⟩
    show V E mX6_least d 30 [(0, rf E 46), (1, vi x1)] [vi v3] M4 _
    refine V.if_eq (tgt := 35) rfl dX6_least_30 (by decide) (fun hc => ?_) (fun hc => ?_)
    · rw [if_pos hc] at hF
      refine V.iinc 1 1 1 [(1, vi (x1 + 1)), (0, rf E 46)] dX6_least_35 rfl (by decide) rfl ?_
      refine V.goto (tgt := 9) dX6_least_38 (by decide) ?_
      cases Option.some.inj hF
      refine V.sub _ [1, 0] rfl ?_
      exact hC0 _ rfl
    · rw [if_neg hc] at hF
      refine V.iload_n 1 1 1 rfl dX6_least_33 rfl ?_
      cases Option.some.inj hF
      exact V.iret rfl dX6_least_34 (hX _ rfl)
theorem l_X6_least_9 {E : En} {d : Nat} {Q : Po} {n : Nat} {k : Nat} {s : Int × Mem} {z : Int × Mem}  (hd : 7 ≤ d) (hF : lp (fun s => f_X6_least_9 n s.1 s.2) k s = some z) (hK : Q (some (vi z.1)) z.2) : V E mX6_least d 9 [(0, rf E 46), (1, vi s.1)] [] s.2 Q := by
  refine lp_ind (P := fun s => V E mX6_least d 9 [(0, rf E 46), (1, vi s.1)] [] s.2 Q) (z0 := z) ?_ k s hF
  intro s z' hF hc hx
  exact v_X6_least_9 hd hF (fun s' e => hc s' e) (fun z0 e => by rw [hx _ e]; exact hK)
def f_X6_least (n : Nat) (M : Mem) : Option (Int × Mem) :=
  (f_X6_copies n 0 75 M).bind fun M1 =>
  lp (fun s => f_X6_least_9 n s.1 s.2) n (0, M1)
set_option maxRecDepth 10000 in
theorem v_X6_least_0 {E : En} {d : Nat} {Q : Po} {n : Nat} {M : Mem} {z : Int × Mem}  (hd : 7 ≤ d) (hF : f_X6_least n M = some z) (hK : Q (some (vi z.1)) z.2) : V E mX6_least d 0 [(0, rf E 46)] [] M Q := by
  unfold f_X6_least at hF
  refine V.aload_n 0 0 0 rfl dX6_least_0 rfl ?_
  refine V.iconst 0 dX6_least_1 ?_
  refine V.bipush 75 75 (by decide) dX6_least_2 ?_
  replace hF := Option.bind_eq_some_iff.mp hF
  obtain ⟨M1, hM1, hF⟩ := hF
  refine V.callV (d' := d - 1) [vi 0, vi 75] [] (c_X6_copies (by omega) hM1) okX6_copies gw_1144 rfl rfl (by decide) (hcX6 E _) rfl (Nat.le_of_ble_eq_true rfl) (by omega) dX6_least_4 ?_
  rintro _ _ ⟨rfl, rfl⟩
  show V E mX6_least d 7 [(0, rf E 46)] [] M1 _
  refine V.iconst 0 dX6_least_7 ?_
  refine V.istore_n 1 1 [(1, vi 0), (0, rf E 46)] rfl dX6_least_8 (by decide) rfl ?_
  refine V.sub _ [1, 0] rfl ?_
  exact l_X6_least_9 hd hF hK
theorem c_X6_least {E : En} {d : Nat} {n : Nat} {M : Mem} {zr : Int} {zM : Mem}  (hd : 7 ≤ d) (hF : f_X6_least n M = some (zr, zM)) : Cn E mX6_least d [rf E 46] M (fun v N => v = some (vi zr) ∧ zM = N) := by
  refine V.entry (by decide +kernel) (Nat.le_of_ble_eq_true rfl) ?_
  exact v_X6_least_0  hd hF ⟨rfl, rfl⟩
abbrev mX6_see : MI := (yX6_see, cX6_see, 3, (some .int))
theorem okX6_see : OKV mX6_see 2 := ⟨gw_1246, gw_1247, gw_64, gw_1248, (by decide +kernel), (by decide)⟩
def f_X6_see (x1 : Int) (x2 : Int) (M : Mem) : Option (Int × Mem) :=
  (f_X6_in (wr x1) 1 8 M).bind fun v1 =>
  if wr v1 = 0 then
    some ((-1), M)
  else
    (f_X6_in (wr x2) 0 40 M).bind fun v2 =>
    if wr v2 = 0 then
      some ((-1), M)
    else
      if wr (M 46 22) = 6 then
        some ((-3), M)
      else
        (wt M 55 12 (2 * (M 46 22)) x1).bind fun M3 =>
        (wt M3 55 12 ((2 * (M3 46 22)) + 1) x2).bind fun M4 =>
        (some (st M4 46 22 ((M4 46 22) + 1))).bind fun M5 =>
        some (M5 46 22, M5)
set_option maxRecDepth 10000 in
theorem v_X6_see_0 {E : En} {d : Nat} {Q : Po} {x1 : Int} {x2 : Int} {M : Mem} {z : Int × Mem}  (hd : 2 ≤ d) (hF : f_X6_see x1 x2 M = some z) (hK : Q (some (vi z.1)) z.2) : V E mX6_see d 0 [(0, rf E 46), (1, vi x1), (2, vi x2)] [] M Q := by
  unfold f_X6_see at hF
  refine V.iload_n 1 1 1 rfl dX6_see_0 rfl ?_
  refine V.i2l dX6_see_1 ?_
  refine V.lconst 1 1 (by decide) dX6_see_2 ?_
  refine V.ldc2 197 8 8 (by decide) gw_1142 dX6_see_3 ?_
  replace hF := Option.bind_eq_some_iff.mp hF
  obtain ⟨v1, hv1, hF⟩ := hF
  refine V.callS (d' := d - 1) [vl (wr x1), vl 1, vl 8] [] (c_X6_in (by omega) hv1) okX6_in gw_966 rfl rfl (Nat.le_of_ble_eq_true rfl) (by omega) dX6_see_6 ?_
  rintro _ _ ⟨rfl, rfl⟩
  show V E mX6_see d 9 [(0, rf E 46), (1, vi x1), (2, vi x2)] [vi v1] M _
  refine V.if_eq (tgt := 24) rfl dX6_see_9 (by decide) (fun hc => ?_) (fun hc => ?_)
  · rw [if_pos hc] at hF
    refine V.iconst (-1) dX6_see_24 ?_
    cases Option.some.inj hF
    exact V.iret rfl dX6_see_25 hK
  · rw [if_neg hc] at hF
    refine V.iload_n 2 2 2 rfl dX6_see_12 rfl ?_
    refine V.i2l dX6_see_13 ?_
    refine V.lconst 0 0 (by decide) dX6_see_14 ?_
    refine V.ldc2 173 40 40 (by decide) gw_1079 dX6_see_15 ?_
    replace hF := Option.bind_eq_some_iff.mp hF
    obtain ⟨v2, hv2, hF⟩ := hF
    refine V.callS (d' := d - 1) [vl (wr x2), vl 0, vl 40] [] (c_X6_in (by omega) hv2) okX6_in gw_966 rfl rfl (Nat.le_of_ble_eq_true rfl) (by omega) dX6_see_18 ?_
    rintro _ _ ⟨rfl, rfl⟩
    show V E mX6_see d 21 [(0, rf E 46), (1, vi x1), (2, vi x2)] [vi v2] M _
    refine V.if_ne (tgt := 26) rfl dX6_see_21 (by decide) (fun hc => ?_) (fun hc => ?_)
    · rw [if_neg hc] at hF
      refine V.aload_n 0 0 0 rfl dX6_see_26 rfl ?_
      refine V.get (by decide) (hcX6 E _) rfl inX6 22 (by decide) rfl gw_897 dX6_see_27 ?_
      refine V.bipush 6 6 (by decide) dX6_see_30 ?_
      refine V.icmp_ne (tgt := 38) rfl wr_6 dX6_see_32 (by decide) (fun hc => ?_) (fun hc => ?_)
      · rw [if_neg hc] at hF
        refine V.aload_n 0 0 0 rfl dX6_see_38 rfl ?_
        refine V.get (by decide) (hcX6 E _) rfl inX6 21 (by decide) rfl gw_896 dX6_see_39 ?_
        refine V.iconst 2 dX6_see_42 ?_
        refine V.aload_n 0 0 0 rfl dX6_see_43 rfl ?_
        refine V.get (by decide) (hcX6 E _) rfl inX6 22 (by decide) rfl gw_897 dX6_see_44 ?_
        refine V.imul dX6_see_47 ?_
        refine V.iload_n 1 1 1 rfl dX6_see_48 rfl ?_
        replace hF := Option.bind_eq_some_iff.mp hF
        obtain ⟨M3, hM3, hF⟩ := hF
        refine V.iast ar_55 hM3 dX6_see_49 ?_
        refine V.aload_n 0 0 0 rfl dX6_see_50 rfl ?_
        refine V.get (by decide) (hcX6 E _) rfl inX6 21 (by decide) rfl gw_896 dX6_see_51 ?_
        refine V.iconst 2 dX6_see_54 ?_
        refine V.aload_n 0 0 0 rfl dX6_see_55 rfl ?_
        refine V.get (by decide) (hcX6 E _) rfl inX6 22 (by decide) rfl gw_897 dX6_see_56 ?_
        refine V.imul dX6_see_59 ?_
        refine V.iconst 1 dX6_see_60 ?_
        refine V.iadd dX6_see_61 ?_
        refine V.iload_n 2 2 2 rfl dX6_see_62 rfl ?_
        replace hF := Option.bind_eq_some_iff.mp hF
        obtain ⟨M4, hM4, hF⟩ := hF
        refine V.iast ar_55 hM4 dX6_see_63 ?_
        refine V.aload_n 0 0 0 rfl dX6_see_64 rfl ?_
        refine V.dup rfl dX6_see_65 ?_
        refine V.get (by decide) (hcX6 E _) rfl inX6 22 (by decide) rfl gw_897 dX6_see_66 ?_
        refine V.iconst 1 dX6_see_69 ?_
        refine V.iadd dX6_see_70 ?_
        replace hF := Option.bind_eq_some_iff.mp hF
        obtain ⟨M5, hM5, hF⟩ := hF
        refine V.put (x := (M4 46 22) + 1) (ty := .int) (Option.some.inj hM5) (by decide) (hcX6 E) rfl inX6 tyX6 tyX6_ok nmX6 (by decide) rfl (by decide +kernel) rfl rfl (Nat.le_of_ble_eq_true rfl) rfl gw_897 dX6_see_71 ?_
        refine V.aload_n 0 0 0 rfl dX6_see_74 rfl ?_
        refine V.get (by decide) (hcX6 E _) rfl inX6 22 (by decide) rfl gw_897 dX6_see_75 ?_
        cases Option.some.inj hF
        exact V.iret rfl dX6_see_78 hK
      · rw [if_pos hc] at hF
        refine V.bipush (-3) (-3) (by decide) dX6_see_35 ?_
        cases Option.some.inj hF
        exact V.iret rfl dX6_see_37 hK
    · rw [if_pos hc] at hF
      refine V.iconst (-1) dX6_see_24 ?_
      cases Option.some.inj hF
      exact V.iret rfl dX6_see_25 hK
theorem c_X6_see {E : En} {d : Nat} {x1 : Int} {x2 : Int} {M : Mem} {zr : Int} {zM : Mem}  (hd : 2 ≤ d) (hF : f_X6_see x1 x2 M = some (zr, zM)) : Cn E mX6_see d [rf E 46, vi x1, vi x2] M (fun v N => v = some (vi zr) ∧ zM = N) := by
  refine V.entry (by decide +kernel) (Nat.le_of_ble_eq_true rfl) ?_
  exact v_X6_see_0  hd hF ⟨rfl, rfl⟩
abbrev mX6_forget : MI := (yX6_forget, cX6_forget, 3, (some .int))
theorem okX6_forget : OKV mX6_forget 1 := ⟨gw_1250, gw_1251, gw_64, gw_1252, (by decide +kernel), (by decide)⟩
def f_X6_forget (x1 : Int) (M : Mem) : Option (Int × Mem) :=
  (f_X6_in (wr x1) 0 (wr (M 46 22)) M).bind fun v1 =>
  if wr v1 = 0 then
    some ((-1), M)
  else
    (some (st M 46 22 x1)).bind fun M2 =>
    some (M 46 22, M2)
set_option maxRecDepth 10000 in
theorem v_X6_forget_0 {E : En} {d : Nat} {Q : Po} {x1 : Int} {M : Mem} {z : Int × Mem}  (hd : 2 ≤ d) (hF : f_X6_forget x1 M = some z) (hK : Q (some (vi z.1)) z.2) : V E mX6_forget d 0 [(0, rf E 46), (1, vi x1)] [] M Q := by
  unfold f_X6_forget at hF
  refine V.iload_n 1 1 1 rfl dX6_forget_0 rfl ?_
  refine V.i2l dX6_forget_1 ?_
  refine V.lconst 0 0 (by decide) dX6_forget_2 ?_
  refine V.aload_n 0 0 0 rfl dX6_forget_3 rfl ?_
  refine V.get (by decide) (hcX6 E _) rfl inX6 22 (by decide) rfl gw_897 dX6_forget_4 ?_
  refine V.i2l dX6_forget_7 ?_
  replace hF := Option.bind_eq_some_iff.mp hF
  obtain ⟨v1, hv1, hF⟩ := hF
  refine V.callS (d' := d - 1) [vl (wr x1), vl 0, vl (wr (M 46 22))] [] (c_X6_in (by omega) hv1) okX6_in gw_966 rfl rfl (Nat.le_of_ble_eq_true rfl) (by omega) dX6_forget_8 ?_
  rintro _ _ ⟨rfl, rfl⟩
  show V E mX6_forget d 11 [(0, rf E 46), (1, vi x1)] [vi v1] M _
  refine V.if_ne (tgt := 16) rfl dX6_forget_11 (by decide) (fun hc => ?_) (fun hc => ?_)
  · rw [if_neg hc] at hF
    refine V.aload_n 0 0 0 rfl dX6_forget_16 rfl ?_
    refine V.get (by decide) (hcX6 E _) rfl inX6 22 (by decide) rfl gw_897 dX6_forget_17 ?_
    refine V.istore_n 2 2 [(2, vi (M 46 22)), (0, rf E 46), (1, vi x1)] rfl dX6_forget_20 (by decide) rfl ?_
    refine V.aload_n 0 0 1 rfl dX6_forget_21 rfl ?_
    refine V.iload_n 1 1 2 rfl dX6_forget_22 rfl ?_
    replace hF := Option.bind_eq_some_iff.mp hF
    obtain ⟨M2, hM2, hF⟩ := hF
    refine V.put (x := x1) (ty := .int) (Option.some.inj hM2) (by decide) (hcX6 E) rfl inX6 tyX6 tyX6_ok nmX6 (by decide) rfl (by decide +kernel) rfl rfl (Nat.le_of_ble_eq_true rfl) rfl gw_897 dX6_forget_23 ?_
    refine V.iload_n 2 2 0 rfl dX6_forget_26 rfl ?_
    cases Option.some.inj hF
    exact V.iret rfl dX6_forget_27 hK
  · rw [if_pos hc] at hF
    refine V.iconst (-1) dX6_forget_14 ?_
    cases Option.some.inj hF
    exact V.iret rfl dX6_forget_15 hK
theorem c_X6_forget {E : En} {d : Nat} {x1 : Int} {M : Mem} {zr : Int} {zM : Mem}  (hd : 2 ≤ d) (hF : f_X6_forget x1 M = some (zr, zM)) : Cn E mX6_forget d [rf E 46, vi x1] M (fun v N => v = some (vi zr) ∧ zM = N) := by
  refine V.entry (by decide +kernel) (Nat.le_of_ble_eq_true rfl) ?_
  exact v_X6_forget_0  hd hF ⟨rfl, rfl⟩
abbrev mX6_isAsSeen : MI := (yX6_isAsSeen, cX6_isAsSeen, 10, (some .boolean))
theorem okX6_isAsSeen : OKV mX6_isAsSeen 4 := ⟨gw_1259, gw_56, gw_64, gw_1260, (by decide +kernel), (by decide)⟩
def f_X6_isAsSeen_168 (n : Nat) (x1 : Int) (x4 : Int) (x5 : Int) (x6 : Int) (M : Mem) : Option ((Int × Int × Mem) ⊕ (Int × Mem)) :=
  some (.inl (x5, x6 + 1, M))
set_option maxRecDepth 10000 in
theorem v_X6_isAsSeen_168 {E : En} {d : Nat} {Q : Po} {n : Nat} {x1 : Int} {x4 : Int} {x5 : Int} {x6 : Int} {M : Mem} {z : (Int × Int × Mem) ⊕ (Int × Mem)}  (hd : 5 ≤ d) (hF : f_X6_isAsSeen_168 n x1 x4 x5 x6 M = some z) (hC0 : ∀ s' : Int × Int × Mem, z = (.inl s') → V E mX6_isAsSeen d 29 [(0, rf E 46), (1, vi x1), (4, vi x4), (5, vi (s'.1)), (6, vi (s'.2.1))] [] s'.2.2 Q) (hX : ∀ z0 : Int × Mem, z = (.inr z0) → Q (some (vi z0.1)) z0.2) : V E mX6_isAsSeen d 168 [(0, rf E 46), (1, vi x1), (4, vi x4), (5, vi x5), (6, vi x6)] [] M Q := by
  unfold f_X6_isAsSeen_168 at hF
  refine V.iinc 6 4 1 [(6, vi (x6 + 1)), (0, rf E 46), (1, vi x1), (4, vi x4), (5, vi x5)] dX6_isAsSeen_168 rfl (by decide) rfl ?_
  refine V.goto (tgt := 29) dX6_isAsSeen_171 (by decide) ?_
  cases Option.some.inj hF
  refine V.sub _ [1, 2, 3, 4, 0] rfl ?_
  exact hC0 _ rfl
def f_X6_isAsSeen_160 (n : Nat) (x1 : Int) (x4 : Int) (x6 : Int) (x9 : Int) (s0 : Int) (M : Mem) : Option ((Int × Int) ⊕ ((Int × Int × Mem) ⊕ (Int × Mem))) :=
  some (.inl (s0, x9 + 1))
set_option maxRecDepth 10000 in
theorem v_X6_isAsSeen_160 {E : En} {d : Nat} {Q : Po} {n : Nat} {x1 : Int} {x4 : Int} {x6 : Int} {x9 : Int} {s0 : Int} {M : Mem} {z : (Int × Int) ⊕ ((Int × Int × Mem) ⊕ (Int × Mem))}  (hd : 5 ≤ d) (hF : f_X6_isAsSeen_160 n x1 x4 x6 x9 s0 M = some z) (hC0 : ∀ s' : Int × Int, z = (.inl s') → V E mX6_isAsSeen d 106 [(0, rf E 46), (1, vi x1), (4, vi x4), (5, vi (s'.1)), (6, vi x6), (9, vi (s'.2))] [] M Q) (hC1 : ∀ s' : Int × Int × Mem, z = (.inr (.inl s')) → V E mX6_isAsSeen d 29 [(0, rf E 46), (1, vi x1), (4, vi x4), (5, vi (s'.1)), (6, vi (s'.2.1))] [] s'.2.2 Q) (hX : ∀ z0 : Int × Mem, z = (.inr (.inr z0)) → Q (some (vi z0.1)) z0.2) : V E mX6_isAsSeen d 160 [(0, rf E 46), (1, vi x1), (4, vi x4), (6, vi x6), (9, vi x9)] [vi s0] M Q := by
  unfold f_X6_isAsSeen_160 at hF
  refine V.istore 5 [(5, vi s0), (0, rf E 46), (1, vi x1), (4, vi x4), (6, vi x6), (9, vi x9)] dX6_isAsSeen_160 (by decide) rfl ?_
  refine V.iinc 9 5 1 [(9, vi (x9 + 1)), (5, vi s0), (0, rf E 46), (1, vi x1), (4, vi x4), (6, vi x6)] dX6_isAsSeen_162 rfl (by decide) rfl ?_
  refine V.goto (tgt := 106) dX6_isAsSeen_165 (by decide) ?_
  cases Option.some.inj hF
  refine V.sub _ [2, 3, 4, 1, 5, 0] rfl ?_
  exact hC0 _ rfl
def f_X6_isAsSeen_159 (n : Nat) (x1 : Int) (x4 : Int) (x6 : Int) (x9 : Int) (M : Mem) : Option ((Int × Int) ⊕ ((Int × Int × Mem) ⊕ (Int × Mem))) :=
  f_X6_isAsSeen_160 n x1 x4 x6 x9 0 M
set_option maxRecDepth 10000 in
theorem v_X6_isAsSeen_159 {E : En} {d : Nat} {Q : Po} {n : Nat} {x1 : Int} {x4 : Int} {x6 : Int} {x9 : Int} {M : Mem} {z : (Int × Int) ⊕ ((Int × Int × Mem) ⊕ (Int × Mem))}  (hd : 5 ≤ d) (hF : f_X6_isAsSeen_159 n x1 x4 x6 x9 M = some z) (hC0 : ∀ s' : Int × Int, z = (.inl s') → V E mX6_isAsSeen d 106 [(0, rf E 46), (1, vi x1), (4, vi x4), (5, vi (s'.1)), (6, vi x6), (9, vi (s'.2))] [] M Q) (hC1 : ∀ s' : Int × Int × Mem, z = (.inr (.inl s')) → V E mX6_isAsSeen d 29 [(0, rf E 46), (1, vi x1), (4, vi x4), (5, vi (s'.1)), (6, vi (s'.2.1))] [] s'.2.2 Q) (hX : ∀ z0 : Int × Mem, z = (.inr (.inr z0)) → Q (some (vi z0.1)) z0.2) : V E mX6_isAsSeen d 159 [(0, rf E 46), (1, vi x1), (4, vi x4), (6, vi x6), (9, vi x9)] [] M Q := by
  unfold f_X6_isAsSeen_159 at hF
  refine V.iconst 0 dX6_isAsSeen_159 ?_
  exact v_X6_isAsSeen_160 hd hF hC0 hC1 hX
def f_X6_isAsSeen_155 (n : Nat) (x1 : Int) (x4 : Int) (x6 : Int) (x9 : Int) (M : Mem) : Option ((Int × Int) ⊕ ((Int × Int × Mem) ⊕ (Int × Mem))) :=
  f_X6_isAsSeen_160 n x1 x4 x6 x9 1 M
set_option maxRecDepth 10000 in
theorem v_X6_isAsSeen_155 {E : En} {d : Nat} {Q : Po} {n : Nat} {x1 : Int} {x4 : Int} {x6 : Int} {x9 : Int} {M : Mem} {z : (Int × Int) ⊕ ((Int × Int × Mem) ⊕ (Int × Mem))}  (hd : 5 ≤ d) (hF : f_X6_isAsSeen_155 n x1 x4 x6 x9 M = some z) (hC0 : ∀ s' : Int × Int, z = (.inl s') → V E mX6_isAsSeen d 106 [(0, rf E 46), (1, vi x1), (4, vi x4), (5, vi (s'.1)), (6, vi x6), (9, vi (s'.2))] [] M Q) (hC1 : ∀ s' : Int × Int × Mem, z = (.inr (.inl s')) → V E mX6_isAsSeen d 29 [(0, rf E 46), (1, vi x1), (4, vi x4), (5, vi (s'.1)), (6, vi (s'.2.1))] [] s'.2.2 Q) (hX : ∀ z0 : Int × Mem, z = (.inr (.inr z0)) → Q (some (vi z0.1)) z0.2) : V E mX6_isAsSeen d 155 [(0, rf E 46), (1, vi x1), (4, vi x4), (6, vi x6), (9, vi x9)] [] M Q := by
  unfold f_X6_isAsSeen_155 at hF
  refine V.iconst 1 dX6_isAsSeen_155 ?_
  refine V.goto (tgt := 160) dX6_isAsSeen_156 (by decide) ?_
  exact v_X6_isAsSeen_160 hd hF hC0 hC1 hX
def f_X6_isAsSeen_106 (n : Nat) (x1 : Int) (x4 : Int) (x5 : Int) (x6 : Int) (x9 : Int) (M : Mem) : Option ((Int × Int) ⊕ ((Int × Int × Mem) ⊕ (Int × Mem))) :=
  if wr (M 46 22) ≤ wr x9 then
    (f_X6_isAsSeen_168 n x1 x4 x5 x6 M).map Sum.inr
  else
    if wr x5 = 0 then
      f_X6_isAsSeen_159 n x1 x4 x6 x9 M
    else
      (rd M 55 12 (2 * x9)).bind fun v1 =>
      if wr v1 = wr x6 then
        (rd M 55 12 ((2 * x9) + 1)).bind fun v2 =>
        if wr v2 = wr (M 47 116) then
          f_X6_isAsSeen_155 n x1 x4 x6 x9 M
        else
          f_X6_isAsSeen_159 n x1 x4 x6 x9 M
      else
        f_X6_isAsSeen_155 n x1 x4 x6 x9 M
set_option maxRecDepth 10000 in
theorem v_X6_isAsSeen_106 {E : En} {d : Nat} {Q : Po} {n : Nat} {x1 : Int} {x4 : Int} {x5 : Int} {x6 : Int} {x9 : Int} {M : Mem} {z : (Int × Int) ⊕ ((Int × Int × Mem) ⊕ (Int × Mem))}  (hd : 5 ≤ d) (hF : f_X6_isAsSeen_106 n x1 x4 x5 x6 x9 M = some z) (hC0 : ∀ s' : Int × Int, z = (.inl s') → V E mX6_isAsSeen d 106 [(0, rf E 46), (1, vi x1), (4, vi x4), (5, vi (s'.1)), (6, vi x6), (9, vi (s'.2))] [] M Q) (hC1 : ∀ s' : Int × Int × Mem, z = (.inr (.inl s')) → V E mX6_isAsSeen d 29 [(0, rf E 46), (1, vi x1), (4, vi x4), (5, vi (s'.1)), (6, vi (s'.2.1))] [] s'.2.2 Q) (hX : ∀ z0 : Int × Mem, z = (.inr (.inr z0)) → Q (some (vi z0.1)) z0.2) : V E mX6_isAsSeen d 106 [(0, rf E 46), (1, vi x1), (4, vi x4), (5, vi x5), (6, vi x6), (9, vi x9)] [] M Q := by
  unfold f_X6_isAsSeen_106 at hF
  refine V.iload 9 5 dX6_isAsSeen_106 rfl ?_
  refine V.aload_n 0 0 0 rfl dX6_isAsSeen_108 rfl ?_
  refine V.get (by decide) (hcX6 E _) rfl inX6 22 (by decide) rfl gw_897 dX6_isAsSeen_109 ?_
  refine V.icmp_ge (tgt := 168) rfl rfl dX6_isAsSeen_112 (by decide) (fun hc => ?_) (fun hc => ?_)
  · rw [if_pos hc] at hF
    replace hF := Option.map_eq_some_iff.mp hF
    obtain ⟨z0, hF, rfl⟩ := hF
    refine V.sub _ [0, 1, 2, 3, 4] rfl ?_
    exact v_X6_isAsSeen_168 hd hF (fun s' e => hC1 s' (congrArg Sum.inr e)) (fun z0 e => hX z0 (congrArg Sum.inr e))
  · rw [if_neg hc] at hF
    refine V.iload 5 3 dX6_isAsSeen_115 rfl ?_
    refine V.if_eq (tgt := 159) rfl dX6_isAsSeen_117 (by decide) (fun hc => ?_) (fun hc => ?_)
    · rw [if_pos hc] at hF
      refine V.sub _ [0, 1, 2, 4, 5] rfl ?_
      exact v_X6_isAsSeen_159 hd hF hC0 hC1 hX
    · rw [if_neg hc] at hF
      refine V.aload_n 0 0 0 rfl dX6_isAsSeen_120 rfl ?_
      refine V.get (by decide) (hcX6 E _) rfl inX6 21 (by decide) rfl gw_896 dX6_isAsSeen_121 ?_
      refine V.iconst 2 dX6_isAsSeen_124 ?_
      refine V.iload 9 5 dX6_isAsSeen_125 rfl ?_
      refine V.imul dX6_isAsSeen_127 ?_
      replace hF := Option.bind_eq_some_iff.mp hF
      obtain ⟨v1, hv1, hF⟩ := hF
      refine V.iald ar_55 hv1 dX6_isAsSeen_128 ?_
      refine V.iload 6 4 dX6_isAsSeen_129 rfl ?_
      refine V.icmp_ne (tgt := 155) rfl rfl dX6_isAsSeen_131 (by decide) (fun hc => ?_) (fun hc => ?_)
      · rw [if_neg hc] at hF
        refine V.sub _ [0, 1, 2, 4, 5] rfl ?_
        exact v_X6_isAsSeen_155 hd hF hC0 hC1 hX
      · rw [if_pos hc] at hF
        refine V.aload_n 0 0 0 rfl dX6_isAsSeen_134 rfl ?_
        refine V.get (by decide) (hcX6 E _) rfl inX6 21 (by decide) rfl gw_896 dX6_isAsSeen_135 ?_
        refine V.iconst 2 dX6_isAsSeen_138 ?_
        refine V.iload 9 5 dX6_isAsSeen_139 rfl ?_
        refine V.imul dX6_isAsSeen_141 ?_
        refine V.iconst 1 dX6_isAsSeen_142 ?_
        refine V.iadd dX6_isAsSeen_143 ?_
        replace hF := Option.bind_eq_some_iff.mp hF
        obtain ⟨v2, hv2, hF⟩ := hF
        refine V.iald ar_55 hv2 dX6_isAsSeen_144 ?_
        refine V.aload_n 0 0 0 rfl dX6_isAsSeen_145 rfl ?_
        refine V.get (by decide) (hcX6 E _) rfl inX6 0 (by decide) rfl gw_875 dX6_isAsSeen_146 ?_
        refine V.bipush 116 116 (by decide) dX6_isAsSeen_149 ?_
        refine V.iald ar_47 (rd_lit 116 116 wr_116 (by decide)) dX6_isAsSeen_151 ?_
        refine V.icmp_ne (tgt := 159) rfl rfl dX6_isAsSeen_152 (by decide) (fun hc => ?_) (fun hc => ?_)
        · rw [if_neg hc] at hF
          refine V.sub _ [0, 1, 2, 4, 5] rfl ?_
          exact v_X6_isAsSeen_159 hd hF hC0 hC1 hX
        · rw [if_pos hc] at hF
          refine V.sub _ [0, 1, 2, 4, 5] rfl ?_
          exact v_X6_isAsSeen_155 hd hF hC0 hC1 hX
theorem l_X6_isAsSeen_106 {E : En} {d : Nat} {Q : Po} {n : Nat} {x1 : Int} {x4 : Int} {x6 : Int} {M : Mem} {k : Nat} {s : Int × Int} {z : (Int × Int × Mem) ⊕ (Int × Mem)}  (hd : 5 ≤ d) (hF : lp (fun s => f_X6_isAsSeen_106 n x1 x4 s.1 x6 s.2 M) k s = some z) (hC0 : ∀ s' : Int × Int × Mem, z = (.inl s') → V E mX6_isAsSeen d 29 [(0, rf E 46), (1, vi x1), (4, vi x4), (5, vi (s'.1)), (6, vi (s'.2.1))] [] s'.2.2 Q) (hX : ∀ z0 : Int × Mem, z = (.inr z0) → Q (some (vi z0.1)) z0.2) : V E mX6_isAsSeen d 106 [(0, rf E 46), (1, vi x1), (4, vi x4), (5, vi s.1), (6, vi x6), (9, vi s.2)] [] M Q := by
  refine lp_ind (P := fun s => V E mX6_isAsSeen d 106 [(0, rf E 46), (1, vi x1), (4, vi x4), (5, vi s.1), (6, vi x6), (9, vi s.2)] [] M Q) (z0 := z) ?_ k s hF
  intro s z' hF hc hx
  exact v_X6_isAsSeen_106 hd hF (fun s' e => hc s' e) (fun s' e => hC0 s' (hx _ e).symm) (fun z0 e => hX z0 (hx _ e).symm)
def f_X6_isAsSeen_102 (n : Nat) (x1 : Int) (x4 : Int) (x5 : Int) (x6 : Int) (s0 : Int) (s1 : Int) (M : Mem) : Option ((Int × Int × Mem) ⊕ (Int × Mem)) :=
  (wt M 47 125 s1 s0).bind fun M1 =>
  lp (fun s => f_X6_isAsSeen_106 n x1 x4 s.1 x6 s.2 M1) n (x5, 0)
set_option maxRecDepth 10000 in
theorem v_X6_isAsSeen_102 {E : En} {d : Nat} {Q : Po} {n : Nat} {x1 : Int} {x4 : Int} {x5 : Int} {x6 : Int} {s0 : Int} {s1 : Int} {M : Mem} {z : (Int × Int × Mem) ⊕ (Int × Mem)}  (hd : 5 ≤ d) (hF : f_X6_isAsSeen_102 n x1 x4 x5 x6 s0 s1 M = some z) (hC0 : ∀ s' : Int × Int × Mem, z = (.inl s') → V E mX6_isAsSeen d 29 [(0, rf E 46), (1, vi x1), (4, vi x4), (5, vi (s'.1)), (6, vi (s'.2.1))] [] s'.2.2 Q) (hX : ∀ z0 : Int × Mem, z = (.inr z0) → Q (some (vi z0.1)) z0.2) : V E mX6_isAsSeen d 102 [(0, rf E 46), (1, vi x1), (4, vi x4), (5, vi x5), (6, vi x6)] [vi s0, vi s1, rf E 47] M Q := by
  unfold f_X6_isAsSeen_102 at hF
  replace hF := Option.bind_eq_some_iff.mp hF
  obtain ⟨M1, hM1, hF⟩ := hF
  refine V.iast ar_47 hM1 dX6_isAsSeen_102 ?_
  refine V.iconst 0 dX6_isAsSeen_103 ?_
  refine V.istore 9 [(9, vi 0), (0, rf E 46), (1, vi x1), (4, vi x4), (5, vi x5), (6, vi x6)] dX6_isAsSeen_104 (by decide) rfl ?_
  refine V.sub _ [1, 2, 3, 4, 5, 0] rfl ?_
  exact l_X6_isAsSeen_106 hd hF hC0 hX
def f_X6_isAsSeen_53 (n : Nat) (x1 : Int) (x4 : Int) (x5 : Int) (x6 : Int) (s0 : Int) (M : Mem) : Option ((Int × Int × Mem) ⊕ (Int × Mem)) :=
  (f_X6_triesOne n x1 M).bind fun (v1, M2) =>
  if wr s0 = 0 then
    f_X6_isAsSeen_102 n x1 x4 x5 x6 (M2 47 116) 116 M2
  else
    if wr (M2 47 116) ≤ wr x4 then
      f_X6_isAsSeen_102 n x1 x4 x5 x6 0 116 M2
    else
      f_X6_isAsSeen_102 n x1 x4 x5 x6 ((M2 47 116) - x4) 116 M2
set_option maxRecDepth 10000 in
theorem v_X6_isAsSeen_53 {E : En} {d : Nat} {Q : Po} {n : Nat} {x1 : Int} {x4 : Int} {x5 : Int} {x6 : Int} {s0 : Int} {M : Mem} {z : (Int × Int × Mem) ⊕ (Int × Mem)}  (hd : 5 ≤ d) (hF : f_X6_isAsSeen_53 n x1 x4 x5 x6 s0 M = some z) (hC0 : ∀ s' : Int × Int × Mem, z = (.inl s') → V E mX6_isAsSeen d 29 [(0, rf E 46), (1, vi x1), (4, vi x4), (5, vi (s'.1)), (6, vi (s'.2.1))] [] s'.2.2 Q) (hX : ∀ z0 : Int × Mem, z = (.inr z0) → Q (some (vi z0.1)) z0.2) : V E mX6_isAsSeen d 53 [(0, rf E 46), (1, vi x1), (4, vi x4), (5, vi x5), (6, vi x6)] [vi s0] M Q := by
  unfold f_X6_isAsSeen_53 at hF
  refine V.istore 7 [(7, vi s0), (0, rf E 46), (1, vi x1), (4, vi x4), (5, vi x5), (6, vi x6)] dX6_isAsSeen_53 (by decide) rfl ?_
  refine V.aload_n 0 0 1 rfl dX6_isAsSeen_55 rfl ?_
  refine V.iload_n 1 1 2 rfl dX6_isAsSeen_56 rfl ?_
  replace hF := Option.bind_eq_some_iff.mp hF
  obtain ⟨⟨v1, M2⟩, hv1, hF⟩ := hF
  dsimp only at hF
  refine V.callV (d' := d - 1) [vi x1] [] (c_X6_triesOne (by omega) hv1) okX6_triesOne gw_1148 rfl rfl (by decide) (hcX6 E _) rfl (Nat.le_of_ble_eq_true rfl) (by omega) dX6_isAsSeen_57 ?_
  rintro _ _ ⟨rfl, rfl⟩
  show V E mX6_isAsSeen d 60 [(7, vi s0), (0, rf E 46), (1, vi x1), (4, vi x4), (5, vi x5), (6, vi x6)] [vi v1] M2 _
  refine V.pop rfl dX6_isAsSeen_60 ?_
  refine V.aload_n 0 0 1 rfl dX6_isAsSeen_61 rfl ?_
  refine V.get (by decide) (hcX6 E _) rfl inX6 0 (by decide) rfl gw_875 dX6_isAsSeen_62 ?_
  refine V.bipush 116 116 (by decide) dX6_isAsSeen_65 ?_
  refine V.iald ar_47 (rd_lit 116 116 wr_116 (by decide)) dX6_isAsSeen_67 ?_
  refine V.istore 8 [(8, vi (M2 47 116)), (7, vi s0), (0, rf E 46), (1, vi x1), (4, vi x4), (5, vi x5), (6, vi x6)] dX6_isAsSeen_68 (by decide) rfl ?_
  refine V.aload_n 0 0 2 rfl dX6_isAsSeen_70 rfl ?_
  refine V.get (by decide) (hcX6 E _) rfl inX6 0 (by decide) rfl gw_875 dX6_isAsSeen_71 ?_
  refine V.bipush 116 116 (by decide) dX6_isAsSeen_74 ?_
  refine V.iload 7 1 dX6_isAsSeen_76 rfl ?_
  refine V.if_ne (tgt := 86) rfl dX6_isAsSeen_78 (by decide) (fun hc => ?_) (fun hc => ?_)
  · rw [if_neg hc] at hF
    refine V.iload 8 0 dX6_isAsSeen_86 rfl ?_
    refine V.iload 4 4 dX6_isAsSeen_88 rfl ?_
    refine V.icmp_le (tgt := 101) rfl rfl dX6_isAsSeen_90 (by decide) (fun hc => ?_) (fun hc => ?_)
    · rw [if_pos hc] at hF
      refine V.iconst 0 dX6_isAsSeen_101 ?_
      refine V.sub _ [2, 3, 4, 5, 6] rfl ?_
      exact v_X6_isAsSeen_102 hd hF hC0 hX
    · rw [if_neg hc] at hF
      refine V.iload 8 0 dX6_isAsSeen_93 rfl ?_
      refine V.iload 4 4 dX6_isAsSeen_95 rfl ?_
      refine V.isub dX6_isAsSeen_97 ?_
      refine V.goto (tgt := 102) dX6_isAsSeen_98 (by decide) ?_
      refine V.sub _ [2, 3, 4, 5, 6] rfl ?_
      exact v_X6_isAsSeen_102 hd hF hC0 hX
  · rw [if_pos hc] at hF
    refine V.iload 8 0 dX6_isAsSeen_81 rfl ?_
    refine V.goto (tgt := 102) dX6_isAsSeen_83 (by decide) ?_
    refine V.sub _ [2, 3, 4, 5, 6] rfl ?_
    exact v_X6_isAsSeen_102 hd hF hC0 hX
def f_X6_isAsSeen_29 (n : Nat) (x1 : Int) (x4 : Int) (x5 : Int) (x6 : Int) (M : Mem) : Option ((Int × Int × Mem) ⊕ (Int × Mem)) :=
  if 8 < wr x6 then
    (bz x5).bind fun v1 =>
    some (.inr (v1, M))
  else
    if 8 ≤ wr (M 47 121) then
      f_X6_isAsSeen_53 n x1 x4 x5 x6 0 M
    else
      f_X6_isAsSeen_53 n x1 x4 x5 x6 1 M
set_option maxRecDepth 10000 in
theorem v_X6_isAsSeen_29 {E : En} {d : Nat} {Q : Po} {n : Nat} {x1 : Int} {x4 : Int} {x5 : Int} {x6 : Int} {M : Mem} {z : (Int × Int × Mem) ⊕ (Int × Mem)}  (hd : 5 ≤ d) (hF : f_X6_isAsSeen_29 n x1 x4 x5 x6 M = some z) (hC0 : ∀ s' : Int × Int × Mem, z = (.inl s') → V E mX6_isAsSeen d 29 [(0, rf E 46), (1, vi x1), (4, vi x4), (5, vi (s'.1)), (6, vi (s'.2.1))] [] s'.2.2 Q) (hX : ∀ z0 : Int × Mem, z = (.inr z0) → Q (some (vi z0.1)) z0.2) : V E mX6_isAsSeen d 29 [(0, rf E 46), (1, vi x1), (4, vi x4), (5, vi x5), (6, vi x6)] [] M Q := by
  unfold f_X6_isAsSeen_29 at hF
  refine V.iload 6 4 dX6_isAsSeen_29 rfl ?_
  refine V.bipush 8 8 (by decide) dX6_isAsSeen_31 ?_
  refine V.icmp_gt (tgt := 174) rfl wr_8 dX6_isAsSeen_33 (by decide) (fun hc => ?_) (fun hc => ?_)
  · rw [if_pos hc] at hF
    refine V.iload 5 3 dX6_isAsSeen_174 rfl ?_
    replace hF := Option.bind_eq_some_iff.mp hF
    obtain ⟨v1, hv1, hF⟩ := hF
    obtain ⟨hzv1, rfl⟩ := bz_some hv1
    cases Option.some.inj hF
    exact V.zret rfl hzv1 dX6_isAsSeen_176 (hX _ rfl)
  · rw [if_neg hc] at hF
    refine V.aload_n 0 0 0 rfl dX6_isAsSeen_36 rfl ?_
    refine V.get (by decide) (hcX6 E _) rfl inX6 0 (by decide) rfl gw_875 dX6_isAsSeen_37 ?_
    refine V.bipush 121 121 (by decide) dX6_isAsSeen_40 ?_
    refine V.iald ar_47 (rd_lit 121 121 wr_121 (by decide)) dX6_isAsSeen_42 ?_
    refine V.bipush 8 8 (by decide) dX6_isAsSeen_43 ?_
    refine V.icmp_ge (tgt := 52) rfl wr_8 dX6_isAsSeen_45 (by decide) (fun hc => ?_) (fun hc => ?_)
    · rw [if_pos hc] at hF
      refine V.iconst 0 dX6_isAsSeen_52 ?_
      exact v_X6_isAsSeen_53 hd hF hC0 hX
    · rw [if_neg hc] at hF
      refine V.iconst 1 dX6_isAsSeen_48 ?_
      refine V.goto (tgt := 53) dX6_isAsSeen_49 (by decide) ?_
      exact v_X6_isAsSeen_53 hd hF hC0 hX
theorem l_X6_isAsSeen_29 {E : En} {d : Nat} {Q : Po} {n : Nat} {x1 : Int} {x4 : Int} {k : Nat} {s : Int × Int × Mem} {z : Int × Mem}  (hd : 5 ≤ d) (hF : lp (fun s => f_X6_isAsSeen_29 n x1 x4 s.1 s.2.1 s.2.2) k s = some z) (hK : Q (some (vi z.1)) z.2) : V E mX6_isAsSeen d 29 [(0, rf E 46), (1, vi x1), (4, vi x4), (5, vi s.1), (6, vi s.2.1)] [] s.2.2 Q := by
  refine lp_ind (P := fun s => V E mX6_isAsSeen d 29 [(0, rf E 46), (1, vi x1), (4, vi x4), (5, vi s.1), (6, vi s.2.1)] [] s.2.2 Q) (z0 := z) ?_ k s hF
  intro s z' hF hc hx
  exact v_X6_isAsSeen_29 hd hF (fun s' e => hc s' e) (fun z0 e => by rw [hx _ e]; exact hK)
def f_X6_isAsSeen (n : Nat) (x1 : Int) (x2 : Int) (x3 : Int) (x4 : Int) (M : Mem) : Option (Int × Mem) :=
  (f_X6_copies n 0 100 M).bind fun M1 =>
  (some (st M1 47 119 x2)).bind fun M2 =>
  (some (st M2 47 120 x3)).bind fun M3 =>
  lp (fun s => f_X6_isAsSeen_29 n x1 x4 s.1 s.2.1 s.2.2) n (1, 1, M3)
set_option maxRecDepth 10000 in
theorem v_X6_isAsSeen_0 {E : En} {d : Nat} {Q : Po} {n : Nat} {x1 : Int} {x2 : Int} {x3 : Int} {x4 : Int} {M : Mem} {z : Int × Mem}  (hd : 5 ≤ d) (hF : f_X6_isAsSeen n x1 x2 x3 x4 M = some z) (hK : Q (some (vi z.1)) z.2) : V E mX6_isAsSeen d 0 [(0, rf E 46), (1, vi x1), (2, vi x2), (3, vi x3), (4, vi x4)] [] M Q := by
  unfold f_X6_isAsSeen at hF
  refine V.iconst 1 dX6_isAsSeen_0 ?_
  refine V.istore 5 [(5, vi 1), (0, rf E 46), (1, vi x1), (2, vi x2), (3, vi x3), (4, vi x4)] dX6_isAsSeen_1 (by decide) rfl ?_
  refine V.aload_n 0 0 1 rfl dX6_isAsSeen_3 rfl ?_
  refine V.iconst 0 dX6_isAsSeen_4 ?_
  refine V.bipush 100 100 (by decide) dX6_isAsSeen_5 ?_
  replace hF := Option.bind_eq_some_iff.mp hF
  obtain ⟨M1, hM1, hF⟩ := hF
  refine V.callV (d' := d - 1) [vi 0, vi 100] [] (c_X6_copies (by omega) hM1) okX6_copies gw_1144 rfl rfl (by decide) (hcX6 E _) rfl (Nat.le_of_ble_eq_true rfl) (by omega) dX6_isAsSeen_7 ?_
  rintro _ _ ⟨rfl, rfl⟩
  show V E mX6_isAsSeen d 10 [(5, vi 1), (0, rf E 46), (1, vi x1), (2, vi x2), (3, vi x3), (4, vi x4)] [] M1 _
  refine V.aload_n 0 0 1 rfl dX6_isAsSeen_10 rfl ?_
  refine V.get (by decide) (hcX6 E _) rfl inX6 0 (by decide) rfl gw_875 dX6_isAsSeen_11 ?_
  refine V.bipush 119 119 (by decide) dX6_isAsSeen_14 ?_
  refine V.iload_n 2 2 3 rfl dX6_isAsSeen_16 rfl ?_
  replace hF := Option.bind_eq_some_iff.mp hF
  obtain ⟨M2, hM2, hF⟩ := hF
  refine V.iast ar_47 ((wt_lit 119 119 wr_119 (by decide)).trans hM2) dX6_isAsSeen_17 ?_
  refine V.aload_n 0 0 1 rfl dX6_isAsSeen_18 rfl ?_
  refine V.get (by decide) (hcX6 E _) rfl inX6 0 (by decide) rfl gw_875 dX6_isAsSeen_19 ?_
  refine V.bipush 120 120 (by decide) dX6_isAsSeen_22 ?_
  refine V.iload_n 3 3 4 rfl dX6_isAsSeen_24 rfl ?_
  replace hF := Option.bind_eq_some_iff.mp hF
  obtain ⟨M3, hM3, hF⟩ := hF
  refine V.iast ar_47 ((wt_lit 120 120 wr_120 (by decide)).trans hM3) dX6_isAsSeen_25 ?_
  refine V.iconst 1 dX6_isAsSeen_26 ?_
  refine V.istore 6 [(6, vi 1), (5, vi 1), (0, rf E 46), (1, vi x1), (2, vi x2), (3, vi x3), (4, vi x4)] dX6_isAsSeen_27 (by decide) rfl ?_
  refine V.sub _ [2, 3, 6, 1, 0] rfl ?_
  exact l_X6_isAsSeen_29 hd hF hK
theorem c_X6_isAsSeen {E : En} {d : Nat} {n : Nat} {x1 : Int} {x2 : Int} {x3 : Int} {x4 : Int} {M : Mem} {zr : Int} {zM : Mem}  (hd : 5 ≤ d) (hF : f_X6_isAsSeen n x1 x2 x3 x4 M = some (zr, zM)) : Cn E mX6_isAsSeen d [rf E 46, vi x1, vi x2, vi x3, vi x4] M (fun v N => v = some (vi zr) ∧ zM = N) := by
  refine V.entry (by decide +kernel) (Nat.le_of_ble_eq_true rfl) ?_
  exact v_X6_isAsSeen_0  hd hF ⟨rfl, rfl⟩
abbrev mX6_stewards : MI := (yX6_stewards, cX6_stewards, 6, (some .int))
theorem okX6_stewards : OKV mX6_stewards 2 := ⟨gw_1254, gw_1255, gw_64, gw_1256, (by decide +kernel), (by decide)⟩
def f_X6_stewards_77 (n : Nat) (x2 : Int) (x3 : Int) (x4 : Int) (M : Mem) : Option (Int × Mem) :=
  if wr x2 = 0 then
    some (x3, M)
  else
    some (x4, M)
set_option maxRecDepth 10000 in
theorem v_X6_stewards_77 {E : En} {d : Nat} {Q : Po} {n : Nat} {x2 : Int} {x3 : Int} {x4 : Int} {M : Mem} {z : Int × Mem}  (hd : 6 ≤ d) (hF : f_X6_stewards_77 n x2 x3 x4 M = some z) (hK : Q (some (vi z.1)) z.2) : V E mX6_stewards d 77 [(2, vi x2), (3, vi x3), (4, vi x4)] [] M Q := by
  unfold f_X6_stewards_77 at hF
  refine V.iload_n 2 2 0 rfl dX6_stewards_77 rfl ?_
  refine V.if_ne (tgt := 85) rfl dX6_stewards_78 (by decide) (fun hc => ?_) (fun hc => ?_)
  · rw [if_neg hc] at hF
    refine V.iload 4 2 dX6_stewards_85 rfl ?_
    cases Option.some.inj hF
    exact V.iret rfl dX6_stewards_87 hK
  · rw [if_pos hc] at hF
    refine V.iload_n 3 3 1 rfl dX6_stewards_81 rfl ?_
    refine V.goto (tgt := 87) dX6_stewards_82 (by decide) ?_
    cases Option.some.inj hF
    exact V.iret rfl dX6_stewards_87 hK
def f_X6_stewards_71 (n : Nat) (x1 : Int) (x2 : Int) (x3 : Int) (x4 : Int) (x5 : Int) (M : Mem) : Option ((Int × Int × Int × Mem) ⊕ (Int × Mem)) :=
  some (.inl (x3, x4, x5 + 1, M))
set_option maxRecDepth 10000 in
theorem v_X6_stewards_71 {E : En} {d : Nat} {Q : Po} {n : Nat} {x1 : Int} {x2 : Int} {x3 : Int} {x4 : Int} {x5 : Int} {M : Mem} {z : (Int × Int × Int × Mem) ⊕ (Int × Mem)}  (hd : 6 ≤ d) (hF : f_X6_stewards_71 n x1 x2 x3 x4 x5 M = some z) (hC0 : ∀ s' : Int × Int × Int × Mem, z = (.inl s') → V E mX6_stewards d 29 [(0, rf E 46), (1, vi x1), (2, vi x2), (3, vi (s'.1)), (4, vi (s'.2.1)), (5, vi (s'.2.2.1))] [] s'.2.2.2 Q) (hX : ∀ z0 : Int × Mem, z = (.inr z0) → Q (some (vi z0.1)) z0.2) : V E mX6_stewards d 71 [(0, rf E 46), (1, vi x1), (2, vi x2), (3, vi x3), (4, vi x4), (5, vi x5)] [] M Q := by
  unfold f_X6_stewards_71 at hF
  refine V.iinc 5 5 1 [(5, vi (x5 + 1)), (0, rf E 46), (1, vi x1), (2, vi x2), (3, vi x3), (4, vi x4)] dX6_stewards_71 rfl (by decide) rfl ?_
  refine V.goto (tgt := 29) dX6_stewards_74 (by decide) ?_
  cases Option.some.inj hF
  refine V.sub _ [1, 2, 3, 4, 5, 0] rfl ?_
  exact hC0 _ rfl
def f_X6_stewards_66 (n : Nat) (x1 : Int) (x2 : Int) (x3 : Int) (x5 : Int) (s0 : Int) (M : Mem) : Option ((Int × Int × Int × Mem) ⊕ (Int × Mem)) :=
  f_X6_stewards_71 n x1 x2 (x3 + 1) s0 x5 M
set_option maxRecDepth 10000 in
theorem v_X6_stewards_66 {E : En} {d : Nat} {Q : Po} {n : Nat} {x1 : Int} {x2 : Int} {x3 : Int} {x5 : Int} {s0 : Int} {M : Mem} {z : (Int × Int × Int × Mem) ⊕ (Int × Mem)}  (hd : 6 ≤ d) (hF : f_X6_stewards_66 n x1 x2 x3 x5 s0 M = some z) (hC0 : ∀ s' : Int × Int × Int × Mem, z = (.inl s') → V E mX6_stewards d 29 [(0, rf E 46), (1, vi x1), (2, vi x2), (3, vi (s'.1)), (4, vi (s'.2.1)), (5, vi (s'.2.2.1))] [] s'.2.2.2 Q) (hX : ∀ z0 : Int × Mem, z = (.inr z0) → Q (some (vi z0.1)) z0.2) : V E mX6_stewards d 66 [(0, rf E 46), (1, vi x1), (2, vi x2), (3, vi x3), (5, vi x5)] [vi s0] M Q := by
  unfold f_X6_stewards_66 at hF
  refine V.istore 4 [(4, vi s0), (0, rf E 46), (1, vi x1), (2, vi x2), (3, vi x3), (5, vi x5)] dX6_stewards_66 (by decide) rfl ?_
  refine V.iinc 3 4 1 [(3, vi (x3 + 1)), (4, vi s0), (0, rf E 46), (1, vi x1), (2, vi x2), (5, vi x5)] dX6_stewards_68 rfl (by decide) rfl ?_
  refine V.sub _ [2, 3, 4, 0, 1, 5] rfl ?_
  exact v_X6_stewards_71 hd hF hC0 hX
def f_X6_stewards_29 (n : Nat) (x1 : Int) (x2 : Int) (x3 : Int) (x4 : Int) (x5 : Int) (M : Mem) : Option ((Int × Int × Int × Mem) ⊕ (Int × Mem)) :=
  if 50 ≤ wr x5 then
    (f_X6_stewards_77 n x2 x3 x4 M).map Sum.inr
  else
    (f_X6_isAsSeen n x1 ((wr x5).tdiv (wr 10)) ((wr x5).tmod (wr 10)) 0 M).bind fun (v1, M2) =>
    if wr v1 = 0 then
      f_X6_stewards_71 n x1 x2 x3 x4 x5 M2
    else
      if wr x3 = 0 then
        f_X6_stewards_66 n x1 x2 x3 x5 x5 M2
      else
        f_X6_stewards_66 n x1 x2 x3 x5 x4 M2
set_option maxRecDepth 10000 in
theorem v_X6_stewards_29 {E : En} {d : Nat} {Q : Po} {n : Nat} {x1 : Int} {x2 : Int} {x3 : Int} {x4 : Int} {x5 : Int} {M : Mem} {z : (Int × Int × Int × Mem) ⊕ (Int × Mem)}  (hd : 6 ≤ d) (hF : f_X6_stewards_29 n x1 x2 x3 x4 x5 M = some z) (hC0 : ∀ s' : Int × Int × Int × Mem, z = (.inl s') → V E mX6_stewards d 29 [(0, rf E 46), (1, vi x1), (2, vi x2), (3, vi (s'.1)), (4, vi (s'.2.1)), (5, vi (s'.2.2.1))] [] s'.2.2.2 Q) (hX : ∀ z0 : Int × Mem, z = (.inr z0) → Q (some (vi z0.1)) z0.2) : V E mX6_stewards d 29 [(0, rf E 46), (1, vi x1), (2, vi x2), (3, vi x3), (4, vi x4), (5, vi x5)] [] M Q := by
  unfold f_X6_stewards_29 at hF
  refine V.iload 5 5 dX6_stewards_29 rfl ?_
  refine V.bipush 50 50 (by decide) dX6_stewards_31 ?_
  refine V.icmp_ge (tgt := 77) rfl wr_50 dX6_stewards_33 (by decide) (fun hc => ?_) (fun hc => ?_)
  · rw [if_pos hc] at hF
    replace hF := Option.map_eq_some_iff.mp hF
    obtain ⟨z0, hF, rfl⟩ := hF
    refine V.sub _ [2, 3, 4] rfl ?_
    exact v_X6_stewards_77 hd hF (hX _ rfl)
  · rw [if_neg hc] at hF
    refine V.aload_n 0 0 0 rfl dX6_stewards_36 rfl ?_
    refine V.iload_n 1 1 1 rfl dX6_stewards_37 rfl ?_
    refine V.iload 5 5 dX6_stewards_38 rfl ?_
    refine V.bipush 10 10 (by decide) dX6_stewards_40 ?_
    refine V.idiv (by decide) dX6_stewards_42 ?_
    refine V.iload 5 5 dX6_stewards_43 rfl ?_
    refine V.bipush 10 10 (by decide) dX6_stewards_45 ?_
    refine V.irem (by decide) dX6_stewards_47 ?_
    refine V.iconst 0 dX6_stewards_48 ?_
    replace hF := Option.bind_eq_some_iff.mp hF
    obtain ⟨⟨v1, M2⟩, hv1, hF⟩ := hF
    dsimp only at hF
    refine V.callV (d' := d - 1) [vi x1, vi ((wr x5).tdiv (wr 10)), vi ((wr x5).tmod (wr 10)), vi 0] [] (c_X6_isAsSeen (by omega) hv1) okX6_isAsSeen gw_1257 rfl rfl (by decide) (hcX6 E _) rfl (Nat.le_of_ble_eq_true rfl) (by omega) dX6_stewards_49 ?_
    rintro _ _ ⟨rfl, rfl⟩
    show V E mX6_stewards d 52 [(0, rf E 46), (1, vi x1), (2, vi x2), (3, vi x3), (4, vi x4), (5, vi x5)] [vi v1] M2 _
    refine V.if_eq (tgt := 71) rfl dX6_stewards_52 (by decide) (fun hc => ?_) (fun hc => ?_)
    · rw [if_pos hc] at hF
      exact v_X6_stewards_71 hd hF hC0 hX
    · rw [if_neg hc] at hF
      refine V.iload_n 3 3 3 rfl dX6_stewards_55 rfl ?_
      refine V.if_ne (tgt := 64) rfl dX6_stewards_56 (by decide) (fun hc => ?_) (fun hc => ?_)
      · rw [if_neg hc] at hF
        refine V.iload 4 4 dX6_stewards_64 rfl ?_
        refine V.sub _ [0, 1, 2, 3, 5] rfl ?_
        exact v_X6_stewards_66 hd hF hC0 hX
      · rw [if_pos hc] at hF
        refine V.iload 5 5 dX6_stewards_59 rfl ?_
        refine V.goto (tgt := 66) dX6_stewards_61 (by decide) ?_
        refine V.sub _ [0, 1, 2, 3, 5] rfl ?_
        exact v_X6_stewards_66 hd hF hC0 hX
theorem l_X6_stewards_29 {E : En} {d : Nat} {Q : Po} {n : Nat} {x1 : Int} {x2 : Int} {k : Nat} {s : Int × Int × Int × Mem} {z : Int × Mem}  (hd : 6 ≤ d) (hF : lp (fun s => f_X6_stewards_29 n x1 x2 s.1 s.2.1 s.2.2.1 s.2.2.2) k s = some z) (hK : Q (some (vi z.1)) z.2) : V E mX6_stewards d 29 [(0, rf E 46), (1, vi x1), (2, vi x2), (3, vi s.1), (4, vi s.2.1), (5, vi s.2.2.1)] [] s.2.2.2 Q := by
  refine lp_ind (P := fun s => V E mX6_stewards d 29 [(0, rf E 46), (1, vi x1), (2, vi x2), (3, vi s.1), (4, vi s.2.1), (5, vi s.2.2.1)] [] s.2.2.2 Q) (z0 := z) ?_ k s hF
  intro s z' hF hc hx
  exact v_X6_stewards_29 hd hF (fun s' e => hc s' e) (fun z0 e => by rw [hx _ e]; exact hK)
def f_X6_stewards (n : Nat) (x1 : Int) (x2 : Int) (M : Mem) : Option (Int × Mem) :=
  (f_X6_isReading x1 M).bind fun v1 =>
  if wr v1 = 0 then
    some ((-1), M)
  else
    (f_X6_in (wr x2) 0 1 M).bind fun v2 =>
    if wr v2 = 0 then
      some ((-1), M)
    else
      lp (fun s => f_X6_stewards_29 n x1 x2 s.1 s.2.1 s.2.2.1 s.2.2.2) n (0, (-4), 0, M)
set_option maxRecDepth 10000 in
theorem v_X6_stewards_0 {E : En} {d : Nat} {Q : Po} {n : Nat} {x1 : Int} {x2 : Int} {M : Mem} {z : Int × Mem}  (hd : 6 ≤ d) (hF : f_X6_stewards n x1 x2 M = some z) (hK : Q (some (vi z.1)) z.2) : V E mX6_stewards d 0 [(0, rf E 46), (1, vi x1), (2, vi x2)] [] M Q := by
  unfold f_X6_stewards at hF
  refine V.aload_n 0 0 0 rfl dX6_stewards_0 rfl ?_
  refine V.iload_n 1 1 1 rfl dX6_stewards_1 rfl ?_
  replace hF := Option.bind_eq_some_iff.mp hF
  obtain ⟨v1, hv1, hF⟩ := hF
  refine V.callV (d' := d - 1) [vi x1] [] (c_X6_isReading (by omega) hv1) okX6_isReading gw_1042 rfl rfl (by decide) (hcX6 E _) rfl (Nat.le_of_ble_eq_true rfl) (by omega) dX6_stewards_2 ?_
  rintro _ _ ⟨rfl, rfl⟩
  show V E mX6_stewards d 5 [(0, rf E 46), (1, vi x1), (2, vi x2)] [vi v1] M _
  refine V.if_eq (tgt := 18) rfl dX6_stewards_5 (by decide) (fun hc => ?_) (fun hc => ?_)
  · rw [if_pos hc] at hF
    refine V.iconst (-1) dX6_stewards_18 ?_
    cases Option.some.inj hF
    exact V.iret rfl dX6_stewards_19 hK
  · rw [if_neg hc] at hF
    refine V.iload_n 2 2 2 rfl dX6_stewards_8 rfl ?_
    refine V.i2l dX6_stewards_9 ?_
    refine V.lconst 0 0 (by decide) dX6_stewards_10 ?_
    refine V.lconst 1 1 (by decide) dX6_stewards_11 ?_
    replace hF := Option.bind_eq_some_iff.mp hF
    obtain ⟨v2, hv2, hF⟩ := hF
    refine V.callS (d' := d - 1) [vl (wr x2), vl 0, vl 1] [] (c_X6_in (by omega) hv2) okX6_in gw_966 rfl rfl (Nat.le_of_ble_eq_true rfl) (by omega) dX6_stewards_12 ?_
    rintro _ _ ⟨rfl, rfl⟩
    show V E mX6_stewards d 15 [(0, rf E 46), (1, vi x1), (2, vi x2)] [vi v2] M _
    refine V.if_ne (tgt := 20) rfl dX6_stewards_15 (by decide) (fun hc => ?_) (fun hc => ?_)
    · rw [if_neg hc] at hF
      refine V.iconst 0 dX6_stewards_20 ?_
      refine V.istore_n 3 3 [(3, vi 0), (0, rf E 46), (1, vi x1), (2, vi x2)] rfl dX6_stewards_21 (by decide) rfl ?_
      refine V.bipush (-4) (-4) (by decide) dX6_stewards_22 ?_
      refine V.istore 4 [(4, vi (-4)), (3, vi 0), (0, rf E 46), (1, vi x1), (2, vi x2)] dX6_stewards_24 (by decide) rfl ?_
      refine V.iconst 0 dX6_stewards_26 ?_
      refine V.istore 5 [(5, vi 0), (4, vi (-4)), (3, vi 0), (0, rf E 46), (1, vi x1), (2, vi x2)] dX6_stewards_27 (by decide) rfl ?_
      refine V.sub _ [3, 4, 5, 2, 1, 0] rfl ?_
      exact l_X6_stewards_29 hd hF hK
    · rw [if_pos hc] at hF
      refine V.iconst (-1) dX6_stewards_18 ?_
      cases Option.some.inj hF
      exact V.iret rfl dX6_stewards_19 hK
theorem c_X6_stewards {E : En} {d : Nat} {n : Nat} {x1 : Int} {x2 : Int} {M : Mem} {zr : Int} {zM : Mem}  (hd : 6 ≤ d) (hF : f_X6_stewards n x1 x2 M = some (zr, zM)) : Cn E mX6_stewards d [rf E 46, vi x1, vi x2] M (fun v N => v = some (vi zr) ∧ zM = N) := by
  refine V.entry (by decide +kernel) (Nat.le_of_ble_eq_true rfl) ?_
  exact v_X6_stewards_0  hd hF ⟨rfl, rfl⟩
abbrev mX6_hoards : MI := (yX6_hoards, cX6_hoards, 4, (some .int))
theorem okX6_hoards : OKV mX6_hoards 1 := ⟨gw_1262, gw_1263, gw_64, gw_1264, (by decide +kernel), (by decide)⟩
def f_X6_hoards_51 (n : Nat) (x1 : Int) (x3 : Int) (s0 : Int) (s1 : Int) (M : Mem) : Option ((Int × Int × Mem) ⊕ (Int × Mem)) :=
  some (.inl (bOr s1 s0, x3 + 1, M))
set_option maxRecDepth 10000 in
theorem v_X6_hoards_51 {E : En} {d : Nat} {Q : Po} {n : Nat} {x1 : Int} {x3 : Int} {s0 : Int} {s1 : Int} {M : Mem} {z : (Int × Int × Mem) ⊕ (Int × Mem)}  (hd : 6 ≤ d) (hF : f_X6_hoards_51 n x1 x3 s0 s1 M = some z) (hC0 : ∀ s' : Int × Int × Mem, z = (.inl s') → V E mX6_hoards d 14 [(0, rf E 46), (1, vi x1), (2, vi (s'.1)), (3, vi (s'.2.1))] [] s'.2.2 Q) (hX : ∀ z0 : Int × Mem, z = (.inr z0) → Q (some (vi z0.1)) z0.2) : V E mX6_hoards d 51 [(0, rf E 46), (1, vi x1), (3, vi x3)] [vi s0, vi s1] M Q := by
  unfold f_X6_hoards_51 at hF
  refine V.ior dX6_hoards_51 ?_
  refine V.istore_n 2 2 [(2, vi (bOr s1 s0)), (0, rf E 46), (1, vi x1), (3, vi x3)] rfl dX6_hoards_52 (by decide) rfl ?_
  refine V.iinc 3 3 1 [(3, vi (x3 + 1)), (2, vi (bOr s1 s0)), (0, rf E 46), (1, vi x1)] dX6_hoards_53 rfl (by decide) rfl ?_
  refine V.goto (tgt := 14) dX6_hoards_56 (by decide) ?_
  cases Option.some.inj hF
  refine V.sub _ [2, 3, 1, 0] rfl ?_
  exact hC0 _ rfl
def f_X6_hoards_14 (n : Nat) (x1 : Int) (x2 : Int) (x3 : Int) (M : Mem) : Option ((Int × Int × Mem) ⊕ (Int × Mem)) :=
  if 10 ≤ wr x3 then
    some (.inr (x2, M))
  else
    (f_X6_isAsSeen n x1 (M 47 19) (M 47 20) x3 M).bind fun (v1, M2) =>
    if wr v1 = 0 then
      f_X6_hoards_51 n x1 x3 0 x2 M2
    else
      f_X6_hoards_51 n x1 x3 (bShl 1 x3) x2 M2
set_option maxRecDepth 10000 in
theorem v_X6_hoards_14 {E : En} {d : Nat} {Q : Po} {n : Nat} {x1 : Int} {x2 : Int} {x3 : Int} {M : Mem} {z : (Int × Int × Mem) ⊕ (Int × Mem)}  (hd : 6 ≤ d) (hF : f_X6_hoards_14 n x1 x2 x3 M = some z) (hC0 : ∀ s' : Int × Int × Mem, z = (.inl s') → V E mX6_hoards d 14 [(0, rf E 46), (1, vi x1), (2, vi (s'.1)), (3, vi (s'.2.1))] [] s'.2.2 Q) (hX : ∀ z0 : Int × Mem, z = (.inr z0) → Q (some (vi z0.1)) z0.2) : V E mX6_hoards d 14 [(0, rf E 46), (1, vi x1), (2, vi x2), (3, vi x3)] [] M Q := by
  unfold f_X6_hoards_14 at hF
  refine V.iload_n 3 3 3 rfl dX6_hoards_14 rfl ?_
  refine V.bipush 10 10 (by decide) dX6_hoards_15 ?_
  refine V.icmp_ge (tgt := 59) rfl wr_10 dX6_hoards_17 (by decide) (fun hc => ?_) (fun hc => ?_)
  · rw [if_pos hc] at hF
    refine V.iload_n 2 2 2 rfl dX6_hoards_59 rfl ?_
    cases Option.some.inj hF
    exact V.iret rfl dX6_hoards_60 (hX _ rfl)
  · rw [if_neg hc] at hF
    refine V.iload_n 2 2 2 rfl dX6_hoards_20 rfl ?_
    refine V.aload_n 0 0 0 rfl dX6_hoards_21 rfl ?_
    refine V.iload_n 1 1 1 rfl dX6_hoards_22 rfl ?_
    refine V.aload_n 0 0 0 rfl dX6_hoards_23 rfl ?_
    refine V.get (by decide) (hcX6 E _) rfl inX6 0 (by decide) rfl gw_875 dX6_hoards_24 ?_
    refine V.bipush 19 19 (by decide) dX6_hoards_27 ?_
    refine V.iald ar_47 (rd_lit 19 19 wr_19 (by decide)) dX6_hoards_29 ?_
    refine V.aload_n 0 0 0 rfl dX6_hoards_30 rfl ?_
    refine V.get (by decide) (hcX6 E _) rfl inX6 0 (by decide) rfl gw_875 dX6_hoards_31 ?_
    refine V.bipush 20 20 (by decide) dX6_hoards_34 ?_
    refine V.iald ar_47 (rd_lit 20 20 wr_20 (by decide)) dX6_hoards_36 ?_
    refine V.iload_n 3 3 3 rfl dX6_hoards_37 rfl ?_
    replace hF := Option.bind_eq_some_iff.mp hF
    obtain ⟨⟨v1, M2⟩, hv1, hF⟩ := hF
    dsimp only at hF
    refine V.callV (d' := d - 1) [vi x1, vi (M 47 19), vi (M 47 20), vi x3] [vi x2] (c_X6_isAsSeen (by omega) hv1) okX6_isAsSeen gw_1257 rfl rfl (by decide) (hcX6 E _) rfl (Nat.le_of_ble_eq_true rfl) (by omega) dX6_hoards_38 ?_
    rintro _ _ ⟨rfl, rfl⟩
    show V E mX6_hoards d 41 [(0, rf E 46), (1, vi x1), (2, vi x2), (3, vi x3)] [vi v1, vi x2] M2 _
    refine V.if_eq (tgt := 50) rfl dX6_hoards_41 (by decide) (fun hc => ?_) (fun hc => ?_)
    · rw [if_pos hc] at hF
      refine V.iconst 0 dX6_hoards_50 ?_
      refine V.sub _ [0, 1, 3] rfl ?_
      exact v_X6_hoards_51 hd hF hC0 hX
    · rw [if_neg hc] at hF
      refine V.iconst 1 dX6_hoards_44 ?_
      refine V.iload_n 3 3 3 rfl dX6_hoards_45 rfl ?_
      refine V.ishl dX6_hoards_46 ?_
      refine V.goto (tgt := 51) dX6_hoards_47 (by decide) ?_
      refine V.sub _ [0, 1, 3] rfl ?_
      exact v_X6_hoards_51 hd hF hC0 hX
theorem l_X6_hoards_14 {E : En} {d : Nat} {Q : Po} {n : Nat} {x1 : Int} {k : Nat} {s : Int × Int × Mem} {z : Int × Mem}  (hd : 6 ≤ d) (hF : lp (fun s => f_X6_hoards_14 n x1 s.1 s.2.1 s.2.2) k s = some z) (hK : Q (some (vi z.1)) z.2) : V E mX6_hoards d 14 [(0, rf E 46), (1, vi x1), (2, vi s.1), (3, vi s.2.1)] [] s.2.2 Q := by
  refine lp_ind (P := fun s => V E mX6_hoards d 14 [(0, rf E 46), (1, vi x1), (2, vi s.1), (3, vi s.2.1)] [] s.2.2 Q) (z0 := z) ?_ k s hF
  intro s z' hF hc hx
  exact v_X6_hoards_14 hd hF (fun s' e => hc s' e) (fun z0 e => by rw [hx _ e]; exact hK)
def f_X6_hoards (n : Nat) (x1 : Int) (M : Mem) : Option (Int × Mem) :=
  (f_X6_isReading x1 M).bind fun v1 =>
  if wr v1 = 0 then
    some ((-1), M)
  else
    lp (fun s => f_X6_hoards_14 n x1 s.1 s.2.1 s.2.2) n (0, 0, M)
set_option maxRecDepth 10000 in
theorem v_X6_hoards_0 {E : En} {d : Nat} {Q : Po} {n : Nat} {x1 : Int} {M : Mem} {z : Int × Mem}  (hd : 6 ≤ d) (hF : f_X6_hoards n x1 M = some z) (hK : Q (some (vi z.1)) z.2) : V E mX6_hoards d 0 [(0, rf E 46), (1, vi x1)] [] M Q := by
  unfold f_X6_hoards at hF
  refine V.aload_n 0 0 0 rfl dX6_hoards_0 rfl ?_
  refine V.iload_n 1 1 1 rfl dX6_hoards_1 rfl ?_
  replace hF := Option.bind_eq_some_iff.mp hF
  obtain ⟨v1, hv1, hF⟩ := hF
  refine V.callV (d' := d - 1) [vi x1] [] (c_X6_isReading (by omega) hv1) okX6_isReading gw_1042 rfl rfl (by decide) (hcX6 E _) rfl (Nat.le_of_ble_eq_true rfl) (by omega) dX6_hoards_2 ?_
  rintro _ _ ⟨rfl, rfl⟩
  show V E mX6_hoards d 5 [(0, rf E 46), (1, vi x1)] [vi v1] M _
  refine V.if_ne (tgt := 10) rfl dX6_hoards_5 (by decide) (fun hc => ?_) (fun hc => ?_)
  · rw [if_neg hc] at hF
    refine V.iconst 0 dX6_hoards_10 ?_
    refine V.istore_n 2 2 [(2, vi 0), (0, rf E 46), (1, vi x1)] rfl dX6_hoards_11 (by decide) rfl ?_
    refine V.iconst 0 dX6_hoards_12 ?_
    refine V.istore_n 3 3 [(3, vi 0), (2, vi 0), (0, rf E 46), (1, vi x1)] rfl dX6_hoards_13 (by decide) rfl ?_
    refine V.sub _ [2, 3, 1, 0] rfl ?_
    exact l_X6_hoards_14 hd hF hK
  · rw [if_pos hc] at hF
    refine V.iconst (-1) dX6_hoards_8 ?_
    cases Option.some.inj hF
    exact V.iret rfl dX6_hoards_9 hK
theorem c_X6_hoards {E : En} {d : Nat} {n : Nat} {x1 : Int} {M : Mem} {zr : Int} {zM : Mem}  (hd : 6 ≤ d) (hF : f_X6_hoards n x1 M = some (zr, zM)) : Cn E mX6_hoards d [rf E 46, vi x1] M (fun v N => v = some (vi zr) ∧ zM = N) := by
  refine V.entry (by decide +kernel) (Nat.le_of_ble_eq_true rfl) ?_
  exact v_X6_hoards_0  hd hF ⟨rfl, rfl⟩
abbrev mX6_fits : MI := (yX6_fits, cX6_fits, 3, (some .int))
theorem okX6_fits : OKV mX6_fits 0 := ⟨gw_1266, gw_1267, gw_64, gw_1268, (by decide +kernel), (by decide)⟩
def f_X6_fits_43 (n : Nat) (x2 : Int) (s0 : Int) (s1 : Int) (M : Mem) : Option ((Int × Int × Mem) ⊕ (Int × Mem)) :=
  some (.inl (bOr s1 s0, x2 + 1, M))
set_option maxRecDepth 10000 in
theorem v_X6_fits_43 {E : En} {d : Nat} {Q : Po} {n : Nat} {x2 : Int} {s0 : Int} {s1 : Int} {M : Mem} {z : (Int × Int × Mem) ⊕ (Int × Mem)}  (hd : 6 ≤ d) (hF : f_X6_fits_43 n x2 s0 s1 M = some z) (hC0 : ∀ s' : Int × Int × Mem, z = (.inl s') → V E mX6_fits d 4 [(0, rf E 46), (1, vi (s'.1)), (2, vi (s'.2.1))] [] s'.2.2 Q) (hX : ∀ z0 : Int × Mem, z = (.inr z0) → Q (some (vi z0.1)) z0.2) : V E mX6_fits d 43 [(0, rf E 46), (2, vi x2)] [vi s0, vi s1] M Q := by
  unfold f_X6_fits_43 at hF
  refine V.ior dX6_fits_43 ?_
  refine V.istore_n 1 1 [(1, vi (bOr s1 s0)), (0, rf E 46), (2, vi x2)] rfl dX6_fits_44 (by decide) rfl ?_
  refine V.iinc 2 2 1 [(2, vi (x2 + 1)), (1, vi (bOr s1 s0)), (0, rf E 46)] dX6_fits_45 rfl (by decide) rfl ?_
  refine V.goto (tgt := 4) dX6_fits_48 (by decide) ?_
  cases Option.some.inj hF
  refine V.sub _ [2, 1, 0] rfl ?_
  exact hC0 _ rfl
def f_X6_fits_4 (n : Nat) (x1 : Int) (x2 : Int) (M : Mem) : Option ((Int × Int × Mem) ⊕ (Int × Mem)) :=
  if wr (M 46 3) ≤ wr x2 then
    some (.inr (x1, M))
  else
    (f_X6_isAsSeen n x2 (M 47 19) (M 47 20) 0 M).bind fun (v1, M2) =>
    if wr v1 = 0 then
      f_X6_fits_43 n x2 0 x1 M2
    else
      f_X6_fits_43 n x2 (bShl 1 x2) x1 M2
set_option maxRecDepth 10000 in
theorem v_X6_fits_4 {E : En} {d : Nat} {Q : Po} {n : Nat} {x1 : Int} {x2 : Int} {M : Mem} {z : (Int × Int × Mem) ⊕ (Int × Mem)}  (hd : 6 ≤ d) (hF : f_X6_fits_4 n x1 x2 M = some z) (hC0 : ∀ s' : Int × Int × Mem, z = (.inl s') → V E mX6_fits d 4 [(0, rf E 46), (1, vi (s'.1)), (2, vi (s'.2.1))] [] s'.2.2 Q) (hX : ∀ z0 : Int × Mem, z = (.inr z0) → Q (some (vi z0.1)) z0.2) : V E mX6_fits d 4 [(0, rf E 46), (1, vi x1), (2, vi x2)] [] M Q := by
  unfold f_X6_fits_4 at hF
  refine V.iload_n 2 2 2 rfl dX6_fits_4 rfl ?_
  refine V.aload_n 0 0 0 rfl dX6_fits_5 rfl ?_
  refine V.get (by decide) (hcX6 E _) rfl inX6 3 (by decide) rfl gw_878 dX6_fits_6 ?_
  refine V.icmp_ge (tgt := 51) rfl rfl dX6_fits_9 (by decide) (fun hc => ?_) (fun hc => ?_)
  · rw [if_pos hc] at hF
    refine V.iload_n 1 1 1 rfl dX6_fits_51 rfl ?_
    cases Option.some.inj hF
    exact V.iret rfl dX6_fits_52 (hX _ rfl)
  · rw [if_neg hc] at hF
    refine V.iload_n 1 1 1 rfl dX6_fits_12 rfl ?_
    refine V.aload_n 0 0 0 rfl dX6_fits_13 rfl ?_
    refine V.iload_n 2 2 2 rfl dX6_fits_14 rfl ?_
    refine V.aload_n 0 0 0 rfl dX6_fits_15 rfl ?_
    refine V.get (by decide) (hcX6 E _) rfl inX6 0 (by decide) rfl gw_875 dX6_fits_16 ?_
    refine V.bipush 19 19 (by decide) dX6_fits_19 ?_
    refine V.iald ar_47 (rd_lit 19 19 wr_19 (by decide)) dX6_fits_21 ?_
    refine V.aload_n 0 0 0 rfl dX6_fits_22 rfl ?_
    refine V.get (by decide) (hcX6 E _) rfl inX6 0 (by decide) rfl gw_875 dX6_fits_23 ?_
    refine V.bipush 20 20 (by decide) dX6_fits_26 ?_
    refine V.iald ar_47 (rd_lit 20 20 wr_20 (by decide)) dX6_fits_28 ?_
    refine V.iconst 0 dX6_fits_29 ?_
    replace hF := Option.bind_eq_some_iff.mp hF
    obtain ⟨⟨v1, M2⟩, hv1, hF⟩ := hF
    dsimp only at hF
    refine V.callV (d' := d - 1) [vi x2, vi (M 47 19), vi (M 47 20), vi 0] [vi x1] (c_X6_isAsSeen (by omega) hv1) okX6_isAsSeen gw_1257 rfl rfl (by decide) (hcX6 E _) rfl (Nat.le_of_ble_eq_true rfl) (by omega) dX6_fits_30 ?_
    rintro _ _ ⟨rfl, rfl⟩
    show V E mX6_fits d 33 [(0, rf E 46), (1, vi x1), (2, vi x2)] [vi v1, vi x1] M2 _
    refine V.if_eq (tgt := 42) rfl dX6_fits_33 (by decide) (fun hc => ?_) (fun hc => ?_)
    · rw [if_pos hc] at hF
      refine V.iconst 0 dX6_fits_42 ?_
      refine V.sub _ [0, 2] rfl ?_
      exact v_X6_fits_43 hd hF hC0 hX
    · rw [if_neg hc] at hF
      refine V.iconst 1 dX6_fits_36 ?_
      refine V.iload_n 2 2 2 rfl dX6_fits_37 rfl ?_
      refine V.ishl dX6_fits_38 ?_
      refine V.goto (tgt := 43) dX6_fits_39 (by decide) ?_
      refine V.sub _ [0, 2] rfl ?_
      exact v_X6_fits_43 hd hF hC0 hX
theorem l_X6_fits_4 {E : En} {d : Nat} {Q : Po} {n : Nat} {k : Nat} {s : Int × Int × Mem} {z : Int × Mem}  (hd : 6 ≤ d) (hF : lp (fun s => f_X6_fits_4 n s.1 s.2.1 s.2.2) k s = some z) (hK : Q (some (vi z.1)) z.2) : V E mX6_fits d 4 [(0, rf E 46), (1, vi s.1), (2, vi s.2.1)] [] s.2.2 Q := by
  refine lp_ind (P := fun s => V E mX6_fits d 4 [(0, rf E 46), (1, vi s.1), (2, vi s.2.1)] [] s.2.2 Q) (z0 := z) ?_ k s hF
  intro s z' hF hc hx
  exact v_X6_fits_4 hd hF (fun s' e => hc s' e) (fun z0 e => by rw [hx _ e]; exact hK)
def f_X6_fits (n : Nat) (M : Mem) : Option (Int × Mem) :=
  lp (fun s => f_X6_fits_4 n s.1 s.2.1 s.2.2) n (0, 0, M)
set_option maxRecDepth 10000 in
theorem v_X6_fits_0 {E : En} {d : Nat} {Q : Po} {n : Nat} {M : Mem} {z : Int × Mem}  (hd : 6 ≤ d) (hF : f_X6_fits n M = some z) (hK : Q (some (vi z.1)) z.2) : V E mX6_fits d 0 [(0, rf E 46)] [] M Q := by
  unfold f_X6_fits at hF
  refine V.iconst 0 dX6_fits_0 ?_
  refine V.istore_n 1 1 [(1, vi 0), (0, rf E 46)] rfl dX6_fits_1 (by decide) rfl ?_
  refine V.iconst 0 dX6_fits_2 ?_
  refine V.istore_n 2 2 [(2, vi 0), (1, vi 0), (0, rf E 46)] rfl dX6_fits_3 (by decide) rfl ?_
  refine V.sub _ [2, 1, 0] rfl ?_
  exact l_X6_fits_4 hd hF hK
theorem c_X6_fits {E : En} {d : Nat} {n : Nat} {M : Mem} {zr : Int} {zM : Mem}  (hd : 6 ≤ d) (hF : f_X6_fits n M = some (zr, zM)) : Cn E mX6_fits d [rf E 46] M (fun v N => v = some (vi zr) ∧ zM = N) := by
  refine V.entry (by decide +kernel) (Nat.le_of_ble_eq_true rfl) ?_
  exact v_X6_fits_0  hd hF ⟨rfl, rfl⟩
abbrev mX6_drift : MI := (yX6_drift, cX6_drift, 6, (some .int))
theorem okX6_drift : OKV mX6_drift 3 := ⟨gw_1270, gw_1271, gw_64, gw_1272, (by decide +kernel), (by decide)⟩
def f_X6_drift_109 (n : Nat) (x3 : Int) (M : Mem) : Option (Int × Mem) :=
  if wr x3 = 0 then
    some ((M 47 124) - (M 47 24), M)
  else
    if wr x3 = 1 then
      some ((M 47 123) - (M 47 23), M)
    else
      some (M 47 116, M)
set_option maxRecDepth 10000 in
theorem v_X6_drift_109 {E : En} {d : Nat} {Q : Po} {n : Nat} {x3 : Int} {M : Mem} {z : Int × Mem}  (hd : 4 ≤ d) (hF : f_X6_drift_109 n x3 M = some z) (hK : Q (some (vi z.1)) z.2) : V E mX6_drift d 109 [(0, rf E 46), (3, vi x3)] [] M Q := by
  unfold f_X6_drift_109 at hF
  refine V.iload_n 3 3 1 rfl dX6_drift_109 rfl ?_
  refine V.if_ne (tgt := 131) rfl dX6_drift_110 (by decide) (fun hc => ?_) (fun hc => ?_)
  · rw [if_neg hc] at hF
    refine V.iload_n 3 3 1 rfl dX6_drift_131 rfl ?_
    refine V.iconst 1 dX6_drift_132 ?_
    refine V.icmp_ne (tgt := 154) rfl wr_1 dX6_drift_133 (by decide) (fun hc => ?_) (fun hc => ?_)
    · rw [if_neg hc] at hF
      refine V.aload_n 0 0 0 rfl dX6_drift_154 rfl ?_
      refine V.get (by decide) (hcX6 E _) rfl inX6 0 (by decide) rfl gw_875 dX6_drift_155 ?_
      refine V.bipush 116 116 (by decide) dX6_drift_158 ?_
      refine V.iald ar_47 (rd_lit 116 116 wr_116 (by decide)) dX6_drift_160 ?_
      cases Option.some.inj hF
      exact V.iret rfl dX6_drift_161 hK
    · rw [if_pos hc] at hF
      refine V.aload_n 0 0 0 rfl dX6_drift_136 rfl ?_
      refine V.get (by decide) (hcX6 E _) rfl inX6 0 (by decide) rfl gw_875 dX6_drift_137 ?_
      refine V.bipush 123 123 (by decide) dX6_drift_140 ?_
      refine V.iald ar_47 (rd_lit 123 123 wr_123 (by decide)) dX6_drift_142 ?_
      refine V.aload_n 0 0 0 rfl dX6_drift_143 rfl ?_
      refine V.get (by decide) (hcX6 E _) rfl inX6 0 (by decide) rfl gw_875 dX6_drift_144 ?_
      refine V.bipush 23 23 (by decide) dX6_drift_147 ?_
      refine V.iald ar_47 (rd_lit 23 23 wr_23 (by decide)) dX6_drift_149 ?_
      refine V.isub dX6_drift_150 ?_
      refine V.goto (tgt := 161) dX6_drift_151 (by decide) ?_
      cases Option.some.inj hF
      exact V.iret rfl dX6_drift_161 hK
  · rw [if_pos hc] at hF
    refine V.aload_n 0 0 0 rfl dX6_drift_113 rfl ?_
    refine V.get (by decide) (hcX6 E _) rfl inX6 0 (by decide) rfl gw_875 dX6_drift_114 ?_
    refine V.bipush 124 124 (by decide) dX6_drift_117 ?_
    refine V.iald ar_47 (rd_lit 124 124 wr_124 (by decide)) dX6_drift_119 ?_
    refine V.aload_n 0 0 0 rfl dX6_drift_120 rfl ?_
    refine V.get (by decide) (hcX6 E _) rfl inX6 0 (by decide) rfl gw_875 dX6_drift_121 ?_
    refine V.bipush 24 24 (by decide) dX6_drift_124 ?_
    refine V.iald ar_47 (rd_lit 24 24 wr_24 (by decide)) dX6_drift_126 ?_
    refine V.isub dX6_drift_127 ?_
    refine V.goto (tgt := 161) dX6_drift_128 (by decide) ?_
    cases Option.some.inj hF
    exact V.iret rfl dX6_drift_161 hK
def f_X6_drift_81 (n : Nat) (x2 : Int) (x3 : Int) (x4 : Int) (s0 : Int) (M : Mem) : Option ((Int × Mem) ⊕ (Int × Mem)) :=
  (f_X6_leftOn n 100 s0 M).bind fun v1 =>
  (f_X6_keepsOn 100 v1 M).bind fun v2 =>
  (f_X6_goesOn n 100 s0 v2 M).bind fun (v3, M4) =>
  some (.inl (x4, M4))
set_option maxRecDepth 10000 in
theorem v_X6_drift_81 {E : En} {d : Nat} {Q : Po} {n : Nat} {x2 : Int} {x3 : Int} {x4 : Int} {s0 : Int} {M : Mem} {z : (Int × Mem) ⊕ (Int × Mem)}  (hd : 4 ≤ d) (hF : f_X6_drift_81 n x2 x3 x4 s0 M = some z) (hC0 : ∀ s' : Int × Mem, z = (.inl s') → V E mX6_drift d 36 [(0, rf E 46), (2, vi x2), (3, vi x3), (4, vi (s'.1))] [] s'.2 Q) (hX : ∀ z0 : Int × Mem, z = (.inr z0) → Q (some (vi z0.1)) z0.2) : V E mX6_drift d 81 [(0, rf E 46), (2, vi x2), (3, vi x3), (4, vi x4)] [vi s0] M Q := by
  unfold f_X6_drift_81 at hF
  refine V.istore 5 [(5, vi s0), (0, rf E 46), (2, vi x2), (3, vi x3), (4, vi x4)] dX6_drift_81 (by decide) rfl ?_
  refine V.aload_n 0 0 1 rfl dX6_drift_83 rfl ?_
  refine V.bipush 100 100 (by decide) dX6_drift_84 ?_
  refine V.iload 5 0 dX6_drift_86 rfl ?_
  refine V.aload_n 0 0 1 rfl dX6_drift_88 rfl ?_
  refine V.bipush 100 100 (by decide) dX6_drift_89 ?_
  refine V.aload_n 0 0 1 rfl dX6_drift_91 rfl ?_
  refine V.bipush 100 100 (by decide) dX6_drift_92 ?_
  refine V.iload 5 0 dX6_drift_94 rfl ?_
  replace hF := Option.bind_eq_some_iff.mp hF
  obtain ⟨v1, hv1, hF⟩ := hF
  refine V.callV (d' := d - 1) [vi 100, vi s0] [vi 100, rf E 46, vi s0, vi 100, rf E 46] (c_X6_leftOn (by omega) hv1) okX6_leftOn gw_1114 rfl rfl (by decide) (hcX6 E _) rfl (Nat.le_of_ble_eq_true rfl) (by omega) dX6_drift_96 ?_
  rintro _ _ ⟨rfl, rfl⟩
  show V E mX6_drift d 99 [(5, vi s0), (0, rf E 46), (2, vi x2), (3, vi x3), (4, vi x4)] [vi v1, vi 100, rf E 46, vi s0, vi 100, rf E 46] M _
  replace hF := Option.bind_eq_some_iff.mp hF
  obtain ⟨v2, hv2, hF⟩ := hF
  refine V.callV (d' := d - 1) [vi 100, vi v1] [vi s0, vi 100, rf E 46] (c_X6_keepsOn (by omega) hv2) okX6_keepsOn gw_1129 rfl rfl (by decide) (hcX6 E _) rfl (Nat.le_of_ble_eq_true rfl) (by omega) dX6_drift_99 ?_
  rintro _ _ ⟨rfl, rfl⟩
  show V E mX6_drift d 102 [(5, vi s0), (0, rf E 46), (2, vi x2), (3, vi x3), (4, vi x4)] [vi v2, vi s0, vi 100, rf E 46] M _
  replace hF := Option.bind_eq_some_iff.mp hF
  obtain ⟨⟨v3, M4⟩, hv3, hF⟩ := hF
  dsimp only at hF
  refine V.callV (d' := d - 1) [vi 100, vi s0, vi v2] [] (c_X6_goesOn (by omega) hv3) okX6_goesOn gw_1118 rfl rfl (by decide) (hcX6 E _) rfl (Nat.le_of_ble_eq_true rfl) (by omega) dX6_drift_102 ?_
  rintro _ _ ⟨rfl, rfl⟩
  show V E mX6_drift d 105 [(5, vi s0), (0, rf E 46), (2, vi x2), (3, vi x3), (4, vi x4)] [vi v3] M4 _
  refine V.pop rfl dX6_drift_105 ?_
  refine V.goto (tgt := 36) dX6_drift_106 (by decide) ?_
  cases Option.some.inj hF
  refine V.sub _ [1, 2, 3, 4] rfl ?_
  exact hC0 _ rfl
def f_X6_drift_36 (n : Nat) (x2 : Int) (x3 : Int) (x4 : Int) (M : Mem) : Option ((Int × Mem) ⊕ (Int × Mem)) :=
  if 8 ≤ wr (M 47 121) then
    (f_X6_drift_109 n x3 M).map Sum.inr
  else
    if wr x2 ≤ wr ((wr (bAnd (bShr ((x4 * 1103515245) + 12345) 16) 32767)).tmod (wr 10)) then
      f_X6_drift_81 n x2 x3 ((x4 * 1103515245) + 12345) 0 M
    else
      f_X6_drift_81 n x2 x3 ((x4 * 1103515245) + 12345) 1 M
set_option maxRecDepth 10000 in
theorem v_X6_drift_36 {E : En} {d : Nat} {Q : Po} {n : Nat} {x2 : Int} {x3 : Int} {x4 : Int} {M : Mem} {z : (Int × Mem) ⊕ (Int × Mem)}  (hd : 4 ≤ d) (hF : f_X6_drift_36 n x2 x3 x4 M = some z) (hC0 : ∀ s' : Int × Mem, z = (.inl s') → V E mX6_drift d 36 [(0, rf E 46), (2, vi x2), (3, vi x3), (4, vi (s'.1))] [] s'.2 Q) (hX : ∀ z0 : Int × Mem, z = (.inr z0) → Q (some (vi z0.1)) z0.2) : V E mX6_drift d 36 [(0, rf E 46), (2, vi x2), (3, vi x3), (4, vi x4)] [] M Q := by
  unfold f_X6_drift_36 at hF
  refine V.aload_n 0 0 0 rfl dX6_drift_36 rfl ?_
  refine V.get (by decide) (hcX6 E _) rfl inX6 0 (by decide) rfl gw_875 dX6_drift_37 ?_
  refine V.bipush 121 121 (by decide) dX6_drift_40 ?_
  refine V.iald ar_47 (rd_lit 121 121 wr_121 (by decide)) dX6_drift_42 ?_
  refine V.bipush 8 8 (by decide) dX6_drift_43 ?_
  refine V.icmp_ge (tgt := 109) rfl wr_8 dX6_drift_45 (by decide) (fun hc => ?_) (fun hc => ?_)
  · rw [if_pos hc] at hF
    replace hF := Option.map_eq_some_iff.mp hF
    obtain ⟨z0, hF, rfl⟩ := hF
    refine V.sub _ [0, 2] rfl ?_
    exact v_X6_drift_109 hd hF (hX _ rfl)
  · rw [if_neg hc] at hF
    refine V.iload 4 3 dX6_drift_48 rfl ?_
    refine V.ldcw 263 1103515245 1103515245 (by decide) gw_1273 dX6_drift_50 ?_
    refine V.imul dX6_drift_53 ?_
    refine V.sipush 12345 12345 (by decide) dX6_drift_54 ?_
    refine V.iadd dX6_drift_57 ?_
    refine V.istore 4 [(4, vi ((x4 * 1103515245) + 12345)), (0, rf E 46), (2, vi x2), (3, vi x3)] dX6_drift_58 (by decide) rfl ?_
    refine V.iload 4 0 dX6_drift_60 rfl ?_
    refine V.bipush 16 16 (by decide) dX6_drift_62 ?_
    refine V.ishr dX6_drift_64 ?_
    refine V.sipush 32767 32767 (by decide) dX6_drift_65 ?_
    refine V.iand dX6_drift_68 ?_
    refine V.bipush 10 10 (by decide) dX6_drift_69 ?_
    refine V.irem (by decide) dX6_drift_71 ?_
    refine V.iload_n 2 2 2 rfl dX6_drift_72 rfl ?_
    refine V.icmp_ge (tgt := 80) rfl rfl dX6_drift_73 (by decide) (fun hc => ?_) (fun hc => ?_)
    · rw [if_pos hc] at hF
      refine V.iconst 0 dX6_drift_80 ?_
      refine V.sub _ [1, 2, 3, 0] rfl ?_
      exact v_X6_drift_81 hd hF hC0 hX
    · rw [if_neg hc] at hF
      refine V.iconst 1 dX6_drift_76 ?_
      refine V.goto (tgt := 81) dX6_drift_77 (by decide) ?_
      refine V.sub _ [1, 2, 3, 0] rfl ?_
      exact v_X6_drift_81 hd hF hC0 hX
theorem l_X6_drift_36 {E : En} {d : Nat} {Q : Po} {n : Nat} {x2 : Int} {x3 : Int} {k : Nat} {s : Int × Mem} {z : Int × Mem}  (hd : 4 ≤ d) (hF : lp (fun s => f_X6_drift_36 n x2 x3 s.1 s.2) k s = some z) (hK : Q (some (vi z.1)) z.2) : V E mX6_drift d 36 [(0, rf E 46), (2, vi x2), (3, vi x3), (4, vi s.1)] [] s.2 Q := by
  refine lp_ind (P := fun s => V E mX6_drift d 36 [(0, rf E 46), (2, vi x2), (3, vi x3), (4, vi s.1)] [] s.2 Q) (z0 := z) ?_ k s hF
  intro s z' hF hc hx
  exact v_X6_drift_36 hd hF (fun s' e => hc s' e) (fun z0 e => by rw [hx _ e]; exact hK)
def f_X6_drift (n : Nat) (x1 : Int) (x2 : Int) (x3 : Int) (M : Mem) : Option (Int × Mem) :=
  (f_X6_in (wr x2) 0 10 M).bind fun v1 =>
  if wr v1 = 0 then
    some ((-1), M)
  else
    (f_X6_in (wr x3) 0 2 M).bind fun v2 =>
    if wr v2 = 0 then
      some ((-1), M)
    else
      (f_X6_copies n 0 100 M).bind fun M3 =>
      lp (fun s => f_X6_drift_36 n x2 x3 s.1 s.2) n (x1, M3)
set_option maxRecDepth 10000 in
theorem v_X6_drift_0 {E : En} {d : Nat} {Q : Po} {n : Nat} {x1 : Int} {x2 : Int} {x3 : Int} {M : Mem} {z : Int × Mem}  (hd : 4 ≤ d) (hF : f_X6_drift n x1 x2 x3 M = some z) (hK : Q (some (vi z.1)) z.2) : V E mX6_drift d 0 [(0, rf E 46), (1, vi x1), (2, vi x2), (3, vi x3)] [] M Q := by
  unfold f_X6_drift at hF
  refine V.iload_n 2 2 2 rfl dX6_drift_0 rfl ?_
  refine V.i2l dX6_drift_1 ?_
  refine V.lconst 0 0 (by decide) dX6_drift_2 ?_
  refine V.ldc2 156 10 10 (by decide) gw_1046 dX6_drift_3 ?_
  replace hF := Option.bind_eq_some_iff.mp hF
  obtain ⟨v1, hv1, hF⟩ := hF
  refine V.callS (d' := d - 1) [vl (wr x2), vl 0, vl 10] [] (c_X6_in (by omega) hv1) okX6_in gw_966 rfl rfl (Nat.le_of_ble_eq_true rfl) (by omega) dX6_drift_6 ?_
  rintro _ _ ⟨rfl, rfl⟩
  show V E mX6_drift d 9 [(0, rf E 46), (1, vi x1), (2, vi x2), (3, vi x3)] [vi v1] M _
  refine V.if_eq (tgt := 24) rfl dX6_drift_9 (by decide) (fun hc => ?_) (fun hc => ?_)
  · rw [if_pos hc] at hF
    refine V.iconst (-1) dX6_drift_24 ?_
    cases Option.some.inj hF
    exact V.iret rfl dX6_drift_25 hK
  · rw [if_neg hc] at hF
    refine V.iload_n 3 3 3 rfl dX6_drift_12 rfl ?_
    refine V.i2l dX6_drift_13 ?_
    refine V.lconst 0 0 (by decide) dX6_drift_14 ?_
    refine V.ldc2 199 2 2 (by decide) gw_1143 dX6_drift_15 ?_
    replace hF := Option.bind_eq_some_iff.mp hF
    obtain ⟨v2, hv2, hF⟩ := hF
    refine V.callS (d' := d - 1) [vl (wr x3), vl 0, vl 2] [] (c_X6_in (by omega) hv2) okX6_in gw_966 rfl rfl (Nat.le_of_ble_eq_true rfl) (by omega) dX6_drift_18 ?_
    rintro _ _ ⟨rfl, rfl⟩
    show V E mX6_drift d 21 [(0, rf E 46), (1, vi x1), (2, vi x2), (3, vi x3)] [vi v2] M _
    refine V.if_ne (tgt := 26) rfl dX6_drift_21 (by decide) (fun hc => ?_) (fun hc => ?_)
    · rw [if_neg hc] at hF
      refine V.aload_n 0 0 0 rfl dX6_drift_26 rfl ?_
      refine V.iconst 0 dX6_drift_27 ?_
      refine V.bipush 100 100 (by decide) dX6_drift_28 ?_
      replace hF := Option.bind_eq_some_iff.mp hF
      obtain ⟨M3, hM3, hF⟩ := hF
      refine V.callV (d' := d - 1) [vi 0, vi 100] [] (c_X6_copies (by omega) hM3) okX6_copies gw_1144 rfl rfl (by decide) (hcX6 E _) rfl (Nat.le_of_ble_eq_true rfl) (by omega) dX6_drift_30 ?_
      rintro _ _ ⟨rfl, rfl⟩
      show V E mX6_drift d 33 [(0, rf E 46), (1, vi x1), (2, vi x2), (3, vi x3)] [] M3 _
      refine V.iload_n 1 1 1 rfl dX6_drift_33 rfl ?_
      refine V.istore 4 [(4, vi x1), (0, rf E 46), (1, vi x1), (2, vi x2), (3, vi x3)] dX6_drift_34 (by decide) rfl ?_
      refine V.sub _ [1, 3, 4, 0] rfl ?_
      exact l_X6_drift_36 hd hF hK
    · rw [if_pos hc] at hF
      refine V.iconst (-1) dX6_drift_24 ?_
      cases Option.some.inj hF
      exact V.iret rfl dX6_drift_25 hK
theorem c_X6_drift {E : En} {d : Nat} {n : Nat} {x1 : Int} {x2 : Int} {x3 : Int} {M : Mem} {zr : Int} {zM : Mem}  (hd : 4 ≤ d) (hF : f_X6_drift n x1 x2 x3 M = some (zr, zM)) : Cn E mX6_drift d [rf E 46, vi x1, vi x2, vi x3] M (fun v N => v = some (vi zr) ∧ zM = N) := by
  refine V.entry (by decide +kernel) (Nat.le_of_ble_eq_true rfl) ?_
  exact v_X6_drift_0  hd hF ⟨rfl, rfl⟩
abbrev mX6_keep : MI := (yX6_keep, cX6_keep, 3, (some .int))
theorem okX6_keep : OKV mX6_keep 1 := ⟨gw_1275, gw_1276, gw_64, gw_1277, (by decide +kernel), (by decide)⟩
def f_X6_keep_37 (n : Nat) (x1 : Int) (s0 : Int) (M : Mem) : Option (Int × Mem) :=
  (wt M 56 2 x1 1).bind fun M1 =>
  some (s0, M1)
set_option maxRecDepth 10000 in
theorem v_X6_keep_37 {E : En} {d : Nat} {Q : Po} {n : Nat} {x1 : Int} {s0 : Int} {M : Mem} {z : Int × Mem}  (hd : 2 ≤ d) (hF : f_X6_keep_37 n x1 s0 M = some z) (hK : Q (some (vi z.1)) z.2) : V E mX6_keep d 37 [(0, rf E 46), (1, vi x1)] [vi s0] M Q := by
  unfold f_X6_keep_37 at hF
  refine V.istore_n 2 2 [(2, vi s0), (0, rf E 46), (1, vi x1)] rfl dX6_keep_37 (by decide) rfl ?_
  refine V.aload_n 0 0 1 rfl dX6_keep_38 rfl ?_
  refine V.get (by decide) (hcX6 E _) rfl inX6 23 (by decide) rfl gw_898 dX6_keep_39 ?_
  refine V.iload_n 1 1 2 rfl dX6_keep_42 rfl ?_
  refine V.iconst 1 dX6_keep_43 ?_
  replace hF := Option.bind_eq_some_iff.mp hF
  obtain ⟨M1, hM1, hF⟩ := hF
  refine V.zast ar_56 (Or.inr rfl) hM1 dX6_keep_44 ?_
  refine V.iload_n 2 2 0 rfl dX6_keep_45 rfl ?_
  cases Option.some.inj hF
  exact V.iret rfl dX6_keep_46 hK
def f_X6_keep (n : Nat) (x1 : Int) (M : Mem) : Option (Int × Mem) :=
  (f_X6_in (wr x1) 0 1 M).bind fun v1 =>
  if wr v1 = 0 then
    some ((-1), M)
  else
    (f_X6_copies n 0 (25 * (x1 + 1)) M).bind fun M2 =>
    (rd M2 56 2 x1).bind fun v3 =>
    if wr v3 = 0 then
      f_X6_keep_37 n x1 0 M2
    else
      f_X6_keep_37 n x1 1 M2
set_option maxRecDepth 10000 in
theorem v_X6_keep_0 {E : En} {d : Nat} {Q : Po} {n : Nat} {x1 : Int} {M : Mem} {z : Int × Mem}  (hd : 2 ≤ d) (hF : f_X6_keep n x1 M = some z) (hK : Q (some (vi z.1)) z.2) : V E mX6_keep d 0 [(0, rf E 46), (1, vi x1)] [] M Q := by
  unfold f_X6_keep at hF
  refine V.iload_n 1 1 1 rfl dX6_keep_0 rfl ?_
  refine V.i2l dX6_keep_1 ?_
  refine V.lconst 0 0 (by decide) dX6_keep_2 ?_
  refine V.lconst 1 1 (by decide) dX6_keep_3 ?_
  replace hF := Option.bind_eq_some_iff.mp hF
  obtain ⟨v1, hv1, hF⟩ := hF
  refine V.callS (d' := d - 1) [vl (wr x1), vl 0, vl 1] [] (c_X6_in (by omega) hv1) okX6_in gw_966 rfl rfl (Nat.le_of_ble_eq_true rfl) (by omega) dX6_keep_4 ?_
  rintro _ _ ⟨rfl, rfl⟩
  show V E mX6_keep d 7 [(0, rf E 46), (1, vi x1)] [vi v1] M _
  refine V.if_ne (tgt := 12) rfl dX6_keep_7 (by decide) (fun hc => ?_) (fun hc => ?_)
  · rw [if_neg hc] at hF
    refine V.aload_n 0 0 0 rfl dX6_keep_12 rfl ?_
    refine V.iconst 0 dX6_keep_13 ?_
    refine V.bipush 25 25 (by decide) dX6_keep_14 ?_
    refine V.iload_n 1 1 1 rfl dX6_keep_16 rfl ?_
    refine V.iconst 1 dX6_keep_17 ?_
    refine V.iadd dX6_keep_18 ?_
    refine V.imul dX6_keep_19 ?_
    replace hF := Option.bind_eq_some_iff.mp hF
    obtain ⟨M2, hM2, hF⟩ := hF
    refine V.callV (d' := d - 1) [vi 0, vi (25 * (x1 + 1))] [] (c_X6_copies (by omega) hM2) okX6_copies gw_1144 rfl rfl (by decide) (hcX6 E _) rfl (Nat.le_of_ble_eq_true rfl) (by omega) dX6_keep_20 ?_
    rintro _ _ ⟨rfl, rfl⟩
    show V E mX6_keep d 23 [(0, rf E 46), (1, vi x1)] [] M2 _
    refine V.aload_n 0 0 0 rfl dX6_keep_23 rfl ?_
    refine V.get (by decide) (hcX6 E _) rfl inX6 23 (by decide) rfl gw_898 dX6_keep_24 ?_
    refine V.iload_n 1 1 1 rfl dX6_keep_27 rfl ?_
    replace hF := Option.bind_eq_some_iff.mp hF
    obtain ⟨v3, hv3, hF⟩ := hF
    refine V.zald ar_56 hv3 dX6_keep_28 ?_
    refine V.if_eq (tgt := 36) rfl dX6_keep_29 (by decide) (fun hc => ?_) (fun hc => ?_)
    · rw [if_pos hc] at hF
      refine V.iconst 0 dX6_keep_36 ?_
      exact v_X6_keep_37 hd hF hK
    · rw [if_neg hc] at hF
      refine V.iconst 1 dX6_keep_32 ?_
      refine V.goto (tgt := 37) dX6_keep_33 (by decide) ?_
      exact v_X6_keep_37 hd hF hK
  · rw [if_pos hc] at hF
    refine V.iconst (-1) dX6_keep_10 ?_
    cases Option.some.inj hF
    exact V.iret rfl dX6_keep_11 hK
theorem c_X6_keep {E : En} {d : Nat} {n : Nat} {x1 : Int} {M : Mem} {zr : Int} {zM : Mem}  (hd : 2 ≤ d) (hF : f_X6_keep n x1 M = some (zr, zM)) : Cn E mX6_keep d [rf E 46, vi x1] M (fun v N => v = some (vi zr) ∧ zM = N) := by
  refine V.entry (by decide +kernel) (Nat.le_of_ble_eq_true rfl) ?_
  exact v_X6_keep_0  hd hF ⟨rfl, rfl⟩
abbrev mX6_back : MI := (yX6_back, cX6_back, 2, (some .int))
theorem okX6_back : OKV mX6_back 1 := ⟨gw_1279, gw_1280, gw_64, gw_1281, (by decide +kernel), (by decide)⟩
def f_X6_back (n : Nat) (x1 : Int) (M : Mem) : Option (Int × Mem) :=
  (f_X6_in (wr x1) 0 1 M).bind fun v1 =>
  if wr v1 = 0 then
    some ((-1), M)
  else
    (rd M 56 2 x1).bind fun v2 =>
    if wr v2 = 0 then
      some ((-2), M)
    else
      (f_X6_copies n (25 * (x1 + 1)) 0 M).bind fun M3 =>
      some (M3 47 21, M3)
set_option maxRecDepth 10000 in
theorem v_X6_back_0 {E : En} {d : Nat} {Q : Po} {n : Nat} {x1 : Int} {M : Mem} {z : Int × Mem}  (hd : 2 ≤ d) (hF : f_X6_back n x1 M = some z) (hK : Q (some (vi z.1)) z.2) : V E mX6_back d 0 [(0, rf E 46), (1, vi x1)] [] M Q := by
  unfold f_X6_back at hF
  refine V.iload_n 1 1 1 rfl dX6_back_0 rfl ?_
  refine V.i2l dX6_back_1 ?_
  refine V.lconst 0 0 (by decide) dX6_back_2 ?_
  refine V.lconst 1 1 (by decide) dX6_back_3 ?_
  replace hF := Option.bind_eq_some_iff.mp hF
  obtain ⟨v1, hv1, hF⟩ := hF
  refine V.callS (d' := d - 1) [vl (wr x1), vl 0, vl 1] [] (c_X6_in (by omega) hv1) okX6_in gw_966 rfl rfl (Nat.le_of_ble_eq_true rfl) (by omega) dX6_back_4 ?_
  rintro _ _ ⟨rfl, rfl⟩
  show V E mX6_back d 7 [(0, rf E 46), (1, vi x1)] [vi v1] M _
  refine V.if_ne (tgt := 12) rfl dX6_back_7 (by decide) (fun hc => ?_) (fun hc => ?_)
  · rw [if_neg hc] at hF
    refine V.aload_n 0 0 0 rfl dX6_back_12 rfl ?_
    refine V.get (by decide) (hcX6 E _) rfl inX6 23 (by decide) rfl gw_898 dX6_back_13 ?_
    refine V.iload_n 1 1 1 rfl dX6_back_16 rfl ?_
    replace hF := Option.bind_eq_some_iff.mp hF
    obtain ⟨v2, hv2, hF⟩ := hF
    refine V.zald ar_56 hv2 dX6_back_17 ?_
    refine V.if_ne (tgt := 24) rfl dX6_back_18 (by decide) (fun hc => ?_) (fun hc => ?_)
    · rw [if_neg hc] at hF
      refine V.aload_n 0 0 0 rfl dX6_back_24 rfl ?_
      refine V.bipush 25 25 (by decide) dX6_back_25 ?_
      refine V.iload_n 1 1 1 rfl dX6_back_27 rfl ?_
      refine V.iconst 1 dX6_back_28 ?_
      refine V.iadd dX6_back_29 ?_
      refine V.imul dX6_back_30 ?_
      refine V.iconst 0 dX6_back_31 ?_
      replace hF := Option.bind_eq_some_iff.mp hF
      obtain ⟨M3, hM3, hF⟩ := hF
      refine V.callV (d' := d - 1) [vi (25 * (x1 + 1)), vi 0] [] (c_X6_copies (by omega) hM3) okX6_copies gw_1144 rfl rfl (by decide) (hcX6 E _) rfl (Nat.le_of_ble_eq_true rfl) (by omega) dX6_back_32 ?_
      rintro _ _ ⟨rfl, rfl⟩
      show V E mX6_back d 35 [(0, rf E 46), (1, vi x1)] [] M3 _
      refine V.aload_n 0 0 0 rfl dX6_back_35 rfl ?_
      refine V.get (by decide) (hcX6 E _) rfl inX6 0 (by decide) rfl gw_875 dX6_back_36 ?_
      refine V.bipush 21 21 (by decide) dX6_back_39 ?_
      refine V.iald ar_47 (rd_lit 21 21 wr_21 (by decide)) dX6_back_41 ?_
      cases Option.some.inj hF
      exact V.iret rfl dX6_back_42 hK
    · rw [if_pos hc] at hF
      refine V.bipush (-2) (-2) (by decide) dX6_back_21 ?_
      cases Option.some.inj hF
      exact V.iret rfl dX6_back_23 hK
  · rw [if_pos hc] at hF
    refine V.iconst (-1) dX6_back_10 ?_
    cases Option.some.inj hF
    exact V.iret rfl dX6_back_11 hK
theorem c_X6_back {E : En} {d : Nat} {n : Nat} {x1 : Int} {M : Mem} {zr : Int} {zM : Mem}  (hd : 2 ≤ d) (hF : f_X6_back n x1 M = some (zr, zM)) : Cn E mX6_back d [rf E 46, vi x1] M (fun v N => v = some (vi zr) ∧ zM = N) := by
  refine V.entry (by decide +kernel) (Nat.le_of_ble_eq_true rfl) ?_
  exact v_X6_back_0  hd hF ⟨rfl, rfl⟩
abbrev mX6_sheet : MI := (yX6_sheet, cX6_sheet, 5, (some .int))
theorem okX6_sheet : OKV mX6_sheet 3 := ⟨gw_1283, gw_1284, gw_64, gw_1285, (by decide +kernel), (by decide)⟩
def f_X6_sheet_56 (n : Nat) (x1 : Int) (x4 : Int) (M : Mem) : Option ((Int × Mem) ⊕ (Int × Mem)) :=
  if 40 ≤ wr x4 then
    some (.inr (1, M))
  else
    (wt M 59 160 ((40 * x1) + x4) 0).bind fun M1 =>
    some (.inl (x4 + 1, M1))
set_option maxRecDepth 10000 in
theorem v_X6_sheet_56 {E : En} {d : Nat} {Q : Po} {n : Nat} {x1 : Int} {x4 : Int} {M : Mem} {z : (Int × Mem) ⊕ (Int × Mem)}  (hd : 2 ≤ d) (hF : f_X6_sheet_56 n x1 x4 M = some z) (hC0 : ∀ s' : Int × Mem, z = (.inl s') → V E mX6_sheet d 56 [(0, rf E 46), (1, vi x1), (4, vi (s'.1))] [] s'.2 Q) (hX : ∀ z0 : Int × Mem, z = (.inr z0) → Q (some (vi z0.1)) z0.2) : V E mX6_sheet d 56 [(0, rf E 46), (1, vi x1), (4, vi x4)] [] M Q := by
  unfold f_X6_sheet_56 at hF
  refine V.iload 4 2 dX6_sheet_56 rfl ?_
  refine V.bipush 40 40 (by decide) dX6_sheet_58 ?_
  refine V.icmp_ge (tgt := 82) rfl wr_40 dX6_sheet_60 (by decide) (fun hc => ?_) (fun hc => ?_)
  · rw [if_pos hc] at hF
    refine V.iconst 1 dX6_sheet_82 ?_
    cases Option.some.inj hF
    exact V.iret rfl dX6_sheet_83 (hX _ rfl)
  · rw [if_neg hc] at hF
    refine V.aload_n 0 0 0 rfl dX6_sheet_63 rfl ?_
    refine V.get (by decide) (hcX6 E _) rfl inX6 26 (by decide) rfl gw_901 dX6_sheet_64 ?_
    refine V.bipush 40 40 (by decide) dX6_sheet_67 ?_
    refine V.iload_n 1 1 1 rfl dX6_sheet_69 rfl ?_
    refine V.imul dX6_sheet_70 ?_
    refine V.iload 4 2 dX6_sheet_71 rfl ?_
    refine V.iadd dX6_sheet_73 ?_
    refine V.iconst 0 dX6_sheet_74 ?_
    replace hF := Option.bind_eq_some_iff.mp hF
    obtain ⟨M1, hM1, hF⟩ := hF
    refine V.iast ar_59 hM1 dX6_sheet_75 ?_
    refine V.iinc 4 2 1 [(4, vi (x4 + 1)), (0, rf E 46), (1, vi x1)] dX6_sheet_76 rfl (by decide) rfl ?_
    refine V.goto (tgt := 56) dX6_sheet_79 (by decide) ?_
    cases Option.some.inj hF
    refine V.sub _ [1, 2, 0] rfl ?_
    exact hC0 _ rfl
theorem l_X6_sheet_56 {E : En} {d : Nat} {Q : Po} {n : Nat} {x1 : Int} {k : Nat} {s : Int × Mem} {z : Int × Mem}  (hd : 2 ≤ d) (hF : lp (fun s => f_X6_sheet_56 n x1 s.1 s.2) k s = some z) (hK : Q (some (vi z.1)) z.2) : V E mX6_sheet d 56 [(0, rf E 46), (1, vi x1), (4, vi s.1)] [] s.2 Q := by
  refine lp_ind (P := fun s => V E mX6_sheet d 56 [(0, rf E 46), (1, vi x1), (4, vi s.1)] [] s.2 Q) (z0 := z) ?_ k s hF
  intro s z' hF hc hx
  exact v_X6_sheet_56 hd hF (fun s' e => hc s' e) (fun z0 e => by rw [hx _ e]; exact hK)
def f_X6_sheet (n : Nat) (x1 : Int) (x2 : Int) (x3 : Int) (M : Mem) : Option (Int × Mem) :=
  (f_X6_in (wr x1) 0 3 M).bind fun v1 =>
  if wr v1 = 0 then
    some ((-1), M)
  else
    (f_X6_in (wr x2) 0 2 M).bind fun v2 =>
    if wr v2 = 0 then
      some ((-1), M)
    else
      if wr x3 ≤ 40 then
        if 0 ≤ wr x3 then
          (wt M 57 4 x1 x2).bind fun M3 =>
          (wt M3 58 4 x1 x3).bind fun M4 =>
          lp (fun s => f_X6_sheet_56 n x1 s.1 s.2) n (0, M4)
        else
          some ((-14), M)
      else
        some ((-1), M)
set_option maxRecDepth 10000 in
theorem v_X6_sheet_0 {E : En} {d : Nat} {Q : Po} {n : Nat} {x1 : Int} {x2 : Int} {x3 : Int} {M : Mem} {z : Int × Mem}  (hd : 2 ≤ d) (hF : f_X6_sheet n x1 x2 x3 M = some z) (hK : Q (some (vi z.1)) z.2) : V E mX6_sheet d 0 [(0, rf E 46), (1, vi x1), (2, vi x2), (3, vi x3)] [] M Q := by
  unfold f_X6_sheet at hF
  refine V.iload_n 1 1 1 rfl dX6_sheet_0 rfl ?_
  refine V.i2l dX6_sheet_1 ?_
  refine V.lconst 0 0 (by decide) dX6_sheet_2 ?_
  refine V.ldc2 264 3 3 (by decide) gw_1286 dX6_sheet_3 ?_
  replace hF := Option.bind_eq_some_iff.mp hF
  obtain ⟨v1, hv1, hF⟩ := hF
  refine V.callS (d' := d - 1) [vl (wr x1), vl 0, vl 3] [] (c_X6_in (by omega) hv1) okX6_in gw_966 rfl rfl (Nat.le_of_ble_eq_true rfl) (by omega) dX6_sheet_6 ?_
  rintro _ _ ⟨rfl, rfl⟩
  show V E mX6_sheet d 9 [(0, rf E 46), (1, vi x1), (2, vi x2), (3, vi x3)] [vi v1] M _
  refine V.if_eq (tgt := 30) rfl dX6_sheet_9 (by decide) (fun hc => ?_) (fun hc => ?_)
  · rw [if_pos hc] at hF
    refine V.iconst (-1) dX6_sheet_30 ?_
    cases Option.some.inj hF
    exact V.iret rfl dX6_sheet_31 hK
  · rw [if_neg hc] at hF
    refine V.iload_n 2 2 2 rfl dX6_sheet_12 rfl ?_
    refine V.i2l dX6_sheet_13 ?_
    refine V.lconst 0 0 (by decide) dX6_sheet_14 ?_
    refine V.ldc2 199 2 2 (by decide) gw_1143 dX6_sheet_15 ?_
    replace hF := Option.bind_eq_some_iff.mp hF
    obtain ⟨v2, hv2, hF⟩ := hF
    refine V.callS (d' := d - 1) [vl (wr x2), vl 0, vl 2] [] (c_X6_in (by omega) hv2) okX6_in gw_966 rfl rfl (Nat.le_of_ble_eq_true rfl) (by omega) dX6_sheet_18 ?_
    rintro _ _ ⟨rfl, rfl⟩
    show V E mX6_sheet d 21 [(0, rf E 46), (1, vi x1), (2, vi x2), (3, vi x3)] [vi v2] M _
    refine V.if_eq (tgt := 30) rfl dX6_sheet_21 (by decide) (fun hc => ?_) (fun hc => ?_)
    · rw [if_pos hc] at hF
      refine V.iconst (-1) dX6_sheet_30 ?_
      cases Option.some.inj hF
      exact V.iret rfl dX6_sheet_31 hK
    · rw [if_neg hc] at hF
      refine V.iload_n 3 3 3 rfl dX6_sheet_24 rfl ?_
      refine V.bipush 40 40 (by decide) dX6_sheet_25 ?_
      refine V.icmp_le (tgt := 32) rfl wr_40 dX6_sheet_27 (by decide) (fun hc => ?_) (fun hc => ?_)
      · rw [if_pos hc] at hF
        refine V.iload_n 3 3 3 rfl dX6_sheet_32 rfl ?_
        refine V.if_ge (tgt := 39) rfl dX6_sheet_33 (by decide) (fun hc => ?_) (fun hc => ?_)
        · rw [if_pos hc] at hF
          refine V.aload_n 0 0 0 rfl dX6_sheet_39 rfl ?_
          refine V.get (by decide) (hcX6 E _) rfl inX6 24 (by decide) rfl gw_899 dX6_sheet_40 ?_
          refine V.iload_n 1 1 1 rfl dX6_sheet_43 rfl ?_
          refine V.iload_n 2 2 2 rfl dX6_sheet_44 rfl ?_
          replace hF := Option.bind_eq_some_iff.mp hF
          obtain ⟨M3, hM3, hF⟩ := hF
          refine V.iast ar_57 hM3 dX6_sheet_45 ?_
          refine V.aload_n 0 0 0 rfl dX6_sheet_46 rfl ?_
          refine V.get (by decide) (hcX6 E _) rfl inX6 25 (by decide) rfl gw_900 dX6_sheet_47 ?_
          refine V.iload_n 1 1 1 rfl dX6_sheet_50 rfl ?_
          refine V.iload_n 3 3 3 rfl dX6_sheet_51 rfl ?_
          replace hF := Option.bind_eq_some_iff.mp hF
          obtain ⟨M4, hM4, hF⟩ := hF
          refine V.iast ar_58 hM4 dX6_sheet_52 ?_
          refine V.iconst 0 dX6_sheet_53 ?_
          refine V.istore 4 [(4, vi 0), (0, rf E 46), (1, vi x1), (2, vi x2), (3, vi x3)] dX6_sheet_54 (by decide) rfl ?_
          refine V.sub _ [1, 2, 0] rfl ?_
          exact l_X6_sheet_56 hd hF hK
        · rw [if_neg hc] at hF
          refine V.bipush (-14) (-14) (by decide) dX6_sheet_36 ?_
          cases Option.some.inj hF
          exact V.iret rfl dX6_sheet_38 hK
      · rw [if_neg hc] at hF
        refine V.iconst (-1) dX6_sheet_30 ?_
        cases Option.some.inj hF
        exact V.iret rfl dX6_sheet_31 hK
theorem c_X6_sheet {E : En} {d : Nat} {n : Nat} {x1 : Int} {x2 : Int} {x3 : Int} {M : Mem} {zr : Int} {zM : Mem}  (hd : 2 ≤ d) (hF : f_X6_sheet n x1 x2 x3 M = some (zr, zM)) : Cn E mX6_sheet d [rf E 46, vi x1, vi x2, vi x3] M (fun v N => v = some (vi zr) ∧ zM = N) := by
  refine V.entry (by decide +kernel) (Nat.le_of_ble_eq_true rfl) ?_
  exact v_X6_sheet_0  hd hF ⟨rfl, rfl⟩
abbrev mX6_lay : MI := (yX6_lay, cX6_lay, 4, (some .int))
theorem okX6_lay : OKV mX6_lay 3 := ⟨gw_1288, gw_1289, gw_64, gw_1290, (by decide +kernel), (by decide)⟩
def f_X6_lay_99 (s0 : Int) (s1 : Int) (M : Mem) : Option (Int × Mem) :=
  (wt M 59 160 s1 s0).bind fun M1 =>
  some (1, M1)
set_option maxRecDepth 10000 in
theorem v_X6_lay_99 {E : En} {d : Nat} {Q : Po} {s0 : Int} {s1 : Int} {M : Mem} {z : Int × Mem}  (hd : 2 ≤ d) (hF : f_X6_lay_99 s0 s1 M = some z) (hK : Q (some (vi z.1)) z.2) : V E mX6_lay d 99 [] [vi s0, vi s1, rf E 59] M Q := by
  unfold f_X6_lay_99 at hF
  replace hF := Option.bind_eq_some_iff.mp hF
  obtain ⟨M1, hM1, hF⟩ := hF
  refine V.iast ar_59 hM1 dX6_lay_99 ?_
  refine V.iconst 1 dX6_lay_100 ?_
  cases Option.some.inj hF
  exact V.iret rfl dX6_lay_101 hK
def f_X6_lay (x1 : Int) (x2 : Int) (x3 : Int) (M : Mem) : Option (Int × Mem) :=
  (f_X6_in (wr x1) 0 3 M).bind fun v1 =>
  if wr v1 = 0 then
    some ((-1), M)
  else
    (rd M 57 4 x1).bind fun v2 =>
    if wr v2 = (-4) then
      some ((-11), M)
    else
      (rd M 58 4 x1).bind fun v3 =>
      (f_X6_in (wr x2) 0 (wr (v3 - 1)) M).bind fun v4 =>
      if wr v4 = 0 then
        some ((-12), M)
      else
        (rd M 57 4 x1).bind fun v5 =>
        if wr v5 = 0 then
          f_X6_lay_99 (bShr (bShl x3 24) 24) ((40 * x1) + x2) M
        else
          (rd M 57 4 x1).bind fun v6 =>
          if wr v6 = 1 then
            f_X6_lay_99 (bShr (bShl x3 16) 16) ((40 * x1) + x2) M
          else
            f_X6_lay_99 x3 ((40 * x1) + x2) M
set_option maxRecDepth 10000 in
theorem v_X6_lay_0 {E : En} {d : Nat} {Q : Po} {x1 : Int} {x2 : Int} {x3 : Int} {M : Mem} {z : Int × Mem}  (hd : 2 ≤ d) (hF : f_X6_lay x1 x2 x3 M = some z) (hK : Q (some (vi z.1)) z.2) : V E mX6_lay d 0 [(0, rf E 46), (1, vi x1), (2, vi x2), (3, vi x3)] [] M Q := by
  unfold f_X6_lay at hF
  refine V.iload_n 1 1 1 rfl dX6_lay_0 rfl ?_
  refine V.i2l dX6_lay_1 ?_
  refine V.lconst 0 0 (by decide) dX6_lay_2 ?_
  refine V.ldc2 264 3 3 (by decide) gw_1286 dX6_lay_3 ?_
  replace hF := Option.bind_eq_some_iff.mp hF
  obtain ⟨v1, hv1, hF⟩ := hF
  refine V.callS (d' := d - 1) [vl (wr x1), vl 0, vl 3] [] (c_X6_in (by omega) hv1) okX6_in gw_966 rfl rfl (Nat.le_of_ble_eq_true rfl) (by omega) dX6_lay_6 ?_
  rintro _ _ ⟨rfl, rfl⟩
  show V E mX6_lay d 9 [(0, rf E 46), (1, vi x1), (2, vi x2), (3, vi x3)] [vi v1] M _
  refine V.if_ne (tgt := 14) rfl dX6_lay_9 (by decide) (fun hc => ?_) (fun hc => ?_)
  · rw [if_neg hc] at hF
    refine V.aload_n 0 0 0 rfl dX6_lay_14 rfl ?_
    refine V.get (by decide) (hcX6 E _) rfl inX6 24 (by decide) rfl gw_899 dX6_lay_15 ?_
    refine V.iload_n 1 1 1 rfl dX6_lay_18 rfl ?_
    replace hF := Option.bind_eq_some_iff.mp hF
    obtain ⟨v2, hv2, hF⟩ := hF
    refine V.iald ar_57 hv2 dX6_lay_19 ?_
    refine V.bipush (-4) (-4) (by decide) dX6_lay_20 ?_
    refine V.icmp_ne (tgt := 28) rfl wr_m4 dX6_lay_22 (by decide) (fun hc => ?_) (fun hc => ?_)
    · rw [if_neg hc] at hF
      refine V.iload_n 2 2 2 rfl dX6_lay_28 rfl ?_
      refine V.i2l dX6_lay_29 ?_
      refine V.lconst 0 0 (by decide) dX6_lay_30 ?_
      refine V.aload_n 0 0 0 rfl dX6_lay_31 rfl ?_
      refine V.get (by decide) (hcX6 E _) rfl inX6 25 (by decide) rfl gw_900 dX6_lay_32 ?_
      refine V.iload_n 1 1 1 rfl dX6_lay_35 rfl ?_
      replace hF := Option.bind_eq_some_iff.mp hF
      obtain ⟨v3, hv3, hF⟩ := hF
      refine V.iald ar_58 hv3 dX6_lay_36 ?_
      refine V.iconst 1 dX6_lay_37 ?_
      refine V.isub dX6_lay_38 ?_
      refine V.i2l dX6_lay_39 ?_
      replace hF := Option.bind_eq_some_iff.mp hF
      obtain ⟨v4, hv4, hF⟩ := hF
      refine V.callS (d' := d - 1) [vl (wr x2), vl 0, vl (wr (v3 - 1))] [] (c_X6_in (by omega) hv4) okX6_in gw_966 rfl rfl (Nat.le_of_ble_eq_true rfl) (by omega) dX6_lay_40 ?_
      rintro _ _ ⟨rfl, rfl⟩
      show V E mX6_lay d 43 [(0, rf E 46), (1, vi x1), (2, vi x2), (3, vi x3)] [vi v4] M _
      refine V.if_ne (tgt := 49) rfl dX6_lay_43 (by decide) (fun hc => ?_) (fun hc => ?_)
      · rw [if_neg hc] at hF
        refine V.aload_n 0 0 0 rfl dX6_lay_49 rfl ?_
        refine V.get (by decide) (hcX6 E _) rfl inX6 26 (by decide) rfl gw_901 dX6_lay_50 ?_
        refine V.bipush 40 40 (by decide) dX6_lay_53 ?_
        refine V.iload_n 1 1 1 rfl dX6_lay_55 rfl ?_
        refine V.imul dX6_lay_56 ?_
        refine V.iload_n 2 2 2 rfl dX6_lay_57 rfl ?_
        refine V.iadd dX6_lay_58 ?_
        refine V.aload_n 0 0 0 rfl dX6_lay_59 rfl ?_
        refine V.get (by decide) (hcX6 E _) rfl inX6 24 (by decide) rfl gw_899 dX6_lay_60 ?_
        refine V.iload_n 1 1 1 rfl dX6_lay_63 rfl ?_
        replace hF := Option.bind_eq_some_iff.mp hF
        obtain ⟨v5, hv5, hF⟩ := hF
        refine V.iald ar_57 hv5 dX6_lay_64 ?_
        refine V.if_ne (tgt := 78) rfl dX6_lay_65 (by decide) (fun hc => ?_) (fun hc => ?_)
        · rw [if_neg hc] at hF
          refine V.aload_n 0 0 0 rfl dX6_lay_78 rfl ?_
          refine V.get (by decide) (hcX6 E _) rfl inX6 24 (by decide) rfl gw_899 dX6_lay_79 ?_
          refine V.iload_n 1 1 1 rfl dX6_lay_82 rfl ?_
          replace hF := Option.bind_eq_some_iff.mp hF
          obtain ⟨v6, hv6, hF⟩ := hF
          refine V.iald ar_57 hv6 dX6_lay_83 ?_
          refine V.iconst 1 dX6_lay_84 ?_
          refine V.icmp_ne (tgt := 98) rfl wr_1 dX6_lay_85 (by decide) (fun hc => ?_) (fun hc => ?_)
          · rw [if_neg hc] at hF
            refine V.iload_n 3 3 3 rfl dX6_lay_98 rfl ?_
            refine V.sub _ [] rfl ?_
            exact v_X6_lay_99 hd hF hK
          · rw [if_pos hc] at hF
            refine V.iload_n 3 3 3 rfl dX6_lay_88 rfl ?_
            refine V.bipush 16 16 (by decide) dX6_lay_89 ?_
            refine V.ishl dX6_lay_91 ?_
            refine V.bipush 16 16 (by decide) dX6_lay_92 ?_
            refine V.ishr dX6_lay_94 ?_
            refine V.goto (tgt := 99) dX6_lay_95 (by decide) ?_
            refine V.sub _ [] rfl ?_
            exact v_X6_lay_99 hd hF hK
        · rw [if_pos hc] at hF
          refine V.iload_n 3 3 3 rfl dX6_lay_68 rfl ?_
          refine V.bipush 24 24 (by decide) dX6_lay_69 ?_
          refine V.ishl dX6_lay_71 ?_
          refine V.bipush 24 24 (by decide) dX6_lay_72 ?_
          refine V.ishr dX6_lay_74 ?_
          refine V.goto (tgt := 99) dX6_lay_75 (by decide) ?_
          refine V.sub _ [] rfl ?_
          exact v_X6_lay_99 hd hF hK
      · rw [if_pos hc] at hF
        refine V.bipush (-12) (-12) (by decide) dX6_lay_46 ?_
        cases Option.some.inj hF
        exact V.iret rfl dX6_lay_48 hK
    · rw [if_pos hc] at hF
      refine V.bipush (-11) (-11) (by decide) dX6_lay_25 ?_
      cases Option.some.inj hF
      exact V.iret rfl dX6_lay_27 hK
  · rw [if_pos hc] at hF
    refine V.iconst (-1) dX6_lay_12 ?_
    cases Option.some.inj hF
    exact V.iret rfl dX6_lay_13 hK
theorem c_X6_lay {E : En} {d : Nat} {x1 : Int} {x2 : Int} {x3 : Int} {M : Mem} {zr : Int} {zM : Mem}  (hd : 2 ≤ d) (hF : f_X6_lay x1 x2 x3 M = some (zr, zM)) : Cn E mX6_lay d [rf E 46, vi x1, vi x2, vi x3] M (fun v N => v = some (vi zr) ∧ zM = N) := by
  refine V.entry (by decide +kernel) (Nat.le_of_ble_eq_true rfl) ?_
  exact v_X6_lay_0  hd hF ⟨rfl, rfl⟩
abbrev mX6_read : MI := (yX6_read, cX6_read, 9, (some .int))
theorem okX6_read : OKV mX6_read 4 := ⟨gw_1292, gw_1293, gw_64, gw_1294, (by decide +kernel), (by decide)⟩
def f_X6_read_196 (n : Nat) (x5 : Int) (x6 : Int) (M : Mem) : Option (Int × Mem) :=
  (some (st M 46 27 x5)).bind fun M1 =>
  some (x6, M1)
set_option maxRecDepth 10000 in
theorem v_X6_read_196 {E : En} {d : Nat} {Q : Po} {n : Nat} {x5 : Int} {x6 : Int} {M : Mem} {z : Int × Mem}  (hd : 5 ≤ d) (hF : f_X6_read_196 n x5 x6 M = some z) (hK : Q (some (vi z.1)) z.2) : V E mX6_read d 196 [(0, rf E 46), (5, vi x5), (6, vi x6)] [] M Q := by
  unfold f_X6_read_196 at hF
  refine V.aload_n 0 0 0 rfl dX6_read_196 rfl ?_
  refine V.iload 5 1 dX6_read_197 rfl ?_
  replace hF := Option.bind_eq_some_iff.mp hF
  obtain ⟨M1, hM1, hF⟩ := hF
  refine V.put (x := x5) (ty := .int) (Option.some.inj hM1) (by decide) (hcX6 E) rfl inX6 tyX6 tyX6_ok nmX6 (by decide) rfl (by decide +kernel) rfl rfl (Nat.le_of_ble_eq_true rfl) rfl gw_902 dX6_read_199 ?_
  refine V.iload 6 2 dX6_read_202 rfl ?_
  cases Option.some.inj hF
  exact V.iret rfl dX6_read_204 hK
def f_X6_read_190 (n : Nat) (x1 : Int) (x2 : Int) (x3 : Int) (x4 : Int) (x5 : Int) (x6 : Int) (x7 : Int) (M : Mem) : Option ((Int × Int × Int × Mem) ⊕ (Int × Mem)) :=
  some (.inl (x5, x6, x7 + 1, M))
set_option maxRecDepth 10000 in
theorem v_X6_read_190 {E : En} {d : Nat} {Q : Po} {n : Nat} {x1 : Int} {x2 : Int} {x3 : Int} {x4 : Int} {x5 : Int} {x6 : Int} {x7 : Int} {M : Mem} {z : (Int × Int × Int × Mem) ⊕ (Int × Mem)}  (hd : 5 ≤ d) (hF : f_X6_read_190 n x1 x2 x3 x4 x5 x6 x7 M = some z) (hC0 : ∀ s' : Int × Int × Int × Mem, z = (.inl s') → V E mX6_read d 55 [(0, rf E 46), (1, vi x1), (2, vi x2), (3, vi x3), (4, vi x4), (5, vi (s'.1)), (6, vi (s'.2.1)), (7, vi (s'.2.2.1))] [] s'.2.2.2 Q) (hX : ∀ z0 : Int × Mem, z = (.inr z0) → Q (some (vi z0.1)) z0.2) : V E mX6_read d 190 [(0, rf E 46), (1, vi x1), (2, vi x2), (3, vi x3), (4, vi x4), (5, vi x5), (6, vi x6), (7, vi x7)] [] M Q := by
  unfold f_X6_read_190 at hF
  refine V.iinc 7 7 1 [(7, vi (x7 + 1)), (0, rf E 46), (1, vi x1), (2, vi x2), (3, vi x3), (4, vi x4), (5, vi x5), (6, vi x6)] dX6_read_190 rfl (by decide) rfl ?_
  refine V.goto (tgt := 55) dX6_read_193 (by decide) ?_
  cases Option.some.inj hF
  refine V.sub _ [1, 2, 3, 4, 5, 6, 7, 0] rfl ?_
  exact hC0 _ rfl
def f_X6_read_174 (n : Nat) (x6 : Int) (M : Mem) : Option (Int × Mem) :=
  (f_X6_copies n 75 0 M).bind fun M1 =>
  some ((-20) - x6, M1)
set_option maxRecDepth 10000 in
theorem v_X6_read_174 {E : En} {d : Nat} {Q : Po} {n : Nat} {x6 : Int} {M : Mem} {z : Int × Mem}  (hd : 5 ≤ d) (hF : f_X6_read_174 n x6 M = some z) (hK : Q (some (vi z.1)) z.2) : V E mX6_read d 174 [(0, rf E 46), (6, vi x6)] [] M Q := by
  unfold f_X6_read_174 at hF
  refine V.aload_n 0 0 0 rfl dX6_read_174 rfl ?_
  refine V.bipush 75 75 (by decide) dX6_read_175 ?_
  refine V.iconst 0 dX6_read_177 ?_
  replace hF := Option.bind_eq_some_iff.mp hF
  obtain ⟨M1, hM1, hF⟩ := hF
  refine V.callV (d' := d - 1) [vi 75, vi 0] [] (c_X6_copies (by omega) hM1) okX6_copies gw_1144 rfl rfl (by decide) (hcX6 E _) rfl (Nat.le_of_ble_eq_true rfl) (by omega) dX6_read_178 ?_
  rintro _ _ ⟨rfl, rfl⟩
  show V E mX6_read d 181 [(0, rf E 46), (6, vi x6)] [] M1 _
  refine V.bipush (-20) (-20) (by decide) dX6_read_181 ?_
  refine V.iload 6 1 dX6_read_183 rfl ?_
  refine V.isub dX6_read_185 ?_
  cases Option.some.inj hF
  exact V.iret rfl dX6_read_186 hK
def f_X6_read_125 (n : Nat) (x1 : Int) (x2 : Int) (x3 : Int) (x4 : Int) (x6 : Int) (x7 : Int) (s0 : Int) (M : Mem) : Option ((Int × Int × Int × Mem) ⊕ (Int × Mem)) :=
  if wr s0 = 0 then
    if wr ((wr x7).tmod (wr 2)) = 1 then
      (rd M 59 160 ((((40 * x1) + x3) + x7) - 1)).bind fun v1 =>
      (rd M 59 160 (((40 * x1) + x3) + x7)).bind fun v2 =>
      (f_X6_goes n v1 v2 M).bind fun (v3, M4) =>
      if 0 ≤ wr v3 then
        f_X6_read_190 n x1 x2 x3 x4 s0 (x6 + 1) x7 M4
      else
        (f_X6_read_174 n x6 M4).map Sum.inr
    else
      f_X6_read_190 n x1 x2 x3 x4 s0 x6 x7 M
  else
    f_X6_read_190 n x1 x2 x3 x4 s0 x6 x7 M
set_option maxRecDepth 10000 in
theorem v_X6_read_125 {E : En} {d : Nat} {Q : Po} {n : Nat} {x1 : Int} {x2 : Int} {x3 : Int} {x4 : Int} {x6 : Int} {x7 : Int} {s0 : Int} {M : Mem} {z : (Int × Int × Int × Mem) ⊕ (Int × Mem)}  (hd : 5 ≤ d) (hF : f_X6_read_125 n x1 x2 x3 x4 x6 x7 s0 M = some z) (hC0 : ∀ s' : Int × Int × Int × Mem, z = (.inl s') → V E mX6_read d 55 [(0, rf E 46), (1, vi x1), (2, vi x2), (3, vi x3), (4, vi x4), (5, vi (s'.1)), (6, vi (s'.2.1)), (7, vi (s'.2.2.1))] [] s'.2.2.2 Q) (hX : ∀ z0 : Int × Mem, z = (.inr z0) → Q (some (vi z0.1)) z0.2) : V E mX6_read d 125 [(0, rf E 46), (1, vi x1), (2, vi x2), (3, vi x3), (4, vi x4), (6, vi x6), (7, vi x7)] [vi s0] M Q := by
  unfold f_X6_read_125 at hF
  refine V.istore 5 [(5, vi s0), (0, rf E 46), (1, vi x1), (2, vi x2), (3, vi x3), (4, vi x4), (6, vi x6), (7, vi x7)] dX6_read_125 (by decide) rfl ?_
  refine V.iload 5 0 dX6_read_127 rfl ?_
  refine V.if_ne (tgt := 190) rfl dX6_read_129 (by decide) (fun hc => ?_) (fun hc => ?_)
  · rw [if_neg hc] at hF
    refine V.sub _ [1, 2, 3, 4, 5, 0, 6, 7] rfl ?_
    exact v_X6_read_190 hd hF hC0 hX
  · rw [if_pos hc] at hF
    refine V.iload 7 7 dX6_read_132 rfl ?_
    refine V.iconst 2 dX6_read_134 ?_
    refine V.irem (by decide) dX6_read_135 ?_
    refine V.iconst 1 dX6_read_136 ?_
    refine V.icmp_ne (tgt := 190) rfl wr_1 dX6_read_137 (by decide) (fun hc => ?_) (fun hc => ?_)
    · rw [if_neg hc] at hF
      refine V.sub _ [1, 2, 3, 4, 5, 0, 6, 7] rfl ?_
      exact v_X6_read_190 hd hF hC0 hX
    · rw [if_pos hc] at hF
      refine V.bipush 40 40 (by decide) dX6_read_140 ?_
      refine V.iload_n 1 1 2 rfl dX6_read_142 rfl ?_
      refine V.imul dX6_read_143 ?_
      refine V.iload_n 3 3 4 rfl dX6_read_144 rfl ?_
      refine V.iadd dX6_read_145 ?_
      refine V.iload 7 7 dX6_read_146 rfl ?_
      refine V.iadd dX6_read_148 ?_
      refine V.istore 8 [(8, vi (((40 * x1) + x3) + x7)), (5, vi s0), (0, rf E 46), (1, vi x1), (2, vi x2), (3, vi x3), (4, vi x4), (6, vi x6), (7, vi x7)] dX6_read_149 (by decide) rfl ?_
      refine V.aload_n 0 0 2 rfl dX6_read_151 rfl ?_
      refine V.aload_n 0 0 2 rfl dX6_read_152 rfl ?_
      refine V.get (by decide) (hcX6 E _) rfl inX6 26 (by decide) rfl gw_901 dX6_read_153 ?_
      refine V.iload 8 0 dX6_read_156 rfl ?_
      refine V.iconst 1 dX6_read_158 ?_
      refine V.isub dX6_read_159 ?_
      replace hF := Option.bind_eq_some_iff.mp hF
      obtain ⟨v1, hv1, hF⟩ := hF
      refine V.iald ar_59 hv1 dX6_read_160 ?_
      refine V.aload_n 0 0 2 rfl dX6_read_161 rfl ?_
      refine V.get (by decide) (hcX6 E _) rfl inX6 26 (by decide) rfl gw_901 dX6_read_162 ?_
      refine V.iload 8 0 dX6_read_165 rfl ?_
      replace hF := Option.bind_eq_some_iff.mp hF
      obtain ⟨v2, hv2, hF⟩ := hF
      refine V.iald ar_59 hv2 dX6_read_167 ?_
      replace hF := Option.bind_eq_some_iff.mp hF
      obtain ⟨⟨v3, M4⟩, hv3, hF⟩ := hF
      dsimp only at hF
      refine V.callV (d' := d - 1) [vi v1, vi v2] [] (c_X6_goes (by omega) hv3) okX6_goes gw_1110 rfl rfl (by decide) (hcX6 E _) rfl (Nat.le_of_ble_eq_true rfl) (by omega) dX6_read_168 ?_
      rintro _ _ ⟨rfl, rfl⟩
      show V E mX6_read d 171 [(8, vi (((40 * x1) + x3) + x7)), (5, vi s0), (0, rf E 46), (1, vi x1), (2, vi x2), (3, vi x3), (4, vi x4), (6, vi x6), (7, vi x7)] [vi v3] M4 _
      refine V.if_ge (tgt := 187) rfl dX6_read_171 (by decide) (fun hc => ?_) (fun hc => ?_)
      · rw [if_pos hc] at hF
        refine V.iinc 6 7 1 [(6, vi (x6 + 1)), (8, vi (((40 * x1) + x3) + x7)), (5, vi s0), (0, rf E 46), (1, vi x1), (2, vi x2), (3, vi x3), (4, vi x4), (7, vi x7)] dX6_read_187 rfl (by decide) rfl ?_
        refine V.sub _ [3, 4, 5, 6, 7, 2, 0, 8] rfl ?_
        exact v_X6_read_190 hd hF hC0 hX
      · rw [if_neg hc] at hF
        replace hF := Option.map_eq_some_iff.mp hF
        obtain ⟨z0, hF, rfl⟩ := hF
        refine V.sub _ [2, 7] rfl ?_
        exact v_X6_read_174 hd hF (hX _ rfl)
def f_X6_read_55 (n : Nat) (x1 : Int) (x2 : Int) (x3 : Int) (x4 : Int) (x5 : Int) (x6 : Int) (x7 : Int) (M : Mem) : Option ((Int × Int × Int × Mem) ⊕ (Int × Mem)) :=
  if wr (2 * x4) ≤ wr x7 then
    (f_X6_read_196 n x5 x6 M).map Sum.inr
  else
    if wr x5 = 0 then
      (rd M 57 4 x1).bind fun v1 =>
      if wr v1 = (-4) then
        f_X6_read_125 n x1 x2 x3 x4 x6 x7 1 M
      else
        (rd M 57 4 x1).bind fun v2 =>
        if wr v2 = wr x2 then
          (rd M 58 4 x1).bind fun v3 =>
          (f_X6_in ((wr x3) + (wr x7)) 0 (wr (v3 - 1)) M).bind fun v4 =>
          if wr v4 = 0 then
            f_X6_read_125 n x1 x2 x3 x4 x6 x7 2 M
          else
            f_X6_read_125 n x1 x2 x3 x4 x6 x7 0 M
        else
          f_X6_read_125 n x1 x2 x3 x4 x6 x7 3 M
    else
      (f_X6_read_196 n x5 x6 M).map Sum.inr
set_option maxRecDepth 10000 in
theorem v_X6_read_55 {E : En} {d : Nat} {Q : Po} {n : Nat} {x1 : Int} {x2 : Int} {x3 : Int} {x4 : Int} {x5 : Int} {x6 : Int} {x7 : Int} {M : Mem} {z : (Int × Int × Int × Mem) ⊕ (Int × Mem)}  (hd : 5 ≤ d) (hF : f_X6_read_55 n x1 x2 x3 x4 x5 x6 x7 M = some z) (hC0 : ∀ s' : Int × Int × Int × Mem, z = (.inl s') → V E mX6_read d 55 [(0, rf E 46), (1, vi x1), (2, vi x2), (3, vi x3), (4, vi x4), (5, vi (s'.1)), (6, vi (s'.2.1)), (7, vi (s'.2.2.1))] [] s'.2.2.2 Q) (hX : ∀ z0 : Int × Mem, z = (.inr z0) → Q (some (vi z0.1)) z0.2) : V E mX6_read d 55 [(0, rf E 46), (1, vi x1), (2, vi x2), (3, vi x3), (4, vi x4), (5, vi x5), (6, vi x6), (7, vi x7)] [] M Q := by
  unfold f_X6_read_55 at hF
  refine V.iload 7 7 dX6_read_55 rfl ?_
  refine V.iconst 2 dX6_read_57 ?_
  refine V.iload 4 4 dX6_read_58 rfl ?_
  refine V.imul dX6_read_60 ?_
  refine V.icmp_ge (tgt := 196) rfl rfl dX6_read_61 (by decide) (fun hc => ?_) (fun hc => ?_)
  · rw [if_pos hc] at hF
    replace hF := Option.map_eq_some_iff.mp hF
    obtain ⟨z0, hF, rfl⟩ := hF
    refine V.sub _ [0, 5, 6] rfl ?_
    exact v_X6_read_196 hd hF (hX _ rfl)
  · rw [if_neg hc] at hF
    refine V.iload 5 5 dX6_read_64 rfl ?_
    refine V.if_ne (tgt := 196) rfl dX6_read_66 (by decide) (fun hc => ?_) (fun hc => ?_)
    · rw [if_neg hc] at hF
      replace hF := Option.map_eq_some_iff.mp hF
      obtain ⟨z0, hF, rfl⟩ := hF
      refine V.sub _ [0, 5, 6] rfl ?_
      exact v_X6_read_196 hd hF (hX _ rfl)
    · rw [if_pos hc] at hF
      refine V.aload_n 0 0 0 rfl dX6_read_69 rfl ?_
      refine V.get (by decide) (hcX6 E _) rfl inX6 24 (by decide) rfl gw_899 dX6_read_70 ?_
      refine V.iload_n 1 1 1 rfl dX6_read_73 rfl ?_
      replace hF := Option.bind_eq_some_iff.mp hF
      obtain ⟨v1, hv1, hF⟩ := hF
      refine V.iald ar_57 hv1 dX6_read_74 ?_
      refine V.bipush (-4) (-4) (by decide) dX6_read_75 ?_
      refine V.icmp_ne (tgt := 84) rfl wr_m4 dX6_read_77 (by decide) (fun hc => ?_) (fun hc => ?_)
      · rw [if_neg hc] at hF
        refine V.aload_n 0 0 0 rfl dX6_read_84 rfl ?_
        refine V.get (by decide) (hcX6 E _) rfl inX6 24 (by decide) rfl gw_899 dX6_read_85 ?_
        refine V.iload_n 1 1 1 rfl dX6_read_88 rfl ?_
        replace hF := Option.bind_eq_some_iff.mp hF
        obtain ⟨v2, hv2, hF⟩ := hF
        refine V.iald ar_57 hv2 dX6_read_89 ?_
        refine V.iload_n 2 2 2 rfl dX6_read_90 rfl ?_
        refine V.icmp_eq (tgt := 98) rfl rfl dX6_read_91 (by decide) (fun hc => ?_) (fun hc => ?_)
        · rw [if_pos hc] at hF
          refine V.iload_n 3 3 3 rfl dX6_read_98 rfl ?_
          refine V.i2l dX6_read_99 ?_
          refine V.iload 7 7 dX6_read_100 rfl ?_
          refine V.i2l dX6_read_102 ?_
          refine V.ladd dX6_read_103 ?_
          refine V.lconst 0 0 (by decide) dX6_read_104 ?_
          refine V.aload_n 0 0 0 rfl dX6_read_105 rfl ?_
          refine V.get (by decide) (hcX6 E _) rfl inX6 25 (by decide) rfl gw_900 dX6_read_106 ?_
          refine V.iload_n 1 1 1 rfl dX6_read_109 rfl ?_
          replace hF := Option.bind_eq_some_iff.mp hF
          obtain ⟨v3, hv3, hF⟩ := hF
          refine V.iald ar_58 hv3 dX6_read_110 ?_
          refine V.iconst 1 dX6_read_111 ?_
          refine V.isub dX6_read_112 ?_
          refine V.i2l dX6_read_113 ?_
          replace hF := Option.bind_eq_some_iff.mp hF
          obtain ⟨v4, hv4, hF⟩ := hF
          refine V.callS (d' := d - 1) [vl ((wr x3) + (wr x7)), vl 0, vl (wr (v3 - 1))] [] (c_X6_in (by omega) hv4) okX6_in gw_966 rfl rfl (Nat.le_of_ble_eq_true rfl) (by omega) dX6_read_114 ?_
          rintro _ _ ⟨rfl, rfl⟩
          show V E mX6_read d 117 [(0, rf E 46), (1, vi x1), (2, vi x2), (3, vi x3), (4, vi x4), (5, vi x5), (6, vi x6), (7, vi x7)] [vi v4] M _
          refine V.if_ne (tgt := 124) rfl dX6_read_117 (by decide) (fun hc => ?_) (fun hc => ?_)
          · rw [if_neg hc] at hF
            refine V.iconst 0 dX6_read_124 ?_
            refine V.sub _ [0, 1, 2, 3, 4, 6, 7] rfl ?_
            exact v_X6_read_125 hd hF hC0 hX
          · rw [if_pos hc] at hF
            refine V.iconst 2 dX6_read_120 ?_
            refine V.goto (tgt := 125) dX6_read_121 (by decide) ?_
            refine V.sub _ [0, 1, 2, 3, 4, 6, 7] rfl ?_
            exact v_X6_read_125 hd hF hC0 hX
        · rw [if_neg hc] at hF
          refine V.iconst 3 dX6_read_94 ?_
          refine V.goto (tgt := 125) dX6_read_95 (by decide) ?_
          refine V.sub _ [0, 1, 2, 3, 4, 6, 7] rfl ?_
          exact v_X6_read_125 hd hF hC0 hX
      · rw [if_pos hc] at hF
        refine V.iconst 1 dX6_read_80 ?_
        refine V.goto (tgt := 125) dX6_read_81 (by decide) ?_
        refine V.sub _ [0, 1, 2, 3, 4, 6, 7] rfl ?_
        exact v_X6_read_125 hd hF hC0 hX
theorem l_X6_read_55 {E : En} {d : Nat} {Q : Po} {n : Nat} {x1 : Int} {x2 : Int} {x3 : Int} {x4 : Int} {k : Nat} {s : Int × Int × Int × Mem} {z : Int × Mem}  (hd : 5 ≤ d) (hF : lp (fun s => f_X6_read_55 n x1 x2 x3 x4 s.1 s.2.1 s.2.2.1 s.2.2.2) k s = some z) (hK : Q (some (vi z.1)) z.2) : V E mX6_read d 55 [(0, rf E 46), (1, vi x1), (2, vi x2), (3, vi x3), (4, vi x4), (5, vi s.1), (6, vi s.2.1), (7, vi s.2.2.1)] [] s.2.2.2 Q := by
  refine lp_ind (P := fun s => V E mX6_read d 55 [(0, rf E 46), (1, vi x1), (2, vi x2), (3, vi x3), (4, vi x4), (5, vi s.1), (6, vi s.2.1), (7, vi s.2.2.1)] [] s.2.2.2 Q) (z0 := z) ?_ k s hF
  intro s z' hF hc hx
  exact v_X6_read_55 hd hF (fun s' e => hc s' e) (fun z0 e => by rw [hx _ e]; exact hK)
def f_X6_read (n : Nat) (x1 : Int) (x2 : Int) (x3 : Int) (x4 : Int) (M : Mem) : Option (Int × Mem) :=
  (f_X6_in (wr x1) 0 3 M).bind fun v1 =>
  if wr v1 = 0 then
    some ((-1), M)
  else
    (f_X6_in (wr x2) 0 2 M).bind fun v2 =>
    if wr v2 = 0 then
      some ((-1), M)
    else
      (f_X6_in (wr x4) 0 20 M).bind fun v3 =>
      if wr v3 = 0 then
        some ((-1), M)
      else
        (f_X6_copies n 0 75 M).bind fun M4 =>
        lp (fun s => f_X6_read_55 n x1 x2 x3 x4 s.1 s.2.1 s.2.2.1 s.2.2.2) n (0, 0, 0, M4)
set_option maxRecDepth 10000 in
theorem v_X6_read_0 {E : En} {d : Nat} {Q : Po} {n : Nat} {x1 : Int} {x2 : Int} {x3 : Int} {x4 : Int} {M : Mem} {z : Int × Mem}  (hd : 5 ≤ d) (hF : f_X6_read n x1 x2 x3 x4 M = some z) (hK : Q (some (vi z.1)) z.2) : V E mX6_read d 0 [(0, rf E 46), (1, vi x1), (2, vi x2), (3, vi x3), (4, vi x4)] [] M Q := by
  unfold f_X6_read at hF
  refine V.iload_n 1 1 1 rfl dX6_read_0 rfl ?_
  refine V.i2l dX6_read_1 ?_
  refine V.lconst 0 0 (by decide) dX6_read_2 ?_
  refine V.ldc2 264 3 3 (by decide) gw_1286 dX6_read_3 ?_
  replace hF := Option.bind_eq_some_iff.mp hF
  obtain ⟨v1, hv1, hF⟩ := hF
  refine V.callS (d' := d - 1) [vl (wr x1), vl 0, vl 3] [] (c_X6_in (by omega) hv1) okX6_in gw_966 rfl rfl (Nat.le_of_ble_eq_true rfl) (by omega) dX6_read_6 ?_
  rintro _ _ ⟨rfl, rfl⟩
  show V E mX6_read d 9 [(0, rf E 46), (1, vi x1), (2, vi x2), (3, vi x3), (4, vi x4)] [vi v1] M _
  refine V.if_eq (tgt := 37) rfl dX6_read_9 (by decide) (fun hc => ?_) (fun hc => ?_)
  · rw [if_pos hc] at hF
    refine V.iconst (-1) dX6_read_37 ?_
    cases Option.some.inj hF
    exact V.iret rfl dX6_read_38 hK
  · rw [if_neg hc] at hF
    refine V.iload_n 2 2 2 rfl dX6_read_12 rfl ?_
    refine V.i2l dX6_read_13 ?_
    refine V.lconst 0 0 (by decide) dX6_read_14 ?_
    refine V.ldc2 199 2 2 (by decide) gw_1143 dX6_read_15 ?_
    replace hF := Option.bind_eq_some_iff.mp hF
    obtain ⟨v2, hv2, hF⟩ := hF
    refine V.callS (d' := d - 1) [vl (wr x2), vl 0, vl 2] [] (c_X6_in (by omega) hv2) okX6_in gw_966 rfl rfl (Nat.le_of_ble_eq_true rfl) (by omega) dX6_read_18 ?_
    rintro _ _ ⟨rfl, rfl⟩
    show V E mX6_read d 21 [(0, rf E 46), (1, vi x1), (2, vi x2), (3, vi x3), (4, vi x4)] [vi v2] M _
    refine V.if_eq (tgt := 37) rfl dX6_read_21 (by decide) (fun hc => ?_) (fun hc => ?_)
    · rw [if_pos hc] at hF
      refine V.iconst (-1) dX6_read_37 ?_
      cases Option.some.inj hF
      exact V.iret rfl dX6_read_38 hK
    · rw [if_neg hc] at hF
      refine V.iload 4 4 dX6_read_24 rfl ?_
      refine V.i2l dX6_read_26 ?_
      refine V.lconst 0 0 (by decide) dX6_read_27 ?_
      refine V.ldc2 175 20 20 (by decide) gw_1084 dX6_read_28 ?_
      replace hF := Option.bind_eq_some_iff.mp hF
      obtain ⟨v3, hv3, hF⟩ := hF
      refine V.callS (d' := d - 1) [vl (wr x4), vl 0, vl 20] [] (c_X6_in (by omega) hv3) okX6_in gw_966 rfl rfl (Nat.le_of_ble_eq_true rfl) (by omega) dX6_read_31 ?_
      rintro _ _ ⟨rfl, rfl⟩
      show V E mX6_read d 34 [(0, rf E 46), (1, vi x1), (2, vi x2), (3, vi x3), (4, vi x4)] [vi v3] M _
      refine V.if_ne (tgt := 39) rfl dX6_read_34 (by decide) (fun hc => ?_) (fun hc => ?_)
      · rw [if_neg hc] at hF
        refine V.aload_n 0 0 0 rfl dX6_read_39 rfl ?_
        refine V.iconst 0 dX6_read_40 ?_
        refine V.bipush 75 75 (by decide) dX6_read_41 ?_
        replace hF := Option.bind_eq_some_iff.mp hF
        obtain ⟨M4, hM4, hF⟩ := hF
        refine V.callV (d' := d - 1) [vi 0, vi 75] [] (c_X6_copies (by omega) hM4) okX6_copies gw_1144 rfl rfl (by decide) (hcX6 E _) rfl (Nat.le_of_ble_eq_true rfl) (by omega) dX6_read_43 ?_
        rintro _ _ ⟨rfl, rfl⟩
        show V E mX6_read d 46 [(0, rf E 46), (1, vi x1), (2, vi x2), (3, vi x3), (4, vi x4)] [] M4 _
        refine V.iconst 0 dX6_read_46 ?_
        refine V.istore 5 [(5, vi 0), (0, rf E 46), (1, vi x1), (2, vi x2), (3, vi x3), (4, vi x4)] dX6_read_47 (by decide) rfl ?_
        refine V.iconst 0 dX6_read_49 ?_
        refine V.istore 6 [(6, vi 0), (5, vi 0), (0, rf E 46), (1, vi x1), (2, vi x2), (3, vi x3), (4, vi x4)] dX6_read_50 (by decide) rfl ?_
        refine V.iconst 0 dX6_read_52 ?_
        refine V.istore 7 [(7, vi 0), (6, vi 0), (5, vi 0), (0, rf E 46), (1, vi x1), (2, vi x2), (3, vi x3), (4, vi x4)] dX6_read_53 (by decide) rfl ?_
        refine V.sub _ [3, 4, 5, 6, 7, 2, 1, 0] rfl ?_
        exact l_X6_read_55 hd hF hK
      · rw [if_pos hc] at hF
        refine V.iconst (-1) dX6_read_37 ?_
        cases Option.some.inj hF
        exact V.iret rfl dX6_read_38 hK
theorem c_X6_read {E : En} {d : Nat} {n : Nat} {x1 : Int} {x2 : Int} {x3 : Int} {x4 : Int} {M : Mem} {zr : Int} {zM : Mem}  (hd : 5 ≤ d) (hF : f_X6_read n x1 x2 x3 x4 M = some (zr, zM)) : Cn E mX6_read d [rf E 46, vi x1, vi x2, vi x3, vi x4] M (fun v N => v = some (vi zr) ∧ zM = N) := by
  refine V.entry (by decide +kernel) (Nat.le_of_ble_eq_true rfl) ?_
  exact v_X6_read_0  hd hF ⟨rfl, rfl⟩
abbrev mX6_torn : MI := (yX6_torn, cX6_torn, 1, (some .int))
theorem okX6_torn : OKV mX6_torn 0 := ⟨gw_1296, gw_1297, gw_64, gw_1298, (by decide +kernel), (by decide)⟩
def f_X6_torn (M : Mem) : Option (Int) :=
  some (M 46 27)
set_option maxRecDepth 10000 in
theorem v_X6_torn_0 {E : En} {d : Nat} {Q : Po} {M : Mem} {z : Int}  (hd : 1 ≤ d) (hF : f_X6_torn M = some z) (hK : Q (some (vi z)) M) : V E mX6_torn d 0 [(0, rf E 46)] [] M Q := by
  unfold f_X6_torn at hF
  refine V.aload_n 0 0 0 rfl dX6_torn_0 rfl ?_
  refine V.get (by decide) (hcX6 E _) rfl inX6 27 (by decide) rfl gw_902 dX6_torn_1 ?_
  cases Option.some.inj hF
  exact V.iret rfl dX6_torn_4 hK
theorem c_X6_torn {E : En} {d : Nat} {M : Mem} {z : Int}  (hd : 1 ≤ d) (hF : f_X6_torn M = some z) : Cn E mX6_torn d [rf E 46] M (fun v N => v = some (vi z) ∧ M = N) := by
  refine V.entry (by decide +kernel) (Nat.le_of_ble_eq_true rfl) ?_
  exact v_X6_torn_0  hd hF ⟨rfl, rfl⟩
abbrev mX6_bitsOf : MI := (yX6_bitsOf, cX6_bitsOf, 3, (some .int))
theorem okX6_bitsOf : OKS mX6_bitsOf 1 := ⟨gw_1304, gw_64, gw_1305, (by decide +kernel), (by decide)⟩
def f_X6_bitsOf_4 (n : Nat) (x0 : Int) (x1 : Int) (x2 : Int) (M : Mem) : Option ((Int × Int) ⊕ (Int)) :=
  if 8 ≤ wr x2 then
    some (.inr x1)
  else
    some (.inl (x1 + (bAnd (bShr x0 x2) 1), x2 + 1))
set_option maxRecDepth 10000 in
theorem v_X6_bitsOf_4 {E : En} {d : Nat} {Q : Po} {n : Nat} {x0 : Int} {x1 : Int} {x2 : Int} {M : Mem} {z : (Int × Int) ⊕ (Int)}  (hd : 1 ≤ d) (hF : f_X6_bitsOf_4 n x0 x1 x2 M = some z) (hC0 : ∀ s' : Int × Int, z = (.inl s') → V E mX6_bitsOf d 4 [(0, vi x0), (1, vi (s'.1)), (2, vi (s'.2))] [] M Q) (hX : ∀ z0 : Int, z = (.inr z0) → Q (some (vi z0)) M) : V E mX6_bitsOf d 4 [(0, vi x0), (1, vi x1), (2, vi x2)] [] M Q := by
  unfold f_X6_bitsOf_4 at hF
  refine V.iload_n 2 2 2 rfl dX6_bitsOf_4 rfl ?_
  refine V.bipush 8 8 (by decide) dX6_bitsOf_5 ?_
  refine V.icmp_ge (tgt := 24) rfl wr_8 dX6_bitsOf_7 (by decide) (fun hc => ?_) (fun hc => ?_)
  · rw [if_pos hc] at hF
    refine V.iload_n 1 1 1 rfl dX6_bitsOf_24 rfl ?_
    cases Option.some.inj hF
    exact V.iret rfl dX6_bitsOf_25 (hX _ rfl)
  · rw [if_neg hc] at hF
    refine V.iload_n 1 1 1 rfl dX6_bitsOf_10 rfl ?_
    refine V.iload_n 0 0 0 rfl dX6_bitsOf_11 rfl ?_
    refine V.iload_n 2 2 2 rfl dX6_bitsOf_12 rfl ?_
    refine V.ishr dX6_bitsOf_13 ?_
    refine V.iconst 1 dX6_bitsOf_14 ?_
    refine V.iand dX6_bitsOf_15 ?_
    refine V.iadd dX6_bitsOf_16 ?_
    refine V.istore_n 1 1 [(1, vi (x1 + (bAnd (bShr x0 x2) 1))), (0, vi x0), (2, vi x2)] rfl dX6_bitsOf_17 (by decide) rfl ?_
    refine V.iinc 2 2 1 [(2, vi (x2 + 1)), (1, vi (x1 + (bAnd (bShr x0 x2) 1))), (0, vi x0)] dX6_bitsOf_18 rfl (by decide) rfl ?_
    refine V.goto (tgt := 4) dX6_bitsOf_21 (by decide) ?_
    cases Option.some.inj hF
    refine V.sub _ [2, 1, 0] rfl ?_
    exact hC0 _ rfl
theorem l_X6_bitsOf_4 {E : En} {d : Nat} {Q : Po} {n : Nat} {x0 : Int} {M : Mem} {k : Nat} {s : Int × Int} {z : Int}  (hd : 1 ≤ d) (hF : lp (fun s => f_X6_bitsOf_4 n x0 s.1 s.2 M) k s = some z) (hK : Q (some (vi z)) M) : V E mX6_bitsOf d 4 [(0, vi x0), (1, vi s.1), (2, vi s.2)] [] M Q := by
  refine lp_ind (P := fun s => V E mX6_bitsOf d 4 [(0, vi x0), (1, vi s.1), (2, vi s.2)] [] M Q) (z0 := z) ?_ k s hF
  intro s z' hF hc hx
  exact v_X6_bitsOf_4 hd hF (fun s' e => hc s' e) (fun z0 e => by rw [hx _ e]; exact hK)
def f_X6_bitsOf (n : Nat) (x0 : Int) (M : Mem) : Option (Int) :=
  lp (fun s => f_X6_bitsOf_4 n x0 s.1 s.2 M) n (0, 0)
set_option maxRecDepth 10000 in
theorem v_X6_bitsOf_0 {E : En} {d : Nat} {Q : Po} {n : Nat} {x0 : Int} {M : Mem} {z : Int}  (hd : 1 ≤ d) (hF : f_X6_bitsOf n x0 M = some z) (hK : Q (some (vi z)) M) : V E mX6_bitsOf d 0 [(0, vi x0)] [] M Q := by
  unfold f_X6_bitsOf at hF
  refine V.iconst 0 dX6_bitsOf_0 ?_
  refine V.istore_n 1 1 [(1, vi 0), (0, vi x0)] rfl dX6_bitsOf_1 (by decide) rfl ?_
  refine V.iconst 0 dX6_bitsOf_2 ?_
  refine V.istore_n 2 2 [(2, vi 0), (1, vi 0), (0, vi x0)] rfl dX6_bitsOf_3 (by decide) rfl ?_
  refine V.sub _ [2, 1, 0] rfl ?_
  exact l_X6_bitsOf_4 hd hF hK
theorem c_X6_bitsOf {E : En} {d : Nat} {n : Nat} {x0 : Int} {M : Mem} {z : Int}  (hd : 1 ≤ d) (hF : f_X6_bitsOf n x0 M = some z) : Cn E mX6_bitsOf d [vi x0] M (fun v N => v = some (vi z) ∧ M = N) := by
  refine V.entry (by decide +kernel) (Nat.le_of_ble_eq_true rfl) ?_
  exact v_X6_bitsOf_0  hd hF ⟨rfl, rfl⟩
abbrev mX6_count : MI := (yX6_count, cX6_count, 2, (some .int))
theorem okX6_count : OKV mX6_count 1 := ⟨gw_1300, gw_1301, gw_64, gw_1302, (by decide +kernel), (by decide)⟩
def f_X6_count_73 (n : Nat) (s0 : Int) (s1 : Int) (M : Mem) : Option (Int) :=
  some (s1 + s0)
set_option maxRecDepth 10000 in
theorem v_X6_count_73 {E : En} {d : Nat} {Q : Po} {n : Nat} {s0 : Int} {s1 : Int} {M : Mem} {z : Int}  (hd : 3 ≤ d) (hF : f_X6_count_73 n s0 s1 M = some z) (hK : Q (some (vi z)) M) : V E mX6_count d 73 [] [vi s0, vi s1] M Q := by
  unfold f_X6_count_73 at hF
  refine V.iadd dX6_count_73 ?_
  cases Option.some.inj hF
  exact V.iret rfl dX6_count_74 hK
def f_X6_count_59 (n : Nat) (s0 : Int) (M : Mem) : Option (Int) :=
  if wr (M 56 1) = 0 then
    f_X6_count_73 n 0 s0 M
  else
    f_X6_count_73 n 1 s0 M
set_option maxRecDepth 10000 in
theorem v_X6_count_59 {E : En} {d : Nat} {Q : Po} {n : Nat} {s0 : Int} {M : Mem} {z : Int}  (hd : 3 ≤ d) (hF : f_X6_count_59 n s0 M = some z) (hK : Q (some (vi z)) M) : V E mX6_count d 59 [(0, rf E 46)] [vi s0] M Q := by
  unfold f_X6_count_59 at hF
  refine V.aload_n 0 0 0 rfl dX6_count_59 rfl ?_
  refine V.get (by decide) (hcX6 E _) rfl inX6 23 (by decide) rfl gw_898 dX6_count_60 ?_
  refine V.iconst 1 dX6_count_63 ?_
  refine V.zald ar_56 (rd_lit 1 1 wr_1 (by decide)) dX6_count_64 ?_
  refine V.if_eq (tgt := 72) rfl dX6_count_65 (by decide) (fun hc => ?_) (fun hc => ?_)
  · rw [if_pos hc] at hF
    refine V.iconst 0 dX6_count_72 ?_
    refine V.sub _ [] rfl ?_
    exact v_X6_count_73 hd hF hK
  · rw [if_neg hc] at hF
    refine V.iconst 1 dX6_count_68 ?_
    refine V.goto (tgt := 73) dX6_count_69 (by decide) ?_
    refine V.sub _ [] rfl ?_
    exact v_X6_count_73 hd hF hK
def f_X6_count (n : Nat) (x1 : Int) (M : Mem) : Option (Int) :=
  if wr x1 = 0 then
    some (M 46 22)
  else if wr x1 = 1 then
    if wr (M 56 0) = 0 then
      f_X6_count_59 n 0 M
    else
      f_X6_count_59 n 1 M
  else if wr x1 = 2 then
    some (M 46 10)
  else if wr x1 = 3 then
    if wr (M 57 0) = (-4) then
      some (-4)
    else
      some (M 58 0)
  else if wr x1 = 4 then
    (f_X6_canNow n M).bind fun v1 =>
    (f_X6_bitsOf n v1 M).bind fun v2 =>
    some v2
  else if wr x1 = 5 then
    (f_X6_bitsOf n (M 47 22) M).bind fun v3 =>
    some v3
  else 
    some (-1)
set_option maxRecDepth 10000 in
theorem v_X6_count_0 {E : En} {d : Nat} {Q : Po} {n : Nat} {x1 : Int} {M : Mem} {z : Int}  (hd : 3 ≤ d) (hF : f_X6_count n x1 M = some z) (hK : Q (some (vi z)) M) : V E mX6_count d 0 [(0, rf E 46), (1, vi x1)] [] M Q := by
  unfold f_X6_count at hF
  refine V.iload_n 1 1 1 rfl dX6_count_0 rfl ?_
  by_cases hs0 : wr x1 = 0
  · rw [if_pos hs0] at hF
    refine V.tableIn (a := 0) (tgt := 40) (off := 39) hs0 dX6_count_1 (by decide) (by decide) rfl (by decide) ?_
    refine V.aload_n 0 0 0 rfl dX6_count_40 rfl ?_
    refine V.get (by decide) (hcX6 E _) rfl inX6 22 (by decide) rfl gw_897 dX6_count_41 ?_
    cases Option.some.inj hF
    exact V.iret rfl dX6_count_44 hK
  rw [if_neg hs0] at hF
  by_cases hs1 : wr x1 = 1
  · rw [if_pos hs1] at hF
    refine V.tableIn (a := 1) (tgt := 45) (off := 44) hs1 dX6_count_1 (by decide) (by decide) rfl (by decide) ?_
    refine V.aload_n 0 0 0 rfl dX6_count_45 rfl ?_
    refine V.get (by decide) (hcX6 E _) rfl inX6 23 (by decide) rfl gw_898 dX6_count_46 ?_
    refine V.iconst 0 dX6_count_49 ?_
    refine V.zald ar_56 (rd_lit 0 0 wr_0 (by decide)) dX6_count_50 ?_
    refine V.if_eq (tgt := 58) rfl dX6_count_51 (by decide) (fun hc => ?_) (fun hc => ?_)
    · rw [if_pos hc] at hF
      refine V.iconst 0 dX6_count_58 ?_
      refine V.sub _ [0] rfl ?_
      exact v_X6_count_59 hd hF hK
    · rw [if_neg hc] at hF
      refine V.iconst 1 dX6_count_54 ?_
      refine V.goto (tgt := 59) dX6_count_55 (by decide) ?_
      refine V.sub _ [0] rfl ?_
      exact v_X6_count_59 hd hF hK
  rw [if_neg hs1] at hF
  by_cases hs2 : wr x1 = 2
  · rw [if_pos hs2] at hF
    refine V.tableIn (a := 2) (tgt := 75) (off := 74) hs2 dX6_count_1 (by decide) (by decide) rfl (by decide) ?_
    refine V.aload_n 0 0 0 rfl dX6_count_75 rfl ?_
    refine V.get (by decide) (hcX6 E _) rfl inX6 10 (by decide) rfl gw_885 dX6_count_76 ?_
    cases Option.some.inj hF
    exact V.iret rfl dX6_count_79 hK
  rw [if_neg hs2] at hF
  by_cases hs3 : wr x1 = 3
  · rw [if_pos hs3] at hF
    refine V.tableIn (a := 3) (tgt := 80) (off := 79) hs3 dX6_count_1 (by decide) (by decide) rfl (by decide) ?_
    refine V.aload_n 0 0 0 rfl dX6_count_80 rfl ?_
    refine V.get (by decide) (hcX6 E _) rfl inX6 24 (by decide) rfl gw_899 dX6_count_81 ?_
    refine V.iconst 0 dX6_count_84 ?_
    refine V.iald ar_57 (rd_lit 0 0 wr_0 (by decide)) dX6_count_85 ?_
    refine V.bipush (-4) (-4) (by decide) dX6_count_86 ?_
    refine V.icmp_ne (tgt := 96) rfl wr_m4 dX6_count_88 (by decide) (fun hc => ?_) (fun hc => ?_)
    · rw [if_neg hc] at hF
      refine V.aload_n 0 0 0 rfl dX6_count_96 rfl ?_
      refine V.get (by decide) (hcX6 E _) rfl inX6 25 (by decide) rfl gw_900 dX6_count_97 ?_
      refine V.iconst 0 dX6_count_100 ?_
      refine V.iald ar_58 (rd_lit 0 0 wr_0 (by decide)) dX6_count_101 ?_
      cases Option.some.inj hF
      exact V.iret rfl dX6_count_102 hK
    · rw [if_pos hc] at hF
      refine V.bipush (-4) (-4) (by decide) dX6_count_91 ?_
      refine V.goto (tgt := 102) dX6_count_93 (by decide) ?_
      cases Option.some.inj hF
      exact V.iret rfl dX6_count_102 hK
  rw [if_neg hs3] at hF
  by_cases hs4 : wr x1 = 4
  · rw [if_pos hs4] at hF
    refine V.tableIn (a := 4) (tgt := 103) (off := 102) hs4 dX6_count_1 (by decide) (by decide) rfl (by decide) ?_
    refine V.aload_n 0 0 0 rfl dX6_count_103 rfl ?_
    replace hF := Option.bind_eq_some_iff.mp hF
    obtain ⟨v1, hv1, hF⟩ := hF
    refine V.callV (d' := d - 1) [] [] (c_X6_canNow (by omega) hv1) okX6_canNow gw_1164 rfl rfl (by decide) (hcX6 E _) rfl (Nat.le_of_ble_eq_true rfl) (by omega) dX6_count_104 ?_
    rintro _ _ ⟨rfl, rfl⟩
    show V E mX6_count d 107 [(0, rf E 46), (1, vi x1)] [vi v1] M _
    replace hF := Option.bind_eq_some_iff.mp hF
    obtain ⟨v2, hv2, hF⟩ := hF
    refine V.callS (d' := d - 1) [vi v1] [] (c_X6_bitsOf (by omega) hv2) okX6_bitsOf gw_1303 rfl rfl (Nat.le_of_ble_eq_true rfl) (by omega) dX6_count_107 ?_
    rintro _ _ ⟨rfl, rfl⟩
    show V E mX6_count d 110 [(0, rf E 46), (1, vi x1)] [vi v2] M _
    cases Option.some.inj hF
    exact V.iret rfl dX6_count_110 hK
  rw [if_neg hs4] at hF
  by_cases hs5 : wr x1 = 5
  · rw [if_pos hs5] at hF
    refine V.tableIn (a := 5) (tgt := 111) (off := 110) hs5 dX6_count_1 (by decide) (by decide) rfl (by decide) ?_
    refine V.aload_n 0 0 0 rfl dX6_count_111 rfl ?_
    refine V.get (by decide) (hcX6 E _) rfl inX6 0 (by decide) rfl gw_875 dX6_count_112 ?_
    refine V.bipush 22 22 (by decide) dX6_count_115 ?_
    refine V.iald ar_47 (rd_lit 22 22 wr_22 (by decide)) dX6_count_117 ?_
    replace hF := Option.bind_eq_some_iff.mp hF
    obtain ⟨v3, hv3, hF⟩ := hF
    refine V.callS (d' := d - 1) [vi (M 47 22)] [] (c_X6_bitsOf (by omega) hv3) okX6_bitsOf gw_1303 rfl rfl (Nat.le_of_ble_eq_true rfl) (by omega) dX6_count_118 ?_
    rintro _ _ ⟨rfl, rfl⟩
    show V E mX6_count d 121 [(0, rf E 46), (1, vi x1)] [vi v3] M _
    cases Option.some.inj hF
    exact V.iret rfl dX6_count_121 hK
  rw [if_neg hs5] at hF
  refine V.tableOut (tgt := 122) rfl dX6_count_1 (by omega) (by decide) ?_
  refine V.iconst (-1) dX6_count_122 ?_
  cases Option.some.inj hF
  exact V.iret rfl dX6_count_123 hK
theorem c_X6_count {E : En} {d : Nat} {n : Nat} {x1 : Int} {M : Mem} {z : Int}  (hd : 3 ≤ d) (hF : f_X6_count n x1 M = some z) : Cn E mX6_count d [rf E 46, vi x1] M (fun v N => v = some (vi z) ∧ M = N) := by
  refine V.entry (by decide +kernel) (Nat.le_of_ble_eq_true rfl) ?_
  exact v_X6_count_0  hd hF ⟨rfl, rfl⟩
