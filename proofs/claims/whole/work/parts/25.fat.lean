abbrev mX5_feed : MI := (yX5_feed, cX5_feed, 2, (some .int))
theorem okX5_feed : OKV mX5_feed 1 := ⟨gw_311, gw_312, gw_58, gw_313, (by decide +kernel), (by decide)⟩
def f_X5_feed (x1 : Int) (M : Mem) : Option (Int × Mem) :=
  (f_X5_within x1 0 127 M).bind fun v1 =>
  if wr v1 = 0 then
    some ((-1), M)
  else
    (f_X3_write x1 M).bind fun (v2, M3) =>
    if wr v2 = 0 then
      some ((-3), M3)
    else
      some (M3 1 1, M3)
set_option maxRecDepth 10000 in
theorem v_X5_feed_0 {E : En} {d : Nat} {Q : Po} {x1 : Int} {M : Mem} {z : Int × Mem}  (hd : 2 ≤ d) (hF : f_X5_feed x1 M = some z) (hK : Q (some (vi z.1)) z.2) : V E mX5_feed d 0 [(0, rf E 0), (1, vi x1)] [] M Q := by
  unfold f_X5_feed at hF
  refine V.iload_n 1 1 1 rfl dX5_feed_0 rfl ?_
  refine V.iconst 0 dX5_feed_1 ?_
  refine V.bipush 127 127 (by decide) dX5_feed_2 ?_
  replace hF := Option.bind_eq_some_iff.mp hF
  obtain ⟨v1, hv1, hF⟩ := hF
  refine V.callS (d' := d - 1) [vi x1, vi 0, vi 127] [] (c_X5_within (by omega) hv1) okX5_within gw_314 rfl rfl (Nat.le_of_ble_eq_true rfl) (by omega) dX5_feed_4 ?_
  rintro _ _ ⟨rfl, rfl⟩
  show V E mX5_feed d 7 [(0, rf E 0), (1, vi x1)] [vi v1] M _
  refine V.if_ne (tgt := 12) rfl dX5_feed_7 (by decide) (fun hc => ?_) (fun hc => ?_)
  · rw [if_neg hc] at hF
    refine V.aload_n 0 0 0 rfl dX5_feed_12 rfl ?_
    refine V.get (by decide) (hcX5 E _) rfl inX5 0 (by decide) rfl gw_282 dX5_feed_13 ?_
    refine V.iload_n 1 1 1 rfl dX5_feed_16 rfl ?_
    replace hF := Option.bind_eq_some_iff.mp hF
    obtain ⟨⟨v2, M3⟩, hv2, hF⟩ := hF
    dsimp only at hF
    refine V.callV (d' := d - 1) [vi x1] [] (c_X3_write (by omega) hv2) okX3_write gw_317 rfl rfl (by decide) (hcX3 E _) rfl (Nat.le_of_ble_eq_true rfl) (by omega) dX5_feed_17 ?_
    rintro _ _ ⟨rfl, rfl⟩
    show V E mX5_feed d 20 [(0, rf E 0), (1, vi x1)] [vi v2] M3 _
    refine V.if_eq (tgt := 33) rfl dX5_feed_20 (by decide) (fun hc => ?_) (fun hc => ?_)
    · rw [if_pos hc] at hF
      refine V.bipush (-3) (-3) (by decide) dX5_feed_33 ?_
      cases Option.some.inj hF
      exact V.iret rfl dX5_feed_35 hK
    · rw [if_neg hc] at hF
      refine V.aload_n 0 0 0 rfl dX5_feed_23 rfl ?_
      refine V.get (by decide) (hcX5 E _) rfl inX5 0 (by decide) rfl gw_282 dX5_feed_24 ?_
      refine V.get (by decide) (hcX3 E _) rfl inX3 1 (by decide) rfl gw_89 dX5_feed_27 ?_
      refine V.goto (tgt := 35) dX5_feed_30 (by decide) ?_
      cases Option.some.inj hF
      exact V.iret rfl dX5_feed_35 hK
  · rw [if_pos hc] at hF
    refine V.iconst (-1) dX5_feed_10 ?_
    cases Option.some.inj hF
    exact V.iret rfl dX5_feed_11 hK
theorem c_X5_feed {E : En} {d : Nat} {x1 : Int} {M : Mem} {zr : Int} {zM : Mem}  (hd : 2 ≤ d) (hF : f_X5_feed x1 M = some (zr, zM)) : Cn E mX5_feed d [rf E 0, vi x1] M (fun v N => v = some (vi zr) ∧ zM = N) := by
  refine V.entry (by decide +kernel) (Nat.le_of_ble_eq_true rfl) ?_
  exact v_X5_feed_0  hd hF ⟨rfl, rfl⟩
abbrev mX5_end : MI := (yX5_end, cX5_end, 3, (some .int))
theorem okX5_end : OKV mX5_end 1 := ⟨gw_322, gw_323, gw_58, gw_324, (by decide +kernel), (by decide)⟩
def f_X5_end (x1 : Int) (M : Mem) : Option (Int × Mem) :=
  (f_X5_within x1 0 (M 1 1) M).bind fun v1 =>
  if wr v1 = 0 then
    some ((-1), M)
  else
    (some (st M 1 1 x1)).bind fun M2 =>
    some (M 1 1, M2)
set_option maxRecDepth 10000 in
theorem v_X5_end_0 {E : En} {d : Nat} {Q : Po} {x1 : Int} {M : Mem} {z : Int × Mem}  (hd : 2 ≤ d) (hF : f_X5_end x1 M = some z) (hK : Q (some (vi z.1)) z.2) : V E mX5_end d 0 [(0, rf E 0), (1, vi x1)] [] M Q := by
  unfold f_X5_end at hF
  refine V.iload_n 1 1 1 rfl dX5_end_0 rfl ?_
  refine V.iconst 0 dX5_end_1 ?_
  refine V.aload_n 0 0 0 rfl dX5_end_2 rfl ?_
  refine V.get (by decide) (hcX5 E _) rfl inX5 0 (by decide) rfl gw_282 dX5_end_3 ?_
  refine V.get (by decide) (hcX3 E _) rfl inX3 1 (by decide) rfl gw_89 dX5_end_6 ?_
  replace hF := Option.bind_eq_some_iff.mp hF
  obtain ⟨v1, hv1, hF⟩ := hF
  refine V.callS (d' := d - 1) [vi x1, vi 0, vi (M 1 1)] [] (c_X5_within (by omega) hv1) okX5_within gw_314 rfl rfl (Nat.le_of_ble_eq_true rfl) (by omega) dX5_end_9 ?_
  rintro _ _ ⟨rfl, rfl⟩
  show V E mX5_end d 12 [(0, rf E 0), (1, vi x1)] [vi v1] M _
  refine V.if_ne (tgt := 17) rfl dX5_end_12 (by decide) (fun hc => ?_) (fun hc => ?_)
  · rw [if_neg hc] at hF
    refine V.aload_n 0 0 0 rfl dX5_end_17 rfl ?_
    refine V.get (by decide) (hcX5 E _) rfl inX5 0 (by decide) rfl gw_282 dX5_end_18 ?_
    refine V.get (by decide) (hcX3 E _) rfl inX3 1 (by decide) rfl gw_89 dX5_end_21 ?_
    refine V.istore_n 2 2 [(2, vi (M 1 1)), (0, rf E 0), (1, vi x1)] rfl dX5_end_24 (by decide) rfl ?_
    refine V.aload_n 0 0 1 rfl dX5_end_25 rfl ?_
    refine V.get (by decide) (hcX5 E _) rfl inX5 0 (by decide) rfl gw_282 dX5_end_26 ?_
    refine V.iload_n 1 1 2 rfl dX5_end_29 rfl ?_
    replace hF := Option.bind_eq_some_iff.mp hF
    obtain ⟨M2, hM2, hF⟩ := hF
    refine V.put (x := x1) (ty := .int) (Option.some.inj hM2) (by decide) (hcX3 E) rfl inX3 tyX3 tyX3_ok nmX3 (by decide) rfl (by decide +kernel) rfl rfl (Nat.le_of_ble_eq_true rfl) rfl gw_89 dX5_end_30 ?_
    refine V.iload_n 2 2 0 rfl dX5_end_33 rfl ?_
    cases Option.some.inj hF
    exact V.iret rfl dX5_end_34 hK
  · rw [if_pos hc] at hF
    refine V.iconst (-1) dX5_end_15 ?_
    cases Option.some.inj hF
    exact V.iret rfl dX5_end_16 hK
theorem c_X5_end {E : En} {d : Nat} {x1 : Int} {M : Mem} {zr : Int} {zM : Mem}  (hd : 2 ≤ d) (hF : f_X5_end x1 M = some (zr, zM)) : Cn E mX5_end d [rf E 0, vi x1] M (fun v N => v = some (vi zr) ∧ zM = N) := by
  refine V.entry (by decide +kernel) (Nat.le_of_ble_eq_true rfl) ?_
  exact v_X5_end_0  hd hF ⟨rfl, rfl⟩
abbrev mX5_text : MI := (yX5_text, cX5_text, 3, (some .int))
theorem okX5_text : OKV mX5_text 0 := ⟨gw_326, gw_327, gw_58, gw_328, (by decide +kernel), (by decide)⟩
def f_X5_text_93 (n : Nat) (x1 : Int) (x2 : Int) (M : Mem) : Option ((Int × Mem) ⊕ (Int × Mem)) :=
  if 2 ≤ wr x2 then
    some (.inr (x1, M))
  else
    (wt M 26 2 x2 0).bind fun M1 =>
    some (.inl (x2 + 1, M1))
set_option maxRecDepth 10000 in
theorem v_X5_text_93 {E : En} {d : Nat} {Q : Po} {n : Nat} {x1 : Int} {x2 : Int} {M : Mem} {z : (Int × Mem) ⊕ (Int × Mem)}  (hd : 11 ≤ d) (hF : f_X5_text_93 n x1 x2 M = some z) (hC0 : ∀ s' : Int × Mem, z = (.inl s') → V E mX5_text d 93 [(0, rf E 0), (1, vi x1), (2, vi (s'.1))] [] s'.2 Q) (hX : ∀ z0 : Int × Mem, z = (.inr z0) → Q (some (vi z0.1)) z0.2) : V E mX5_text d 93 [(0, rf E 0), (1, vi x1), (2, vi x2)] [] M Q := by
  unfold f_X5_text_93 at hF
  refine V.iload_n 2 2 2 rfl dX5_text_93 rfl ?_
  refine V.iconst 2 dX5_text_94 ?_
  refine V.icmp_ge (tgt := 111) rfl wr_2 dX5_text_95 (by decide) (fun hc => ?_) (fun hc => ?_)
  · rw [if_pos hc] at hF
    refine V.iload_n 1 1 1 rfl dX5_text_111 rfl ?_
    cases Option.some.inj hF
    exact V.iret rfl dX5_text_112 (hX _ rfl)
  · rw [if_neg hc] at hF
    refine V.aload_n 0 0 0 rfl dX5_text_98 rfl ?_
    refine V.get (by decide) (hcX5 E _) rfl inX5 6 (by decide) rfl gw_288 dX5_text_99 ?_
    refine V.iload_n 2 2 2 rfl dX5_text_102 rfl ?_
    refine V.iconst 0 dX5_text_103 ?_
    replace hF := Option.bind_eq_some_iff.mp hF
    obtain ⟨M1, hM1, hF⟩ := hF
    refine V.zast ar_26 (Or.inl rfl) hM1 dX5_text_104 ?_
    refine V.iinc 2 2 1 [(2, vi (x2 + 1)), (0, rf E 0), (1, vi x1)] dX5_text_105 rfl (by decide) rfl ?_
    refine V.goto (tgt := 93) dX5_text_108 (by decide) ?_
    cases Option.some.inj hF
    refine V.sub _ [1, 2, 0] rfl ?_
    exact hC0 _ rfl
theorem l_X5_text_93 {E : En} {d : Nat} {Q : Po} {n : Nat} {x1 : Int} {k : Nat} {s : Int × Mem} {z : Int × Mem}  (hd : 11 ≤ d) (hF : lp (fun s => f_X5_text_93 n x1 s.1 s.2) k s = some z) (hK : Q (some (vi z.1)) z.2) : V E mX5_text d 93 [(0, rf E 0), (1, vi x1), (2, vi s.1)] [] s.2 Q := by
  refine lp_ind (P := fun s => V E mX5_text d 93 [(0, rf E 0), (1, vi x1), (2, vi s.1)] [] s.2 Q) (z0 := z) ?_ k s hF
  intro s z' hF hc hx
  exact v_X5_text_93 hd hF (fun s' e => hc s' e) (fun z0 e => by rw [hx _ e]; exact hK)
def f_X5_text_43 (n : Nat) (x1 : Int) (M : Mem) : Option (Int × Mem) :=
  (some (st M 1 1 0)).bind fun M1 =>
  if wr (M1 1 2) = 0 then
    (f_X2_copy 3 8 M1).bind fun M2 =>
    (some (st M2 22 2 0)).bind fun M3 =>
    lp (fun s => f_X5_text_93 n x1 s.1 s.2) n (0, M3)
  else
    some ((-10) - (M1 1 3), M1)
set_option maxRecDepth 10000 in
theorem v_X5_text_43 {E : En} {d : Nat} {Q : Po} {n : Nat} {x1 : Int} {M : Mem} {z : Int × Mem}  (hd : 11 ≤ d) (hF : f_X5_text_43 n x1 M = some z) (hK : Q (some (vi z.1)) z.2) : V E mX5_text d 43 [(0, rf E 0), (1, vi x1)] [] M Q := by
  unfold f_X5_text_43 at hF
  refine V.aload_n 0 0 0 rfl dX5_text_43 rfl ?_
  refine V.get (by decide) (hcX5 E _) rfl inX5 0 (by decide) rfl gw_282 dX5_text_44 ?_
  refine V.iconst 0 dX5_text_47 ?_
  replace hF := Option.bind_eq_some_iff.mp hF
  obtain ⟨M1, hM1, hF⟩ := hF
  refine V.put (x := 0) (ty := .int) (Option.some.inj hM1) (by decide) (hcX3 E) rfl inX3 tyX3 tyX3_ok nmX3 (by decide) rfl (by decide +kernel) rfl rfl (Nat.le_of_ble_eq_true rfl) rfl gw_89 dX5_text_48 ?_
  refine V.aload_n 0 0 0 rfl dX5_text_51 rfl ?_
  refine V.get (by decide) (hcX5 E _) rfl inX5 0 (by decide) rfl gw_282 dX5_text_52 ?_
  refine V.get (by decide) (hcX3 E _) rfl inX3 2 (by decide) rfl gw_91 dX5_text_55 ?_
  refine V.if_eq (tgt := 72) rfl dX5_text_58 (by decide) (fun hc => ?_) (fun hc => ?_)
  · rw [if_pos hc] at hF
    refine V.aload_n 0 0 0 rfl dX5_text_72 rfl ?_
    refine V.get (by decide) (hcX5 E _) rfl inX5 1 (by decide) rfl gw_283 dX5_text_73 ?_
    refine V.aload_n 0 0 0 rfl dX5_text_76 rfl ?_
    refine V.get (by decide) (hcX5 E _) rfl inX5 2 (by decide) rfl gw_284 dX5_text_77 ?_
    replace hF := Option.bind_eq_some_iff.mp hF
    obtain ⟨M2, hM2, hF⟩ := hF
    refine V.callV (d' := d - 1) [rf E 8] [] (c_X2_copy is_3 is_8 (by omega) hM2) okX2_copy gw_483 rfl rfl (ltX2 is_3) (hcX2 is_3 E _) rfl (Nat.le_of_ble_eq_true rfl) (by omega) dX5_text_80 ?_
    rintro _ _ ⟨rfl, rfl⟩
    show V E mX5_text d 83 [(0, rf E 0), (1, vi x1)] [] M2 _
    refine V.aload_n 0 0 0 rfl dX5_text_83 rfl ?_
    refine V.get (by decide) (hcX5 E _) rfl inX5 4 (by decide) rfl gw_286 dX5_text_84 ?_
    refine V.iconst 0 dX5_text_87 ?_
    replace hF := Option.bind_eq_some_iff.mp hF
    obtain ⟨M3, hM3, hF⟩ := hF
    refine V.put (x := 0) (ty := .int) (Option.some.inj hM3) (by decide) (hcX0 E) rfl inX0 tyX0 tyX0_ok nmX0 (by decide) rfl (by decide +kernel) rfl rfl (Nat.le_of_ble_eq_true rfl) rfl gw_253 dX5_text_88 ?_
    refine V.iconst 0 dX5_text_91 ?_
    refine V.istore_n 2 2 [(2, vi 0), (0, rf E 0), (1, vi x1)] rfl dX5_text_92 (by decide) rfl ?_
    refine V.sub _ [1, 2, 0] rfl ?_
    exact l_X5_text_93 hd hF hK
  · rw [if_neg hc] at hF
    refine V.bipush (-10) (-10) (by decide) dX5_text_61 ?_
    refine V.aload_n 0 0 0 rfl dX5_text_63 rfl ?_
    refine V.get (by decide) (hcX5 E _) rfl inX5 0 (by decide) rfl gw_282 dX5_text_64 ?_
    refine V.get (by decide) (hcX3 E _) rfl inX3 3 (by decide) rfl gw_93 dX5_text_67 ?_
    refine V.isub dX5_text_70 ?_
    cases Option.some.inj hF
    exact V.iret rfl dX5_text_71 hK
def f_X5_text_13 (n : Nat) (x1 : Int) (M : Mem) : Option ((Int × Mem) ⊕ (Int × Mem)) :=
  if 160 ≤ wr x1 then
    (f_X5_text_43 n x1 M).map Sum.inr
  else
    (f_X3_findsLine n M).bind fun (v1, M2) =>
    if wr v1 = 0 then
      (f_X5_text_43 n x1 M2).map Sum.inr
    else
      (f_X3_takeLine n M2).bind fun M3 =>
      some (.inl (x1 + 1, M3))
set_option maxRecDepth 10000 in
theorem v_X5_text_13 {E : En} {d : Nat} {Q : Po} {n : Nat} {x1 : Int} {M : Mem} {z : (Int × Mem) ⊕ (Int × Mem)}  (hd : 11 ≤ d) (hF : f_X5_text_13 n x1 M = some z) (hC0 : ∀ s' : Int × Mem, z = (.inl s') → V E mX5_text d 13 [(0, rf E 0), (1, vi (s'.1))] [] s'.2 Q) (hX : ∀ z0 : Int × Mem, z = (.inr z0) → Q (some (vi z0.1)) z0.2) : V E mX5_text d 13 [(0, rf E 0), (1, vi x1)] [] M Q := by
  unfold f_X5_text_13 at hF
  refine V.iload_n 1 1 1 rfl dX5_text_13 rfl ?_
  refine V.sipush 160 160 (by decide) dX5_text_14 ?_
  refine V.icmp_ge (tgt := 43) rfl wr_160 dX5_text_17 (by decide) (fun hc => ?_) (fun hc => ?_)
  · rw [if_pos hc] at hF
    replace hF := Option.map_eq_some_iff.mp hF
    obtain ⟨z0, hF, rfl⟩ := hF
    exact v_X5_text_43 hd hF (hX _ rfl)
  · rw [if_neg hc] at hF
    refine V.aload_n 0 0 0 rfl dX5_text_20 rfl ?_
    refine V.get (by decide) (hcX5 E _) rfl inX5 0 (by decide) rfl gw_282 dX5_text_21 ?_
    replace hF := Option.bind_eq_some_iff.mp hF
    obtain ⟨⟨v1, M2⟩, hv1, hF⟩ := hF
    dsimp only at hF
    refine V.callV (d' := d - 1) [] [] (c_X3_findsLine (by omega) hv1) okX3_findsLine gw_334 rfl rfl (by decide) (hcX3 E _) rfl (Nat.le_of_ble_eq_true rfl) (by omega) dX5_text_24 ?_
    rintro _ _ ⟨rfl, rfl⟩
    show V E mX5_text d 27 [(0, rf E 0), (1, vi x1)] [vi v1] M2 _
    refine V.if_eq (tgt := 43) rfl dX5_text_27 (by decide) (fun hc => ?_) (fun hc => ?_)
    · rw [if_pos hc] at hF
      replace hF := Option.map_eq_some_iff.mp hF
      obtain ⟨z0, hF, rfl⟩ := hF
      exact v_X5_text_43 hd hF (hX _ rfl)
    · rw [if_neg hc] at hF
      refine V.aload_n 0 0 0 rfl dX5_text_30 rfl ?_
      refine V.get (by decide) (hcX5 E _) rfl inX5 0 (by decide) rfl gw_282 dX5_text_31 ?_
      replace hF := Option.bind_eq_some_iff.mp hF
      obtain ⟨M3, hM3, hF⟩ := hF
      refine V.callV (d' := d - 1) [] [] (c_X3_takeLine (by omega) hM3) okX3_takeLine gw_360 rfl rfl (by decide) (hcX3 E _) rfl (Nat.le_of_ble_eq_true rfl) (by omega) dX5_text_34 ?_
      rintro _ _ ⟨rfl, rfl⟩
      show V E mX5_text d 37 [(0, rf E 0), (1, vi x1)] [] M3 _
      refine V.iinc 1 1 1 [(1, vi (x1 + 1)), (0, rf E 0)] dX5_text_37 rfl (by decide) rfl ?_
      refine V.goto (tgt := 13) dX5_text_40 (by decide) ?_
      cases Option.some.inj hF
      refine V.sub _ [1, 0] rfl ?_
      exact hC0 _ rfl
theorem l_X5_text_13 {E : En} {d : Nat} {Q : Po} {n : Nat} {k : Nat} {s : Int × Mem} {z : Int × Mem}  (hd : 11 ≤ d) (hF : lp (fun s => f_X5_text_13 n s.1 s.2) k s = some z) (hK : Q (some (vi z.1)) z.2) : V E mX5_text d 13 [(0, rf E 0), (1, vi s.1)] [] s.2 Q := by
  refine lp_ind (P := fun s => V E mX5_text d 13 [(0, rf E 0), (1, vi s.1)] [] s.2 Q) (z0 := z) ?_ k s hF
  intro s z' hF hc hx
  exact v_X5_text_13 hd hF (fun s' e => hc s' e) (fun z0 e => by rw [hx _ e]; exact hK)
def f_X5_text (n : Nat) (M : Mem) : Option (Int × Mem) :=
  (f_X3_begin 8 M).bind fun M1 =>
  lp (fun s => f_X5_text_13 n s.1 s.2) n (0, M1)
set_option maxRecDepth 10000 in
theorem v_X5_text_0 {E : En} {d : Nat} {Q : Po} {n : Nat} {M : Mem} {z : Int × Mem}  (hd : 11 ≤ d) (hF : f_X5_text n M = some z) (hK : Q (some (vi z.1)) z.2) : V E mX5_text d 0 [(0, rf E 0)] [] M Q := by
  unfold f_X5_text at hF
  refine V.aload_n 0 0 0 rfl dX5_text_0 rfl ?_
  refine V.get (by decide) (hcX5 E _) rfl inX5 0 (by decide) rfl gw_282 dX5_text_1 ?_
  refine V.aload_n 0 0 0 rfl dX5_text_4 rfl ?_
  refine V.get (by decide) (hcX5 E _) rfl inX5 2 (by decide) rfl gw_284 dX5_text_5 ?_
  replace hF := Option.bind_eq_some_iff.mp hF
  obtain ⟨M1, hM1, hF⟩ := hF
  refine V.callV (d' := d - 1) [rf E 8] [] (c_X3_begin is_8 (by omega) hM1) okX3_begin gw_329 rfl rfl (by decide) (hcX3 E _) rfl (Nat.le_of_ble_eq_true rfl) (by omega) dX5_text_8 ?_
  rintro _ _ ⟨rfl, rfl⟩
  show V E mX5_text d 11 [(0, rf E 0)] [] M1 _
  refine V.iconst 0 dX5_text_11 ?_
  refine V.istore_n 1 1 [(1, vi 0), (0, rf E 0)] rfl dX5_text_12 (by decide) rfl ?_
  refine V.sub _ [1, 0] rfl ?_
  exact l_X5_text_13 hd hF hK
theorem c_X5_text {E : En} {d : Nat} {n : Nat} {M : Mem} {zr : Int} {zM : Mem}  (hd : 11 ≤ d) (hF : f_X5_text n M = some (zr, zM)) : Cn E mX5_text d [rf E 0] M (fun v N => v = some (vi zr) ∧ zM = N) := by
  refine V.entry (by decide +kernel) (Nat.le_of_ble_eq_true rfl) ?_
  exact v_X5_text_0  hd hF ⟨rfl, rfl⟩
abbrev mX5_isLand : MI := (yX5_isLand, cX5_isLand, 2, (some .boolean))
theorem okX5_isLand : OKV mX5_isLand 1 := ⟨gw_505, gw_15, gw_58, gw_506, (by decide +kernel), (by decide)⟩
def f_X5_isLand (x1 : Int) (M : Mem) : Option (Int) :=
  (f_X5_within x1 0 ((M 3 4) - 1) M).bind fun v1 =>
  (bz v1).bind fun v2 =>
  some v2
set_option maxRecDepth 10000 in
theorem v_X5_isLand_0 {E : En} {d : Nat} {Q : Po} {x1 : Int} {M : Mem} {z : Int}  (hd : 2 ≤ d) (hF : f_X5_isLand x1 M = some z) (hK : Q (some (vi z)) M) : V E mX5_isLand d 0 [(0, rf E 0), (1, vi x1)] [] M Q := by
  unfold f_X5_isLand at hF
  refine V.iload_n 1 1 1 rfl dX5_isLand_0 rfl ?_
  refine V.iconst 0 dX5_isLand_1 ?_
  refine V.aload_n 0 0 0 rfl dX5_isLand_2 rfl ?_
  refine V.get (by decide) (hcX5 E _) rfl inX5 1 (by decide) rfl gw_283 dX5_isLand_3 ?_
  refine V.get (ltX2 is_3) (hcX2 is_3 E _) rfl inX2 4 (by decide) rfl gw_142 dX5_isLand_6 ?_
  refine V.iconst 1 dX5_isLand_9 ?_
  refine V.isub dX5_isLand_10 ?_
  replace hF := Option.bind_eq_some_iff.mp hF
  obtain ⟨v1, hv1, hF⟩ := hF
  refine V.callS (d' := d - 1) [vi x1, vi 0, vi ((M 3 4) - 1)] [] (c_X5_within (by omega) hv1) okX5_within gw_314 rfl rfl (Nat.le_of_ble_eq_true rfl) (by omega) dX5_isLand_11 ?_
  rintro _ _ ⟨rfl, rfl⟩
  show V E mX5_isLand d 14 [(0, rf E 0), (1, vi x1)] [vi v1] M _
  replace hF := Option.bind_eq_some_iff.mp hF
  obtain ⟨v2, hv2, hF⟩ := hF
  obtain ⟨hzv2, rfl⟩ := bz_some hv2
  cases Option.some.inj hF
  exact V.zret rfl hzv2 dX5_isLand_14 hK
theorem c_X5_isLand {E : En} {d : Nat} {x1 : Int} {M : Mem} {z : Int}  (hd : 2 ≤ d) (hF : f_X5_isLand x1 M = some z) : Cn E mX5_isLand d [rf E 0, vi x1] M (fun v N => v = some (vi z) ∧ M = N) := by
  refine V.entry (by decide +kernel) (Nat.le_of_ble_eq_true rfl) ?_
  exact v_X5_isLand_0  hd hF ⟨rfl, rfl⟩
abbrev mX5_land : MI := (yX5_land, cX5_land, 3, (some .int))
theorem okX5_land : OKV mX5_land 2 := ⟨gw_500, gw_501, gw_58, gw_502, (by decide +kernel), (by decide)⟩
def f_X5_land (x1 : Int) (x2 : Int) (M : Mem) : Option (Int) :=
  (f_X5_isLand x1 M).bind fun v1 =>
  if wr v1 = 0 then
    some (-1)
  else
    (f_X5_isFlag x2 M).bind fun v2 =>
    if wr v2 = 0 then
      some (-1)
    else
      (f_X2_yields 3 x2 M).bind fun v3 =>
      (rd M v3 4 x1).bind fun v4 =>
      some v4
set_option maxRecDepth 10000 in
theorem v_X5_land_0 {E : En} {d : Nat} {Q : Po} {x1 : Int} {x2 : Int} {M : Mem} {z : Int}  (hd : 3 ≤ d) (hF : f_X5_land x1 x2 M = some z) (hK : Q (some (vi z)) M) : V E mX5_land d 0 [(0, rf E 0), (1, vi x1), (2, vi x2)] [] M Q := by
  unfold f_X5_land at hF
  refine V.aload_n 0 0 0 rfl dX5_land_0 rfl ?_
  refine V.iload_n 1 1 1 rfl dX5_land_1 rfl ?_
  replace hF := Option.bind_eq_some_iff.mp hF
  obtain ⟨v1, hv1, hF⟩ := hF
  refine V.callV (d' := d - 1) [vi x1] [] (c_X5_isLand (by omega) hv1) okX5_isLand gw_503 rfl rfl (by decide) (hcX5 E _) rfl (Nat.le_of_ble_eq_true rfl) (by omega) dX5_land_2 ?_
  rintro _ _ ⟨rfl, rfl⟩
  show V E mX5_land d 5 [(0, rf E 0), (1, vi x1), (2, vi x2)] [vi v1] M _
  refine V.if_eq (tgt := 15) rfl dX5_land_5 (by decide) (fun hc => ?_) (fun hc => ?_)
  · rw [if_pos hc] at hF
    refine V.iconst (-1) dX5_land_15 ?_
    cases Option.some.inj hF
    exact V.iret rfl dX5_land_16 hK
  · rw [if_neg hc] at hF
    refine V.iload_n 2 2 2 rfl dX5_land_8 rfl ?_
    replace hF := Option.bind_eq_some_iff.mp hF
    obtain ⟨v2, hv2, hF⟩ := hF
    refine V.callS (d' := d - 1) [vi x2] [] (c_X5_isFlag (by omega) hv2) okX5_isFlag gw_507 rfl rfl (Nat.le_of_ble_eq_true rfl) (by omega) dX5_land_9 ?_
    rintro _ _ ⟨rfl, rfl⟩
    show V E mX5_land d 12 [(0, rf E 0), (1, vi x1), (2, vi x2)] [vi v2] M _
    refine V.if_ne (tgt := 17) rfl dX5_land_12 (by decide) (fun hc => ?_) (fun hc => ?_)
    · rw [if_neg hc] at hF
      refine V.aload_n 0 0 0 rfl dX5_land_17 rfl ?_
      refine V.get (by decide) (hcX5 E _) rfl inX5 1 (by decide) rfl gw_283 dX5_land_18 ?_
      refine V.iload_n 2 2 2 rfl dX5_land_21 rfl ?_
      replace hF := Option.bind_eq_some_iff.mp hF
      obtain ⟨v3, hv3, hF⟩ := hF
      refine V.callV (d' := d - 1) [vi x2] [] (c_X2_yields is_3 (by omega) hv3) okX2_yields gw_510 rfl rfl (ltX2 is_3) (hcX2 is_3 E _) rfl (Nat.le_of_ble_eq_true rfl) (by omega) dX5_land_22 ?_
      rintro _ _ ⟨rfl, rfl⟩
      show V E mX5_land d 25 [(0, rf E 0), (1, vi x1), (2, vi x2)] [rf E v3] M _
      refine V.iload_n 1 1 1 rfl dX5_land_25 rfl ?_
      replace hF := Option.bind_eq_some_iff.mp hF
      obtain ⟨v4, hv4, hF⟩ := hF
      refine V.iald (yl_X2_yields is_3 hv3) hv4 dX5_land_26 ?_
      cases Option.some.inj hF
      exact V.iret rfl dX5_land_27 hK
    · rw [if_pos hc] at hF
      refine V.iconst (-1) dX5_land_15 ?_
      cases Option.some.inj hF
      exact V.iret rfl dX5_land_16 hK
theorem c_X5_land {E : En} {d : Nat} {x1 : Int} {x2 : Int} {M : Mem} {z : Int}  (hd : 3 ≤ d) (hF : f_X5_land x1 x2 M = some z) : Cn E mX5_land d [rf E 0, vi x1, vi x2] M (fun v N => v = some (vi z) ∧ M = N) := by
  refine V.entry (by decide +kernel) (Nat.le_of_ble_eq_true rfl) ?_
  exact v_X5_land_0  hd hF ⟨rfl, rfl⟩
abbrev mX5_isReading : MI := (yX5_isReading, cX5_isReading, 2, (some .boolean))
theorem okX5_isReading : OKV mX5_isReading 1 := ⟨gw_520, gw_16, gw_58, gw_521, (by decide +kernel), (by decide)⟩
def f_X5_isReading (x1 : Int) (M : Mem) : Option (Int) :=
  (f_X5_within x1 0 ((M 3 5) - 1) M).bind fun v1 =>
  (bz v1).bind fun v2 =>
  some v2
set_option maxRecDepth 10000 in
theorem v_X5_isReading_0 {E : En} {d : Nat} {Q : Po} {x1 : Int} {M : Mem} {z : Int}  (hd : 2 ≤ d) (hF : f_X5_isReading x1 M = some z) (hK : Q (some (vi z)) M) : V E mX5_isReading d 0 [(0, rf E 0), (1, vi x1)] [] M Q := by
  unfold f_X5_isReading at hF
  refine V.iload_n 1 1 1 rfl dX5_isReading_0 rfl ?_
  refine V.iconst 0 dX5_isReading_1 ?_
  refine V.aload_n 0 0 0 rfl dX5_isReading_2 rfl ?_
  refine V.get (by decide) (hcX5 E _) rfl inX5 1 (by decide) rfl gw_283 dX5_isReading_3 ?_
  refine V.get (ltX2 is_3) (hcX2 is_3 E _) rfl inX2 5 (by decide) rfl gw_145 dX5_isReading_6 ?_
  refine V.iconst 1 dX5_isReading_9 ?_
  refine V.isub dX5_isReading_10 ?_
  replace hF := Option.bind_eq_some_iff.mp hF
  obtain ⟨v1, hv1, hF⟩ := hF
  refine V.callS (d' := d - 1) [vi x1, vi 0, vi ((M 3 5) - 1)] [] (c_X5_within (by omega) hv1) okX5_within gw_314 rfl rfl (Nat.le_of_ble_eq_true rfl) (by omega) dX5_isReading_11 ?_
  rintro _ _ ⟨rfl, rfl⟩
  show V E mX5_isReading d 14 [(0, rf E 0), (1, vi x1)] [vi v1] M _
  replace hF := Option.bind_eq_some_iff.mp hF
  obtain ⟨v2, hv2, hF⟩ := hF
  obtain ⟨hzv2, rfl⟩ := bz_some hv2
  cases Option.some.inj hF
  exact V.zret rfl hzv2 dX5_isReading_14 hK
theorem c_X5_isReading {E : En} {d : Nat} {x1 : Int} {M : Mem} {z : Int}  (hd : 2 ≤ d) (hF : f_X5_isReading x1 M = some z) : Cn E mX5_isReading d [rf E 0, vi x1] M (fun v N => v = some (vi z) ∧ M = N) := by
  refine V.entry (by decide +kernel) (Nat.le_of_ble_eq_true rfl) ?_
  exact v_X5_isReading_0  hd hF ⟨rfl, rfl⟩
abbrev mX5_reading : MI := (yX5_reading, cX5_reading, 3, (some .int))
theorem okX5_reading : OKV mX5_reading 2 := ⟨gw_515, gw_516, gw_58, gw_517, (by decide +kernel), (by decide)⟩
def f_X5_reading (x1 : Int) (x2 : Int) (M : Mem) : Option (Int) :=
  (f_X5_isReading x1 M).bind fun v1 =>
  if wr v1 = 0 then
    some (-1)
  else
    if wr x2 = 0 then
      (rd M 7 4 x1).bind fun v5 =>
      some v5
    else
      if wr x2 = 1 then
        (f_X2_canBe 3 x1 M).bind fun v4 =>
        if wr v4 = 0 then
          some 0
        else
          some 1
      else
        (f_X5_within x2 10 17 M).bind fun v2 =>
        if wr v2 = 0 then
          some (-1)
        else
          (f_X2_fatIn 3 x1 (x2 - 10) M).bind fun v3 =>
          some v3
set_option maxRecDepth 10000 in
theorem v_X5_reading_0 {E : En} {d : Nat} {Q : Po} {x1 : Int} {x2 : Int} {M : Mem} {z : Int}  (hd : 3 ≤ d) (hF : f_X5_reading x1 x2 M = some z) (hK : Q (some (vi z)) M) : V E mX5_reading d 0 [(0, rf E 0), (1, vi x1), (2, vi x2)] [] M Q := by
  unfold f_X5_reading at hF
  refine V.aload_n 0 0 0 rfl dX5_reading_0 rfl ?_
  refine V.iload_n 1 1 1 rfl dX5_reading_1 rfl ?_
  replace hF := Option.bind_eq_some_iff.mp hF
  obtain ⟨v1, hv1, hF⟩ := hF
  refine V.callV (d' := d - 1) [vi x1] [] (c_X5_isReading (by omega) hv1) okX5_isReading gw_518 rfl rfl (by decide) (hcX5 E _) rfl (Nat.le_of_ble_eq_true rfl) (by omega) dX5_reading_2 ?_
  rintro _ _ ⟨rfl, rfl⟩
  show V E mX5_reading d 5 [(0, rf E 0), (1, vi x1), (2, vi x2)] [vi v1] M _
  refine V.if_ne (tgt := 10) rfl dX5_reading_5 (by decide) (fun hc => ?_) (fun hc => ?_)
  · rw [if_neg hc] at hF
    refine V.iload_n 2 2 2 rfl dX5_reading_10 rfl ?_
    refine V.if_ne (tgt := 24) rfl dX5_reading_11 (by decide) (fun hc => ?_) (fun hc => ?_)
    · rw [if_neg hc] at hF
      refine V.iload_n 2 2 2 rfl dX5_reading_24 rfl ?_
      refine V.iconst 1 dX5_reading_25 ?_
      refine V.icmp_ne (tgt := 46) rfl wr_1 dX5_reading_26 (by decide) (fun hc => ?_) (fun hc => ?_)
      · rw [if_neg hc] at hF
        refine V.iload_n 2 2 2 rfl dX5_reading_46 rfl ?_
        refine V.bipush 10 10 (by decide) dX5_reading_47 ?_
        refine V.bipush 17 17 (by decide) dX5_reading_49 ?_
        replace hF := Option.bind_eq_some_iff.mp hF
        obtain ⟨v2, hv2, hF⟩ := hF
        refine V.callS (d' := d - 1) [vi x2, vi 10, vi 17] [] (c_X5_within (by omega) hv2) okX5_within gw_314 rfl rfl (Nat.le_of_ble_eq_true rfl) (by omega) dX5_reading_51 ?_
        rintro _ _ ⟨rfl, rfl⟩
        show V E mX5_reading d 54 [(0, rf E 0), (1, vi x1), (2, vi x2)] [vi v2] M _
        refine V.if_eq (tgt := 72) rfl dX5_reading_54 (by decide) (fun hc => ?_) (fun hc => ?_)
        · rw [if_pos hc] at hF
          refine V.iconst (-1) dX5_reading_72 ?_
          cases Option.some.inj hF
          exact V.iret rfl dX5_reading_73 hK
        · rw [if_neg hc] at hF
          refine V.aload_n 0 0 0 rfl dX5_reading_57 rfl ?_
          refine V.get (by decide) (hcX5 E _) rfl inX5 1 (by decide) rfl gw_283 dX5_reading_58 ?_
          refine V.iload_n 1 1 1 rfl dX5_reading_61 rfl ?_
          refine V.iload_n 2 2 2 rfl dX5_reading_62 rfl ?_
          refine V.bipush 10 10 (by decide) dX5_reading_63 ?_
          refine V.isub dX5_reading_65 ?_
          replace hF := Option.bind_eq_some_iff.mp hF
          obtain ⟨v3, hv3, hF⟩ := hF
          refine V.callV (d' := d - 1) [vi x1, vi (x2 - 10)] [] (c_X2_fatIn is_3 (by omega) hv3) okX2_fatIn gw_526 rfl rfl (ltX2 is_3) (hcX2 is_3 E _) rfl (Nat.le_of_ble_eq_true rfl) (by omega) dX5_reading_66 ?_
          rintro _ _ ⟨rfl, rfl⟩
          show V E mX5_reading d 69 [(0, rf E 0), (1, vi x1), (2, vi x2)] [vi v3] M _
          refine V.goto (tgt := 73) dX5_reading_69 (by decide) ?_
          cases Option.some.inj hF
          exact V.iret rfl dX5_reading_73 hK
      · rw [if_pos hc] at hF
        refine V.aload_n 0 0 0 rfl dX5_reading_29 rfl ?_
        refine V.get (by decide) (hcX5 E _) rfl inX5 1 (by decide) rfl gw_283 dX5_reading_30 ?_
        refine V.iload_n 1 1 1 rfl dX5_reading_33 rfl ?_
        replace hF := Option.bind_eq_some_iff.mp hF
        obtain ⟨v4, hv4, hF⟩ := hF
        refine V.callV (d' := d - 1) [vi x1] [] (c_X2_canBe is_3 (by omega) hv4) okX2_canBe gw_522 rfl rfl (ltX2 is_3) (hcX2 is_3 E _) rfl (Nat.le_of_ble_eq_true rfl) (by omega) dX5_reading_34 ?_
        rintro _ _ ⟨rfl, rfl⟩
        show V E mX5_reading d 37 [(0, rf E 0), (1, vi x1), (2, vi x2)] [vi v4] M _
        refine V.if_eq (tgt := 44) rfl dX5_reading_37 (by decide) (fun hc => ?_) (fun hc => ?_)
        · rw [if_pos hc] at hF
          refine V.iconst 0 dX5_reading_44 ?_
          cases Option.some.inj hF
          exact V.iret rfl dX5_reading_45 hK
        · rw [if_neg hc] at hF
          refine V.iconst 1 dX5_reading_40 ?_
          refine V.goto (tgt := 45) dX5_reading_41 (by decide) ?_
          cases Option.some.inj hF
          exact V.iret rfl dX5_reading_45 hK
    · rw [if_pos hc] at hF
      refine V.aload_n 0 0 0 rfl dX5_reading_14 rfl ?_
      refine V.get (by decide) (hcX5 E _) rfl inX5 1 (by decide) rfl gw_283 dX5_reading_15 ?_
      refine V.get (ltX2 is_3) (hcX2 is_3 E _) rfl inX2 3 (by decide) rfl gw_140 dX5_reading_18 ?_
      refine V.iload_n 1 1 1 rfl dX5_reading_21 rfl ?_
      replace hF := Option.bind_eq_some_iff.mp hF
      obtain ⟨v5, hv5, hF⟩ := hF
      refine V.iald ar_7 hv5 dX5_reading_22 ?_
      cases Option.some.inj hF
      exact V.iret rfl dX5_reading_23 hK
  · rw [if_pos hc] at hF
    refine V.iconst (-1) dX5_reading_8 ?_
    cases Option.some.inj hF
    exact V.iret rfl dX5_reading_9 hK
theorem c_X5_reading {E : En} {d : Nat} {x1 : Int} {x2 : Int} {M : Mem} {z : Int}  (hd : 3 ≤ d) (hF : f_X5_reading x1 x2 M = some z) : Cn E mX5_reading d [rf E 0, vi x1, vi x2] M (fun v N => v = some (vi z) ∧ M = N) := by
  refine V.entry (by decide +kernel) (Nat.le_of_ble_eq_true rfl) ?_
  exact v_X5_reading_0  hd hF ⟨rfl, rfl⟩
abbrev mX5_bears : MI := (yX5_bears, cX5_bears, 2, (some .int))
theorem okX5_bears : OKV mX5_bears 1 := ⟨gw_531, gw_532, gw_58, gw_533, (by decide +kernel), (by decide)⟩
def f_X5_bears (n : Nat) (x1 : Int) (M : Mem) : Option (Int) :=
  (f_X5_isFlag x1 M).bind fun v1 =>
  if wr v1 = 0 then
    some (-1)
  else
    (f_X2_harvest n 3 x1 M).bind fun v2 =>
    some v2
set_option maxRecDepth 10000 in
theorem v_X5_bears_0 {E : En} {d : Nat} {Q : Po} {n : Nat} {x1 : Int} {M : Mem} {z : Int}  (hd : 2 ≤ d) (hF : f_X5_bears n x1 M = some z) (hK : Q (some (vi z)) M) : V E mX5_bears d 0 [(0, rf E 0), (1, vi x1)] [] M Q := by
  unfold f_X5_bears at hF
  refine V.iload_n 1 1 1 rfl dX5_bears_0 rfl ?_
  replace hF := Option.bind_eq_some_iff.mp hF
  obtain ⟨v1, hv1, hF⟩ := hF
  refine V.callS (d' := d - 1) [vi x1] [] (c_X5_isFlag (by omega) hv1) okX5_isFlag gw_507 rfl rfl (Nat.le_of_ble_eq_true rfl) (by omega) dX5_bears_1 ?_
  rintro _ _ ⟨rfl, rfl⟩
  show V E mX5_bears d 4 [(0, rf E 0), (1, vi x1)] [vi v1] M _
  refine V.if_eq (tgt := 18) rfl dX5_bears_4 (by decide) (fun hc => ?_) (fun hc => ?_)
  · rw [if_pos hc] at hF
    refine V.iconst (-1) dX5_bears_18 ?_
    cases Option.some.inj hF
    exact V.iret rfl dX5_bears_19 hK
  · rw [if_neg hc] at hF
    refine V.aload_n 0 0 0 rfl dX5_bears_7 rfl ?_
    refine V.get (by decide) (hcX5 E _) rfl inX5 1 (by decide) rfl gw_283 dX5_bears_8 ?_
    refine V.iload_n 1 1 1 rfl dX5_bears_11 rfl ?_
    replace hF := Option.bind_eq_some_iff.mp hF
    obtain ⟨v2, hv2, hF⟩ := hF
    refine V.callV (d' := d - 1) [vi x1] [] (c_X2_harvest is_3 (by omega) hv2) okX2_harvest gw_534 rfl rfl (ltX2 is_3) (hcX2 is_3 E _) rfl (Nat.le_of_ble_eq_true rfl) (by omega) dX5_bears_12 ?_
    rintro _ _ ⟨rfl, rfl⟩
    show V E mX5_bears d 15 [(0, rf E 0), (1, vi x1)] [vi v2] M _
    refine V.goto (tgt := 19) dX5_bears_15 (by decide) ?_
    cases Option.some.inj hF
    exact V.iret rfl dX5_bears_19 hK
theorem c_X5_bears {E : En} {d : Nat} {n : Nat} {x1 : Int} {M : Mem} {z : Int}  (hd : 2 ≤ d) (hF : f_X5_bears n x1 M = some z) : Cn E mX5_bears d [rf E 0, vi x1] M (fun v N => v = some (vi z) ∧ M = N) := by
  refine V.entry (by decide +kernel) (Nat.le_of_ble_eq_true rfl) ?_
  exact v_X5_bears_0  hd hF ⟨rfl, rfl⟩
abbrev mX5_till : MI := (yX5_till, cX5_till, 6, (some .int))
theorem okX5_till : OKV mX5_till 3 := ⟨gw_539, gw_540, gw_58, gw_541, (by decide +kernel), (by decide)⟩
def f_X5_till (x1 : Int) (x2 : Int) (x3 : Int) (M : Mem) : Option (Int × Mem) :=
  (f_X5_isLand x1 M).bind fun v1 =>
  if wr v1 = 0 then
    some ((-1), M)
  else
    (f_X5_isFlag x2 M).bind fun v2 =>
    if wr v2 = 0 then
      some ((-1), M)
    else
      (f_X5_within x3 0 9 M).bind fun v3 =>
      if wr v3 = 0 then
        some ((-1), M)
      else
        (f_X2_yields 3 x2 M).bind fun v4 =>
        (rd M v4 4 x1).bind fun v5 =>
        (wt M v4 4 x1 x3).bind fun M6 =>
        some (v5, M6)
set_option maxRecDepth 10000 in
theorem v_X5_till_0 {E : En} {d : Nat} {Q : Po} {x1 : Int} {x2 : Int} {x3 : Int} {M : Mem} {z : Int × Mem}  (hd : 3 ≤ d) (hF : f_X5_till x1 x2 x3 M = some z) (hK : Q (some (vi z.1)) z.2) : V E mX5_till d 0 [(0, rf E 0), (1, vi x1), (2, vi x2), (3, vi x3)] [] M Q := by
  unfold f_X5_till at hF
  refine V.aload_n 0 0 0 rfl dX5_till_0 rfl ?_
  refine V.iload_n 1 1 1 rfl dX5_till_1 rfl ?_
  replace hF := Option.bind_eq_some_iff.mp hF
  obtain ⟨v1, hv1, hF⟩ := hF
  refine V.callV (d' := d - 1) [vi x1] [] (c_X5_isLand (by omega) hv1) okX5_isLand gw_503 rfl rfl (by decide) (hcX5 E _) rfl (Nat.le_of_ble_eq_true rfl) (by omega) dX5_till_2 ?_
  rintro _ _ ⟨rfl, rfl⟩
  show V E mX5_till d 5 [(0, rf E 0), (1, vi x1), (2, vi x2), (3, vi x3)] [vi v1] M _
  refine V.if_eq (tgt := 25) rfl dX5_till_5 (by decide) (fun hc => ?_) (fun hc => ?_)
  · rw [if_pos hc] at hF
    refine V.iconst (-1) dX5_till_25 ?_
    cases Option.some.inj hF
    exact V.iret rfl dX5_till_26 hK
  · rw [if_neg hc] at hF
    refine V.iload_n 2 2 2 rfl dX5_till_8 rfl ?_
    replace hF := Option.bind_eq_some_iff.mp hF
    obtain ⟨v2, hv2, hF⟩ := hF
    refine V.callS (d' := d - 1) [vi x2] [] (c_X5_isFlag (by omega) hv2) okX5_isFlag gw_507 rfl rfl (Nat.le_of_ble_eq_true rfl) (by omega) dX5_till_9 ?_
    rintro _ _ ⟨rfl, rfl⟩
    show V E mX5_till d 12 [(0, rf E 0), (1, vi x1), (2, vi x2), (3, vi x3)] [vi v2] M _
    refine V.if_eq (tgt := 25) rfl dX5_till_12 (by decide) (fun hc => ?_) (fun hc => ?_)
    · rw [if_pos hc] at hF
      refine V.iconst (-1) dX5_till_25 ?_
      cases Option.some.inj hF
      exact V.iret rfl dX5_till_26 hK
    · rw [if_neg hc] at hF
      refine V.iload_n 3 3 3 rfl dX5_till_15 rfl ?_
      refine V.iconst 0 dX5_till_16 ?_
      refine V.bipush 9 9 (by decide) dX5_till_17 ?_
      replace hF := Option.bind_eq_some_iff.mp hF
      obtain ⟨v3, hv3, hF⟩ := hF
      refine V.callS (d' := d - 1) [vi x3, vi 0, vi 9] [] (c_X5_within (by omega) hv3) okX5_within gw_314 rfl rfl (Nat.le_of_ble_eq_true rfl) (by omega) dX5_till_19 ?_
      rintro _ _ ⟨rfl, rfl⟩
      show V E mX5_till d 22 [(0, rf E 0), (1, vi x1), (2, vi x2), (3, vi x3)] [vi v3] M _
      refine V.if_ne (tgt := 27) rfl dX5_till_22 (by decide) (fun hc => ?_) (fun hc => ?_)
      · rw [if_neg hc] at hF
        refine V.aload_n 0 0 0 rfl dX5_till_27 rfl ?_
        refine V.get (by decide) (hcX5 E _) rfl inX5 1 (by decide) rfl gw_283 dX5_till_28 ?_
        refine V.iload_n 2 2 2 rfl dX5_till_31 rfl ?_
        replace hF := Option.bind_eq_some_iff.mp hF
        obtain ⟨v4, hv4, hF⟩ := hF
        refine V.callV (d' := d - 1) [vi x2] [] (c_X2_yields is_3 (by omega) hv4) okX2_yields gw_510 rfl rfl (ltX2 is_3) (hcX2 is_3 E _) rfl (Nat.le_of_ble_eq_true rfl) (by omega) dX5_till_32 ?_
        rintro _ _ ⟨rfl, rfl⟩
        show V E mX5_till d 35 [(0, rf E 0), (1, vi x1), (2, vi x2), (3, vi x3)] [rf E v4] M _
        refine V.astore 4 [(4, rf E v4), (0, rf E 0), (1, vi x1), (2, vi x2), (3, vi x3)] dX5_till_35 (by decide) rfl ?_
        refine V.aload 4 0 dX5_till_37 rfl ?_
        refine V.iload_n 1 1 2 rfl dX5_till_39 rfl ?_
        replace hF := Option.bind_eq_some_iff.mp hF
        obtain ⟨v5, hv5, hF⟩ := hF
        refine V.iald (yl_X2_yields is_3 hv4) hv5 dX5_till_40 ?_
        refine V.istore 5 [(5, vi v5), (4, rf E v4), (0, rf E 0), (1, vi x1), (2, vi x2), (3, vi x3)] dX5_till_41 (by decide) rfl ?_
        refine V.aload 4 1 dX5_till_43 rfl ?_
        refine V.iload_n 1 1 3 rfl dX5_till_45 rfl ?_
        refine V.iload_n 3 3 5 rfl dX5_till_46 rfl ?_
        replace hF := Option.bind_eq_some_iff.mp hF
        obtain ⟨M6, hM6, hF⟩ := hF
        refine V.iast (yl_X2_yields is_3 hv4) hM6 dX5_till_47 ?_
        refine V.iload 5 0 dX5_till_48 rfl ?_
        cases Option.some.inj hF
        exact V.iret rfl dX5_till_50 hK
      · rw [if_pos hc] at hF
        refine V.iconst (-1) dX5_till_25 ?_
        cases Option.some.inj hF
        exact V.iret rfl dX5_till_26 hK
theorem c_X5_till {E : En} {d : Nat} {x1 : Int} {x2 : Int} {x3 : Int} {M : Mem} {zr : Int} {zM : Mem}  (hd : 3 ≤ d) (hF : f_X5_till x1 x2 x3 M = some (zr, zM)) : Cn E mX5_till d [rf E 0, vi x1, vi x2, vi x3] M (fun v N => v = some (vi zr) ∧ zM = N) := by
  refine V.entry (by decide +kernel) (Nat.le_of_ble_eq_true rfl) ?_
  exact v_X5_till_0  hd hF ⟨rfl, rfl⟩
abbrev mX5_weigh : MI := (yX5_weigh, cX5_weigh, 4, (some .int))
theorem okX5_weigh : OKV mX5_weigh 2 := ⟨gw_543, gw_544, gw_58, gw_545, (by decide +kernel), (by decide)⟩
def f_X5_weigh (x1 : Int) (x2 : Int) (M : Mem) : Option (Int × Mem) :=
  (f_X5_isReading x1 M).bind fun v1 =>
  if wr v1 = 0 then
    some ((-1), M)
  else
    (f_X5_within x2 1 9 M).bind fun v2 =>
    if wr v2 = 0 then
      some ((-1), M)
    else
      (rd M 7 4 x1).bind fun v3 =>
      (wt M 7 4 x1 x2).bind fun M4 =>
      some (v3, M4)
set_option maxRecDepth 10000 in
theorem v_X5_weigh_0 {E : En} {d : Nat} {Q : Po} {x1 : Int} {x2 : Int} {M : Mem} {z : Int × Mem}  (hd : 3 ≤ d) (hF : f_X5_weigh x1 x2 M = some z) (hK : Q (some (vi z.1)) z.2) : V E mX5_weigh d 0 [(0, rf E 0), (1, vi x1), (2, vi x2)] [] M Q := by
  unfold f_X5_weigh at hF
  refine V.aload_n 0 0 0 rfl dX5_weigh_0 rfl ?_
  refine V.iload_n 1 1 1 rfl dX5_weigh_1 rfl ?_
  replace hF := Option.bind_eq_some_iff.mp hF
  obtain ⟨v1, hv1, hF⟩ := hF
  refine V.callV (d' := d - 1) [vi x1] [] (c_X5_isReading (by omega) hv1) okX5_isReading gw_518 rfl rfl (by decide) (hcX5 E _) rfl (Nat.le_of_ble_eq_true rfl) (by omega) dX5_weigh_2 ?_
  rintro _ _ ⟨rfl, rfl⟩
  show V E mX5_weigh d 5 [(0, rf E 0), (1, vi x1), (2, vi x2)] [vi v1] M _
  refine V.if_eq (tgt := 18) rfl dX5_weigh_5 (by decide) (fun hc => ?_) (fun hc => ?_)
  · rw [if_pos hc] at hF
    refine V.iconst (-1) dX5_weigh_18 ?_
    cases Option.some.inj hF
    exact V.iret rfl dX5_weigh_19 hK
  · rw [if_neg hc] at hF
    refine V.iload_n 2 2 2 rfl dX5_weigh_8 rfl ?_
    refine V.iconst 1 dX5_weigh_9 ?_
    refine V.bipush 9 9 (by decide) dX5_weigh_10 ?_
    replace hF := Option.bind_eq_some_iff.mp hF
    obtain ⟨v2, hv2, hF⟩ := hF
    refine V.callS (d' := d - 1) [vi x2, vi 1, vi 9] [] (c_X5_within (by omega) hv2) okX5_within gw_314 rfl rfl (Nat.le_of_ble_eq_true rfl) (by omega) dX5_weigh_12 ?_
    rintro _ _ ⟨rfl, rfl⟩
    show V E mX5_weigh d 15 [(0, rf E 0), (1, vi x1), (2, vi x2)] [vi v2] M _
    refine V.if_ne (tgt := 20) rfl dX5_weigh_15 (by decide) (fun hc => ?_) (fun hc => ?_)
    · rw [if_neg hc] at hF
      refine V.aload_n 0 0 0 rfl dX5_weigh_20 rfl ?_
      refine V.get (by decide) (hcX5 E _) rfl inX5 1 (by decide) rfl gw_283 dX5_weigh_21 ?_
      refine V.get (ltX2 is_3) (hcX2 is_3 E _) rfl inX2 3 (by decide) rfl gw_140 dX5_weigh_24 ?_
      refine V.iload_n 1 1 1 rfl dX5_weigh_27 rfl ?_
      replace hF := Option.bind_eq_some_iff.mp hF
      obtain ⟨v3, hv3, hF⟩ := hF
      refine V.iald ar_7 hv3 dX5_weigh_28 ?_
      refine V.istore_n 3 3 [(3, vi v3), (0, rf E 0), (1, vi x1), (2, vi x2)] rfl dX5_weigh_29 (by decide) rfl ?_
      refine V.aload_n 0 0 1 rfl dX5_weigh_30 rfl ?_
      refine V.get (by decide) (hcX5 E _) rfl inX5 1 (by decide) rfl gw_283 dX5_weigh_31 ?_
      refine V.get (ltX2 is_3) (hcX2 is_3 E _) rfl inX2 3 (by decide) rfl gw_140 dX5_weigh_34 ?_
      refine V.iload_n 1 1 2 rfl dX5_weigh_37 rfl ?_
      refine V.iload_n 2 2 3 rfl dX5_weigh_38 rfl ?_
      replace hF := Option.bind_eq_some_iff.mp hF
      obtain ⟨M4, hM4, hF⟩ := hF
      refine V.iast ar_7 hM4 dX5_weigh_39 ?_
      refine V.iload_n 3 3 0 rfl dX5_weigh_40 rfl ?_
      cases Option.some.inj hF
      exact V.iret rfl dX5_weigh_41 hK
    · rw [if_pos hc] at hF
      refine V.iconst (-1) dX5_weigh_18 ?_
      cases Option.some.inj hF
      exact V.iret rfl dX5_weigh_19 hK
theorem c_X5_weigh {E : En} {d : Nat} {x1 : Int} {x2 : Int} {M : Mem} {zr : Int} {zM : Mem}  (hd : 3 ≤ d) (hF : f_X5_weigh x1 x2 M = some (zr, zM)) : Cn E mX5_weigh d [rf E 0, vi x1, vi x2] M (fun v N => v = some (vi zr) ∧ zM = N) := by
  refine V.entry (by decide +kernel) (Nat.le_of_ble_eq_true rfl) ?_
  exact v_X5_weigh_0  hd hF ⟨rfl, rfl⟩
abbrev mX5_need : MI := (yX5_need, cX5_need, 3, (some .int))
theorem okX5_need : OKV mX5_need 1 := ⟨gw_547, gw_548, gw_58, gw_549, (by decide +kernel), (by decide)⟩
def f_X5_need (x1 : Int) (M : Mem) : Option (Int × Mem) :=
  (f_X5_within x1 0 40 M).bind fun v1 =>
  if wr v1 = 0 then
    some ((-1), M)
  else
    (some (st M 3 6 x1)).bind fun M2 =>
    some (M 3 6, M2)
set_option maxRecDepth 10000 in
theorem v_X5_need_0 {E : En} {d : Nat} {Q : Po} {x1 : Int} {M : Mem} {z : Int × Mem}  (hd : 2 ≤ d) (hF : f_X5_need x1 M = some z) (hK : Q (some (vi z.1)) z.2) : V E mX5_need d 0 [(0, rf E 0), (1, vi x1)] [] M Q := by
  unfold f_X5_need at hF
  refine V.iload_n 1 1 1 rfl dX5_need_0 rfl ?_
  refine V.iconst 0 dX5_need_1 ?_
  refine V.bipush 40 40 (by decide) dX5_need_2 ?_
  replace hF := Option.bind_eq_some_iff.mp hF
  obtain ⟨v1, hv1, hF⟩ := hF
  refine V.callS (d' := d - 1) [vi x1, vi 0, vi 40] [] (c_X5_within (by omega) hv1) okX5_within gw_314 rfl rfl (Nat.le_of_ble_eq_true rfl) (by omega) dX5_need_4 ?_
  rintro _ _ ⟨rfl, rfl⟩
  show V E mX5_need d 7 [(0, rf E 0), (1, vi x1)] [vi v1] M _
  refine V.if_ne (tgt := 12) rfl dX5_need_7 (by decide) (fun hc => ?_) (fun hc => ?_)
  · rw [if_neg hc] at hF
    refine V.aload_n 0 0 0 rfl dX5_need_12 rfl ?_
    refine V.get (by decide) (hcX5 E _) rfl inX5 1 (by decide) rfl gw_283 dX5_need_13 ?_
    refine V.get (ltX2 is_3) (hcX2 is_3 E _) rfl inX2 6 (by decide) rfl gw_148 dX5_need_16 ?_
    refine V.istore_n 2 2 [(2, vi (M 3 6)), (0, rf E 0), (1, vi x1)] rfl dX5_need_19 (by decide) rfl ?_
    refine V.aload_n 0 0 1 rfl dX5_need_20 rfl ?_
    refine V.get (by decide) (hcX5 E _) rfl inX5 1 (by decide) rfl gw_283 dX5_need_21 ?_
    refine V.iload_n 1 1 2 rfl dX5_need_24 rfl ?_
    replace hF := Option.bind_eq_some_iff.mp hF
    obtain ⟨M2, hM2, hF⟩ := hF
    refine V.put (x := x1) (ty := .int) (Option.some.inj hM2) (ltX2 is_3) (hcX2 is_3 E) rfl inX2 tyX2 tyX2_ok nmX2 (by decide) rfl (by decide +kernel) rfl rfl (Nat.le_of_ble_eq_true rfl) rfl gw_148 dX5_need_25 ?_
    refine V.iload_n 2 2 0 rfl dX5_need_28 rfl ?_
    cases Option.some.inj hF
    exact V.iret rfl dX5_need_29 hK
  · rw [if_pos hc] at hF
    refine V.iconst (-1) dX5_need_10 ?_
    cases Option.some.inj hF
    exact V.iret rfl dX5_need_11 hK
theorem c_X5_need {E : En} {d : Nat} {x1 : Int} {M : Mem} {zr : Int} {zM : Mem}  (hd : 2 ≤ d) (hF : f_X5_need x1 M = some (zr, zM)) : Cn E mX5_need d [rf E 0, vi x1] M (fun v N => v = some (vi zr) ∧ zM = N) := by
  refine V.entry (by decide +kernel) (Nat.le_of_ble_eq_true rfl) ?_
  exact v_X5_need_0  hd hF ⟨rfl, rfl⟩
abbrev mX5_hunger : MI := (yX5_hunger, cX5_hunger, 3, (some .int))
theorem okX5_hunger : OKV mX5_hunger 1 := ⟨gw_551, gw_552, gw_58, gw_553, (by decide +kernel), (by decide)⟩
def f_X5_hunger (x1 : Int) (M : Mem) : Option (Int × Mem) :=
  (f_X5_within x1 0 20 M).bind fun v1 =>
  if wr v1 = 0 then
    some ((-1), M)
  else
    (some (st M 3 7 x1)).bind fun M2 =>
    some (M 3 7, M2)
set_option maxRecDepth 10000 in
theorem v_X5_hunger_0 {E : En} {d : Nat} {Q : Po} {x1 : Int} {M : Mem} {z : Int × Mem}  (hd : 2 ≤ d) (hF : f_X5_hunger x1 M = some z) (hK : Q (some (vi z.1)) z.2) : V E mX5_hunger d 0 [(0, rf E 0), (1, vi x1)] [] M Q := by
  unfold f_X5_hunger at hF
  refine V.iload_n 1 1 1 rfl dX5_hunger_0 rfl ?_
  refine V.iconst 0 dX5_hunger_1 ?_
  refine V.bipush 20 20 (by decide) dX5_hunger_2 ?_
  replace hF := Option.bind_eq_some_iff.mp hF
  obtain ⟨v1, hv1, hF⟩ := hF
  refine V.callS (d' := d - 1) [vi x1, vi 0, vi 20] [] (c_X5_within (by omega) hv1) okX5_within gw_314 rfl rfl (Nat.le_of_ble_eq_true rfl) (by omega) dX5_hunger_4 ?_
  rintro _ _ ⟨rfl, rfl⟩
  show V E mX5_hunger d 7 [(0, rf E 0), (1, vi x1)] [vi v1] M _
  refine V.if_ne (tgt := 12) rfl dX5_hunger_7 (by decide) (fun hc => ?_) (fun hc => ?_)
  · rw [if_neg hc] at hF
    refine V.aload_n 0 0 0 rfl dX5_hunger_12 rfl ?_
    refine V.get (by decide) (hcX5 E _) rfl inX5 1 (by decide) rfl gw_283 dX5_hunger_13 ?_
    refine V.get (ltX2 is_3) (hcX2 is_3 E _) rfl inX2 7 (by decide) rfl gw_152 dX5_hunger_16 ?_
    refine V.istore_n 2 2 [(2, vi (M 3 7)), (0, rf E 0), (1, vi x1)] rfl dX5_hunger_19 (by decide) rfl ?_
    refine V.aload_n 0 0 1 rfl dX5_hunger_20 rfl ?_
    refine V.get (by decide) (hcX5 E _) rfl inX5 1 (by decide) rfl gw_283 dX5_hunger_21 ?_
    refine V.iload_n 1 1 2 rfl dX5_hunger_24 rfl ?_
    replace hF := Option.bind_eq_some_iff.mp hF
    obtain ⟨M2, hM2, hF⟩ := hF
    refine V.put (x := x1) (ty := .int) (Option.some.inj hM2) (ltX2 is_3) (hcX2 is_3 E) rfl inX2 tyX2 tyX2_ok nmX2 (by decide) rfl (by decide +kernel) rfl rfl (Nat.le_of_ble_eq_true rfl) rfl gw_152 dX5_hunger_25 ?_
    refine V.iload_n 2 2 0 rfl dX5_hunger_28 rfl ?_
    cases Option.some.inj hF
    exact V.iret rfl dX5_hunger_29 hK
  · rw [if_pos hc] at hF
    refine V.iconst (-1) dX5_hunger_10 ?_
    cases Option.some.inj hF
    exact V.iret rfl dX5_hunger_11 hK
theorem c_X5_hunger {E : En} {d : Nat} {x1 : Int} {M : Mem} {zr : Int} {zM : Mem}  (hd : 2 ≤ d) (hF : f_X5_hunger x1 M = some (zr, zM)) : Cn E mX5_hunger d [rf E 0, vi x1] M (fun v N => v = some (vi zr) ∧ zM = N) := by
  refine V.entry (by decide +kernel) (Nat.le_of_ble_eq_true rfl) ?_
  exact v_X5_hunger_0  hd hF ⟨rfl, rfl⟩
abbrev mX5_cap : MI := (yX5_cap, cX5_cap, 3, (some .int))
theorem okX5_cap : OKV mX5_cap 1 := ⟨gw_555, gw_556, gw_58, gw_557, (by decide +kernel), (by decide)⟩
def f_X5_cap (x1 : Int) (M : Mem) : Option (Int × Mem) :=
  (f_X5_within x1 0 40 M).bind fun v1 =>
  if wr v1 = 0 then
    some ((-1), M)
  else
    if wr (M 3 10) ≤ wr x1 then
      (some (st M 3 8 x1)).bind fun M2 =>
      some (M 3 8, M2)
    else
      some ((-2), M)
set_option maxRecDepth 10000 in
theorem v_X5_cap_0 {E : En} {d : Nat} {Q : Po} {x1 : Int} {M : Mem} {z : Int × Mem}  (hd : 2 ≤ d) (hF : f_X5_cap x1 M = some z) (hK : Q (some (vi z.1)) z.2) : V E mX5_cap d 0 [(0, rf E 0), (1, vi x1)] [] M Q := by
  unfold f_X5_cap at hF
  refine V.iload_n 1 1 1 rfl dX5_cap_0 rfl ?_
  refine V.iconst 0 dX5_cap_1 ?_
  refine V.bipush 40 40 (by decide) dX5_cap_2 ?_
  replace hF := Option.bind_eq_some_iff.mp hF
  obtain ⟨v1, hv1, hF⟩ := hF
  refine V.callS (d' := d - 1) [vi x1, vi 0, vi 40] [] (c_X5_within (by omega) hv1) okX5_within gw_314 rfl rfl (Nat.le_of_ble_eq_true rfl) (by omega) dX5_cap_4 ?_
  rintro _ _ ⟨rfl, rfl⟩
  show V E mX5_cap d 7 [(0, rf E 0), (1, vi x1)] [vi v1] M _
  refine V.if_ne (tgt := 12) rfl dX5_cap_7 (by decide) (fun hc => ?_) (fun hc => ?_)
  · rw [if_neg hc] at hF
    refine V.aload_n 0 0 0 rfl dX5_cap_12 rfl ?_
    refine V.get (by decide) (hcX5 E _) rfl inX5 1 (by decide) rfl gw_283 dX5_cap_13 ?_
    refine V.get (ltX2 is_3) (hcX2 is_3 E _) rfl inX2 10 (by decide) rfl gw_163 dX5_cap_16 ?_
    refine V.iload_n 1 1 1 rfl dX5_cap_19 rfl ?_
    refine V.icmp_le (tgt := 26) rfl rfl dX5_cap_20 (by decide) (fun hc => ?_) (fun hc => ?_)
    · rw [if_pos hc] at hF
      refine V.aload_n 0 0 0 rfl dX5_cap_26 rfl ?_
      refine V.get (by decide) (hcX5 E _) rfl inX5 1 (by decide) rfl gw_283 dX5_cap_27 ?_
      refine V.get (ltX2 is_3) (hcX2 is_3 E _) rfl inX2 8 (by decide) rfl gw_156 dX5_cap_30 ?_
      refine V.istore_n 2 2 [(2, vi (M 3 8)), (0, rf E 0), (1, vi x1)] rfl dX5_cap_33 (by decide) rfl ?_
      refine V.aload_n 0 0 1 rfl dX5_cap_34 rfl ?_
      refine V.get (by decide) (hcX5 E _) rfl inX5 1 (by decide) rfl gw_283 dX5_cap_35 ?_
      refine V.iload_n 1 1 2 rfl dX5_cap_38 rfl ?_
      replace hF := Option.bind_eq_some_iff.mp hF
      obtain ⟨M2, hM2, hF⟩ := hF
      refine V.put (x := x1) (ty := .int) (Option.some.inj hM2) (ltX2 is_3) (hcX2 is_3 E) rfl inX2 tyX2 tyX2_ok nmX2 (by decide) rfl (by decide +kernel) rfl rfl (Nat.le_of_ble_eq_true rfl) rfl gw_156 dX5_cap_39 ?_
      refine V.iload_n 2 2 0 rfl dX5_cap_42 rfl ?_
      cases Option.some.inj hF
      exact V.iret rfl dX5_cap_43 hK
    · rw [if_neg hc] at hF
      refine V.bipush (-2) (-2) (by decide) dX5_cap_23 ?_
      cases Option.some.inj hF
      exact V.iret rfl dX5_cap_25 hK
  · rw [if_pos hc] at hF
    refine V.iconst (-1) dX5_cap_10 ?_
    cases Option.some.inj hF
    exact V.iret rfl dX5_cap_11 hK
theorem c_X5_cap {E : En} {d : Nat} {x1 : Int} {M : Mem} {zr : Int} {zM : Mem}  (hd : 2 ≤ d) (hF : f_X5_cap x1 M = some (zr, zM)) : Cn E mX5_cap d [rf E 0, vi x1] M (fun v N => v = some (vi zr) ∧ zM = N) := by
  refine V.entry (by decide +kernel) (Nat.le_of_ble_eq_true rfl) ?_
  exact v_X5_cap_0  hd hF ⟨rfl, rfl⟩
abbrev mX5_rot : MI := (yX5_rot, cX5_rot, 3, (some .int))
theorem okX5_rot : OKV mX5_rot 1 := ⟨gw_559, gw_560, gw_58, gw_561, (by decide +kernel), (by decide)⟩
def f_X5_rot (x1 : Int) (M : Mem) : Option (Int × Mem) :=
  (f_X5_isRot x1 M).bind fun v1 =>
  if wr v1 = 0 then
    some ((-1), M)
  else
    (some (st M 3 9 x1)).bind fun M2 =>
    some (M 3 9, M2)
set_option maxRecDepth 10000 in
theorem v_X5_rot_0 {E : En} {d : Nat} {Q : Po} {x1 : Int} {M : Mem} {z : Int × Mem}  (hd : 3 ≤ d) (hF : f_X5_rot x1 M = some z) (hK : Q (some (vi z.1)) z.2) : V E mX5_rot d 0 [(0, rf E 0), (1, vi x1)] [] M Q := by
  unfold f_X5_rot at hF
  refine V.iload_n 1 1 1 rfl dX5_rot_0 rfl ?_
  replace hF := Option.bind_eq_some_iff.mp hF
  obtain ⟨v1, hv1, hF⟩ := hF
  refine V.callS (d' := d - 1) [vi x1] [] (c_X5_isRot (by omega) hv1) okX5_isRot gw_562 rfl rfl (Nat.le_of_ble_eq_true rfl) (by omega) dX5_rot_1 ?_
  rintro _ _ ⟨rfl, rfl⟩
  show V E mX5_rot d 4 [(0, rf E 0), (1, vi x1)] [vi v1] M _
  refine V.if_ne (tgt := 9) rfl dX5_rot_4 (by decide) (fun hc => ?_) (fun hc => ?_)
  · rw [if_neg hc] at hF
    refine V.aload_n 0 0 0 rfl dX5_rot_9 rfl ?_
    refine V.get (by decide) (hcX5 E _) rfl inX5 1 (by decide) rfl gw_283 dX5_rot_10 ?_
    refine V.get (ltX2 is_3) (hcX2 is_3 E _) rfl inX2 9 (by decide) rfl gw_159 dX5_rot_13 ?_
    refine V.istore_n 2 2 [(2, vi (M 3 9)), (0, rf E 0), (1, vi x1)] rfl dX5_rot_16 (by decide) rfl ?_
    refine V.aload_n 0 0 1 rfl dX5_rot_17 rfl ?_
    refine V.get (by decide) (hcX5 E _) rfl inX5 1 (by decide) rfl gw_283 dX5_rot_18 ?_
    refine V.iload_n 1 1 2 rfl dX5_rot_21 rfl ?_
    replace hF := Option.bind_eq_some_iff.mp hF
    obtain ⟨M2, hM2, hF⟩ := hF
    refine V.put (x := x1) (ty := .int) (Option.some.inj hM2) (ltX2 is_3) (hcX2 is_3 E) rfl inX2 tyX2 tyX2_ok nmX2 (by decide) rfl (by decide +kernel) rfl rfl (Nat.le_of_ble_eq_true rfl) rfl gw_159 dX5_rot_22 ?_
    refine V.iload_n 2 2 0 rfl dX5_rot_25 rfl ?_
    cases Option.some.inj hF
    exact V.iret rfl dX5_rot_26 hK
  · rw [if_pos hc] at hF
    refine V.iconst (-1) dX5_rot_7 ?_
    cases Option.some.inj hF
    exact V.iret rfl dX5_rot_8 hK
theorem c_X5_rot {E : En} {d : Nat} {x1 : Int} {M : Mem} {zr : Int} {zM : Mem}  (hd : 3 ≤ d) (hF : f_X5_rot x1 M = some (zr, zM)) : Cn E mX5_rot d [rf E 0, vi x1] M (fun v N => v = some (vi zr) ∧ zM = N) := by
  refine V.entry (by decide +kernel) (Nat.le_of_ble_eq_true rfl) ?_
  exact v_X5_rot_0  hd hF ⟨rfl, rfl⟩
abbrev mX5_fill : MI := (yX5_fill, cX5_fill, 3, (some .int))
theorem okX5_fill : OKV mX5_fill 1 := ⟨gw_564, gw_565, gw_58, gw_566, (by decide +kernel), (by decide)⟩
def f_X5_fill (x1 : Int) (M : Mem) : Option (Int × Mem) :=
  (f_X5_within x1 0 (M 3 8) M).bind fun v1 =>
  if wr v1 = 0 then
    some ((-1), M)
  else
    (some (st M 3 10 x1)).bind fun M2 =>
    some (M 3 10, M2)
set_option maxRecDepth 10000 in
theorem v_X5_fill_0 {E : En} {d : Nat} {Q : Po} {x1 : Int} {M : Mem} {z : Int × Mem}  (hd : 2 ≤ d) (hF : f_X5_fill x1 M = some z) (hK : Q (some (vi z.1)) z.2) : V E mX5_fill d 0 [(0, rf E 0), (1, vi x1)] [] M Q := by
  unfold f_X5_fill at hF
  refine V.iload_n 1 1 1 rfl dX5_fill_0 rfl ?_
  refine V.iconst 0 dX5_fill_1 ?_
  refine V.aload_n 0 0 0 rfl dX5_fill_2 rfl ?_
  refine V.get (by decide) (hcX5 E _) rfl inX5 1 (by decide) rfl gw_283 dX5_fill_3 ?_
  refine V.get (ltX2 is_3) (hcX2 is_3 E _) rfl inX2 8 (by decide) rfl gw_156 dX5_fill_6 ?_
  replace hF := Option.bind_eq_some_iff.mp hF
  obtain ⟨v1, hv1, hF⟩ := hF
  refine V.callS (d' := d - 1) [vi x1, vi 0, vi (M 3 8)] [] (c_X5_within (by omega) hv1) okX5_within gw_314 rfl rfl (Nat.le_of_ble_eq_true rfl) (by omega) dX5_fill_9 ?_
  rintro _ _ ⟨rfl, rfl⟩
  show V E mX5_fill d 12 [(0, rf E 0), (1, vi x1)] [vi v1] M _
  refine V.if_ne (tgt := 17) rfl dX5_fill_12 (by decide) (fun hc => ?_) (fun hc => ?_)
  · rw [if_neg hc] at hF
    refine V.aload_n 0 0 0 rfl dX5_fill_17 rfl ?_
    refine V.get (by decide) (hcX5 E _) rfl inX5 1 (by decide) rfl gw_283 dX5_fill_18 ?_
    refine V.get (ltX2 is_3) (hcX2 is_3 E _) rfl inX2 10 (by decide) rfl gw_163 dX5_fill_21 ?_
    refine V.istore_n 2 2 [(2, vi (M 3 10)), (0, rf E 0), (1, vi x1)] rfl dX5_fill_24 (by decide) rfl ?_
    refine V.aload_n 0 0 1 rfl dX5_fill_25 rfl ?_
    refine V.get (by decide) (hcX5 E _) rfl inX5 1 (by decide) rfl gw_283 dX5_fill_26 ?_
    refine V.iload_n 1 1 2 rfl dX5_fill_29 rfl ?_
    replace hF := Option.bind_eq_some_iff.mp hF
    obtain ⟨M2, hM2, hF⟩ := hF
    refine V.put (x := x1) (ty := .int) (Option.some.inj hM2) (ltX2 is_3) (hcX2 is_3 E) rfl inX2 tyX2 tyX2_ok nmX2 (by decide) rfl (by decide +kernel) rfl rfl (Nat.le_of_ble_eq_true rfl) rfl gw_163 dX5_fill_30 ?_
    refine V.iload_n 2 2 0 rfl dX5_fill_33 rfl ?_
    cases Option.some.inj hF
    exact V.iret rfl dX5_fill_34 hK
  · rw [if_pos hc] at hF
    refine V.iconst (-1) dX5_fill_15 ?_
    cases Option.some.inj hF
    exact V.iret rfl dX5_fill_16 hK
theorem c_X5_fill {E : En} {d : Nat} {x1 : Int} {M : Mem} {zr : Int} {zM : Mem}  (hd : 2 ≤ d) (hF : f_X5_fill x1 M = some (zr, zM)) : Cn E mX5_fill d [rf E 0, vi x1] M (fun v N => v = some (vi zr) ∧ zM = N) := by
  refine V.entry (by decide +kernel) (Nat.le_of_ble_eq_true rfl) ?_
  exact v_X5_fill_0  hd hF ⟨rfl, rfl⟩
abbrev mX5_price : MI := (yX5_price, cX5_price, 4, (some .int))
theorem okX5_price : OKV mX5_price 2 := ⟨gw_568, gw_569, gw_58, gw_570, (by decide +kernel), (by decide)⟩
def f_X5_price (x1 : Int) (x2 : Int) (M : Mem) : Option (Int × Mem) :=
  (f_X5_isFlag x1 M).bind fun v1 =>
  if wr v1 = 0 then
    some ((-1), M)
  else
    (f_X5_within x2 0 9 M).bind fun v2 =>
    if wr v2 = 0 then
      some ((-1), M)
    else
      (f_X2_priceIn 3 x1 M).bind fun v3 =>
      if wr x1 = 1 then
        (some (st M 3 11 x2)).bind fun M5 =>
        some (v3, M5)
      else
        (some (st M 3 12 x2)).bind fun M4 =>
        some (v3, M4)
set_option maxRecDepth 10000 in
theorem v_X5_price_0 {E : En} {d : Nat} {Q : Po} {x1 : Int} {x2 : Int} {M : Mem} {z : Int × Mem}  (hd : 2 ≤ d) (hF : f_X5_price x1 x2 M = some z) (hK : Q (some (vi z.1)) z.2) : V E mX5_price d 0 [(0, rf E 0), (1, vi x1), (2, vi x2)] [] M Q := by
  unfold f_X5_price at hF
  refine V.iload_n 1 1 1 rfl dX5_price_0 rfl ?_
  replace hF := Option.bind_eq_some_iff.mp hF
  obtain ⟨v1, hv1, hF⟩ := hF
  refine V.callS (d' := d - 1) [vi x1] [] (c_X5_isFlag (by omega) hv1) okX5_isFlag gw_507 rfl rfl (Nat.le_of_ble_eq_true rfl) (by omega) dX5_price_1 ?_
  rintro _ _ ⟨rfl, rfl⟩
  show V E mX5_price d 4 [(0, rf E 0), (1, vi x1), (2, vi x2)] [vi v1] M _
  refine V.if_eq (tgt := 17) rfl dX5_price_4 (by decide) (fun hc => ?_) (fun hc => ?_)
  · rw [if_pos hc] at hF
    refine V.iconst (-1) dX5_price_17 ?_
    cases Option.some.inj hF
    exact V.iret rfl dX5_price_18 hK
  · rw [if_neg hc] at hF
    refine V.iload_n 2 2 2 rfl dX5_price_7 rfl ?_
    refine V.iconst 0 dX5_price_8 ?_
    refine V.bipush 9 9 (by decide) dX5_price_9 ?_
    replace hF := Option.bind_eq_some_iff.mp hF
    obtain ⟨v2, hv2, hF⟩ := hF
    refine V.callS (d' := d - 1) [vi x2, vi 0, vi 9] [] (c_X5_within (by omega) hv2) okX5_within gw_314 rfl rfl (Nat.le_of_ble_eq_true rfl) (by omega) dX5_price_11 ?_
    rintro _ _ ⟨rfl, rfl⟩
    show V E mX5_price d 14 [(0, rf E 0), (1, vi x1), (2, vi x2)] [vi v2] M _
    refine V.if_ne (tgt := 19) rfl dX5_price_14 (by decide) (fun hc => ?_) (fun hc => ?_)
    · rw [if_neg hc] at hF
      refine V.aload_n 0 0 0 rfl dX5_price_19 rfl ?_
      refine V.get (by decide) (hcX5 E _) rfl inX5 1 (by decide) rfl gw_283 dX5_price_20 ?_
      refine V.iload_n 1 1 1 rfl dX5_price_23 rfl ?_
      replace hF := Option.bind_eq_some_iff.mp hF
      obtain ⟨v3, hv3, hF⟩ := hF
      refine V.callV (d' := d - 1) [vi x1] [] (c_X2_priceIn is_3 (by omega) hv3) okX2_priceIn gw_571 rfl rfl (ltX2 is_3) (hcX2 is_3 E _) rfl (Nat.le_of_ble_eq_true rfl) (by omega) dX5_price_24 ?_
      rintro _ _ ⟨rfl, rfl⟩
      show V E mX5_price d 27 [(0, rf E 0), (1, vi x1), (2, vi x2)] [vi v3] M _
      refine V.istore_n 3 3 [(3, vi v3), (0, rf E 0), (1, vi x1), (2, vi x2)] rfl dX5_price_27 (by decide) rfl ?_
      refine V.iload_n 1 1 2 rfl dX5_price_28 rfl ?_
      refine V.iconst 1 dX5_price_29 ?_
      refine V.icmp_ne (tgt := 44) rfl wr_1 dX5_price_30 (by decide) (fun hc => ?_) (fun hc => ?_)
      · rw [if_neg hc] at hF
        refine V.aload_n 0 0 1 rfl dX5_price_44 rfl ?_
        refine V.get (by decide) (hcX5 E _) rfl inX5 1 (by decide) rfl gw_283 dX5_price_45 ?_
        refine V.iload_n 2 2 3 rfl dX5_price_48 rfl ?_
        replace hF := Option.bind_eq_some_iff.mp hF
        obtain ⟨M4, hM4, hF⟩ := hF
        refine V.put (x := x2) (ty := .int) (Option.some.inj hM4) (ltX2 is_3) (hcX2 is_3 E) rfl inX2 tyX2 tyX2_ok nmX2 (by decide) rfl (by decide +kernel) rfl rfl (Nat.le_of_ble_eq_true rfl) rfl gw_169 dX5_price_49 ?_
        refine V.iload_n 3 3 0 rfl dX5_price_52 rfl ?_
        cases Option.some.inj hF
        exact V.iret rfl dX5_price_53 hK
      · rw [if_pos hc] at hF
        refine V.aload_n 0 0 1 rfl dX5_price_33 rfl ?_
        refine V.get (by decide) (hcX5 E _) rfl inX5 1 (by decide) rfl gw_283 dX5_price_34 ?_
        refine V.iload_n 2 2 3 rfl dX5_price_37 rfl ?_
        replace hF := Option.bind_eq_some_iff.mp hF
        obtain ⟨M5, hM5, hF⟩ := hF
        refine V.put (x := x2) (ty := .int) (Option.some.inj hM5) (ltX2 is_3) (hcX2 is_3 E) rfl inX2 tyX2 tyX2_ok nmX2 (by decide) rfl (by decide +kernel) rfl rfl (Nat.le_of_ble_eq_true rfl) rfl gw_166 dX5_price_38 ?_
        refine V.goto (tgt := 52) dX5_price_41 (by decide) ?_
        refine V.iload_n 3 3 0 rfl dX5_price_52 rfl ?_
        cases Option.some.inj hF
        exact V.iret rfl dX5_price_53 hK
    · rw [if_pos hc] at hF
      refine V.iconst (-1) dX5_price_17 ?_
      cases Option.some.inj hF
      exact V.iret rfl dX5_price_18 hK
theorem c_X5_price {E : En} {d : Nat} {x1 : Int} {x2 : Int} {M : Mem} {zr : Int} {zM : Mem}  (hd : 2 ≤ d) (hF : f_X5_price x1 x2 M = some (zr, zM)) : Cn E mX5_price d [rf E 0, vi x1, vi x2] M (fun v N => v = some (vi zr) ∧ zM = N) := by
  refine V.entry (by decide +kernel) (Nat.le_of_ble_eq_true rfl) ?_
  exact v_X5_price_0  hd hF ⟨rfl, rfl⟩
abbrev mX5_steward : MI := (yX5_steward, cX5_steward, 4, (some .int))
theorem okX5_steward : OKV mX5_steward 2 := ⟨gw_576, gw_577, gw_58, gw_578, (by decide +kernel), (by decide)⟩
def f_X5_steward (x1 : Int) (x2 : Int) (M : Mem) : Option (Int × Mem) :=
  (f_X5_within x1 0 4 M).bind fun v1 =>
  if wr v1 = 0 then
    some ((-1), M)
  else
    (f_X5_within x2 0 9 M).bind fun v2 =>
    if wr v2 = 0 then
      some ((-1), M)
    else
      (f_X2_appoint 3 x1 x2 M).bind fun M3 =>
      some (M 3 13, M3)
set_option maxRecDepth 10000 in
theorem v_X5_steward_0 {E : En} {d : Nat} {Q : Po} {x1 : Int} {x2 : Int} {M : Mem} {z : Int × Mem}  (hd : 2 ≤ d) (hF : f_X5_steward x1 x2 M = some z) (hK : Q (some (vi z.1)) z.2) : V E mX5_steward d 0 [(0, rf E 0), (1, vi x1), (2, vi x2)] [] M Q := by
  unfold f_X5_steward at hF
  refine V.iload_n 1 1 1 rfl dX5_steward_0 rfl ?_
  refine V.iconst 0 dX5_steward_1 ?_
  refine V.iconst 4 dX5_steward_2 ?_
  replace hF := Option.bind_eq_some_iff.mp hF
  obtain ⟨v1, hv1, hF⟩ := hF
  refine V.callS (d' := d - 1) [vi x1, vi 0, vi 4] [] (c_X5_within (by omega) hv1) okX5_within gw_314 rfl rfl (Nat.le_of_ble_eq_true rfl) (by omega) dX5_steward_3 ?_
  rintro _ _ ⟨rfl, rfl⟩
  show V E mX5_steward d 6 [(0, rf E 0), (1, vi x1), (2, vi x2)] [vi v1] M _
  refine V.if_eq (tgt := 19) rfl dX5_steward_6 (by decide) (fun hc => ?_) (fun hc => ?_)
  · rw [if_pos hc] at hF
    refine V.iconst (-1) dX5_steward_19 ?_
    cases Option.some.inj hF
    exact V.iret rfl dX5_steward_20 hK
  · rw [if_neg hc] at hF
    refine V.iload_n 2 2 2 rfl dX5_steward_9 rfl ?_
    refine V.iconst 0 dX5_steward_10 ?_
    refine V.bipush 9 9 (by decide) dX5_steward_11 ?_
    replace hF := Option.bind_eq_some_iff.mp hF
    obtain ⟨v2, hv2, hF⟩ := hF
    refine V.callS (d' := d - 1) [vi x2, vi 0, vi 9] [] (c_X5_within (by omega) hv2) okX5_within gw_314 rfl rfl (Nat.le_of_ble_eq_true rfl) (by omega) dX5_steward_13 ?_
    rintro _ _ ⟨rfl, rfl⟩
    show V E mX5_steward d 16 [(0, rf E 0), (1, vi x1), (2, vi x2)] [vi v2] M _
    refine V.if_ne (tgt := 21) rfl dX5_steward_16 (by decide) (fun hc => ?_) (fun hc => ?_)
    · rw [if_neg hc] at hF
      refine V.aload_n 0 0 0 rfl dX5_steward_21 rfl ?_
      refine V.get (by decide) (hcX5 E _) rfl inX5 1 (by decide) rfl gw_283 dX5_steward_22 ?_
      refine V.get (ltX2 is_3) (hcX2 is_3 E _) rfl inX2 13 (by decide) rfl gw_172 dX5_steward_25 ?_
      refine V.istore_n 3 3 [(3, vi (M 3 13)), (0, rf E 0), (1, vi x1), (2, vi x2)] rfl dX5_steward_28 (by decide) rfl ?_
      refine V.aload_n 0 0 1 rfl dX5_steward_29 rfl ?_
      refine V.get (by decide) (hcX5 E _) rfl inX5 1 (by decide) rfl gw_283 dX5_steward_30 ?_
      refine V.iload_n 1 1 2 rfl dX5_steward_33 rfl ?_
      refine V.iload_n 2 2 3 rfl dX5_steward_34 rfl ?_
      replace hF := Option.bind_eq_some_iff.mp hF
      obtain ⟨M3, hM3, hF⟩ := hF
      refine V.callV (d' := d - 1) [vi x1, vi x2] [] (c_X2_appoint is_3 (by omega) hM3) okX2_appoint gw_579 rfl rfl (ltX2 is_3) (hcX2 is_3 E _) rfl (Nat.le_of_ble_eq_true rfl) (by omega) dX5_steward_35 ?_
      rintro _ _ ⟨rfl, rfl⟩
      show V E mX5_steward d 38 [(3, vi (M 3 13)), (0, rf E 0), (1, vi x1), (2, vi x2)] [] M3 _
      refine V.iload_n 3 3 0 rfl dX5_steward_38 rfl ?_
      cases Option.some.inj hF
      exact V.iret rfl dX5_steward_39 hK
    · rw [if_pos hc] at hF
      refine V.iconst (-1) dX5_steward_19 ?_
      cases Option.some.inj hF
      exact V.iret rfl dX5_steward_20 hK
theorem c_X5_steward {E : En} {d : Nat} {x1 : Int} {x2 : Int} {M : Mem} {zr : Int} {zM : Mem}  (hd : 2 ≤ d) (hF : f_X5_steward x1 x2 M = some (zr, zM)) : Cn E mX5_steward d [rf E 0, vi x1, vi x2] M (fun v N => v = some (vi zr) ∧ zM = N) := by
  refine V.entry (by decide +kernel) (Nat.le_of_ble_eq_true rfl) ?_
  exact v_X5_steward_0  hd hF ⟨rfl, rfl⟩
abbrev mX5_go : MI := (yX5_go, cX5_go, 3, (some .int))
theorem okX5_go : OKV mX5_go 2 := ⟨gw_581, gw_582, gw_58, gw_583, (by decide +kernel), (by decide)⟩
def f_X5_go (n : Nat) (x1 : Int) (x2 : Int) (M : Mem) : Option (Int × Mem) :=
  (f_X2_passTold n 3 x1 x2 M).bind fun (v1, M2) =>
  some (v1, M2)
set_option maxRecDepth 10000 in
theorem v_X5_go_0 {E : En} {d : Nat} {Q : Po} {n : Nat} {x1 : Int} {x2 : Int} {M : Mem} {z : Int × Mem}  (hd : 5 ≤ d) (hF : f_X5_go n x1 x2 M = some z) (hK : Q (some (vi z.1)) z.2) : V E mX5_go d 0 [(0, rf E 0), (1, vi x1), (2, vi x2)] [] M Q := by
  unfold f_X5_go at hF
  refine V.aload_n 0 0 0 rfl dX5_go_0 rfl ?_
  refine V.get (by decide) (hcX5 E _) rfl inX5 1 (by decide) rfl gw_283 dX5_go_1 ?_
  refine V.iload_n 1 1 1 rfl dX5_go_4 rfl ?_
  refine V.iload_n 2 2 2 rfl dX5_go_5 rfl ?_
  replace hF := Option.bind_eq_some_iff.mp hF
  obtain ⟨⟨v1, M2⟩, hv1, hF⟩ := hF
  dsimp only at hF
  refine V.callV (d' := d - 1) [vi x1, vi x2] [] (c_X2_passTold is_3 (by omega) hv1) okX2_passTold gw_584 rfl rfl (ltX2 is_3) (hcX2 is_3 E _) rfl (Nat.le_of_ble_eq_true rfl) (by omega) dX5_go_6 ?_
  rintro _ _ ⟨rfl, rfl⟩
  show V E mX5_go d 9 [(0, rf E 0), (1, vi x1), (2, vi x2)] [vi v1] M2 _
  cases Option.some.inj hF
  exact V.iret rfl dX5_go_9 hK
theorem c_X5_go {E : En} {d : Nat} {n : Nat} {x1 : Int} {x2 : Int} {M : Mem} {zr : Int} {zM : Mem}  (hd : 5 ≤ d) (hF : f_X5_go n x1 x2 M = some (zr, zM)) : Cn E mX5_go d [rf E 0, vi x1, vi x2] M (fun v N => v = some (vi zr) ∧ zM = N) := by
  refine V.entry (by decide +kernel) (Nat.le_of_ble_eq_true rfl) ?_
  exact v_X5_go_0  hd hF ⟨rfl, rfl⟩
abbrev mX5_year : MI := (yX5_year, cX5_year, 2, (some .int))
theorem okX5_year : OKV mX5_year 1 := ⟨gw_623, gw_624, gw_58, gw_625, (by decide +kernel), (by decide)⟩
def f_X5_year (n : Nat) (x1 : Int) (M : Mem) : Option (Int × Mem) :=
  (f_X5_isFlag x1 M).bind fun v1 =>
  if wr v1 = 0 then
    some ((-1), M)
  else
    (f_X2_isOver 3 M).bind fun v2 =>
    if wr v2 = 0 then
      (f_X2_passByHim n 3 x1 M).bind fun (v3, M4) =>
      some (v3, M4)
    else
      some ((-3), M)
set_option maxRecDepth 10000 in
theorem v_X5_year_0 {E : En} {d : Nat} {Q : Po} {n : Nat} {x1 : Int} {M : Mem} {z : Int × Mem}  (hd : 5 ≤ d) (hF : f_X5_year n x1 M = some z) (hK : Q (some (vi z.1)) z.2) : V E mX5_year d 0 [(0, rf E 0), (1, vi x1)] [] M Q := by
  unfold f_X5_year at hF
  refine V.iload_n 1 1 1 rfl dX5_year_0 rfl ?_
  replace hF := Option.bind_eq_some_iff.mp hF
  obtain ⟨v1, hv1, hF⟩ := hF
  refine V.callS (d' := d - 1) [vi x1] [] (c_X5_isFlag (by omega) hv1) okX5_isFlag gw_507 rfl rfl (Nat.le_of_ble_eq_true rfl) (by omega) dX5_year_1 ?_
  rintro _ _ ⟨rfl, rfl⟩
  show V E mX5_year d 4 [(0, rf E 0), (1, vi x1)] [vi v1] M _
  refine V.if_ne (tgt := 9) rfl dX5_year_4 (by decide) (fun hc => ?_) (fun hc => ?_)
  · rw [if_neg hc] at hF
    refine V.aload_n 0 0 0 rfl dX5_year_9 rfl ?_
    refine V.get (by decide) (hcX5 E _) rfl inX5 1 (by decide) rfl gw_283 dX5_year_10 ?_
    replace hF := Option.bind_eq_some_iff.mp hF
    obtain ⟨v2, hv2, hF⟩ := hF
    refine V.callV (d' := d - 1) [] [] (c_X2_isOver is_3 (by omega) hv2) okX2_isOver gw_626 rfl rfl (ltX2 is_3) (hcX2 is_3 E _) rfl (Nat.le_of_ble_eq_true rfl) (by omega) dX5_year_13 ?_
    rintro _ _ ⟨rfl, rfl⟩
    show V E mX5_year d 16 [(0, rf E 0), (1, vi x1)] [vi v2] M _
    refine V.if_eq (tgt := 24) rfl dX5_year_16 (by decide) (fun hc => ?_) (fun hc => ?_)
    · rw [if_pos hc] at hF
      refine V.aload_n 0 0 0 rfl dX5_year_24 rfl ?_
      refine V.get (by decide) (hcX5 E _) rfl inX5 1 (by decide) rfl gw_283 dX5_year_25 ?_
      refine V.iload_n 1 1 1 rfl dX5_year_28 rfl ?_
      replace hF := Option.bind_eq_some_iff.mp hF
      obtain ⟨⟨v3, M4⟩, hv3, hF⟩ := hF
      dsimp only at hF
      refine V.callV (d' := d - 1) [vi x1] [] (c_X2_passByHim is_3 (by omega) hv3) okX2_passByHim gw_627 rfl rfl (ltX2 is_3) (hcX2 is_3 E _) rfl (Nat.le_of_ble_eq_true rfl) (by omega) dX5_year_29 ?_
      rintro _ _ ⟨rfl, rfl⟩
      show V E mX5_year d 32 [(0, rf E 0), (1, vi x1)] [vi v3] M4 _
      cases Option.some.inj hF
      exact V.iret rfl dX5_year_32 hK
    · rw [if_neg hc] at hF
      refine V.bipush (-3) (-3) (by decide) dX5_year_19 ?_
      refine V.goto (tgt := 32) dX5_year_21 (by decide) ?_
      cases Option.some.inj hF
      exact V.iret rfl dX5_year_32 hK
  · rw [if_pos hc] at hF
    refine V.iconst (-1) dX5_year_7 ?_
    cases Option.some.inj hF
    exact V.iret rfl dX5_year_8 hK
theorem c_X5_year {E : En} {d : Nat} {n : Nat} {x1 : Int} {M : Mem} {zr : Int} {zM : Mem}  (hd : 5 ≤ d) (hF : f_X5_year n x1 M = some (zr, zM)) : Cn E mX5_year d [rf E 0, vi x1] M (fun v N => v = some (vi zr) ∧ zM = N) := by
  refine V.entry (by decide +kernel) (Nat.le_of_ble_eq_true rfl) ?_
  exact v_X5_year_0  hd hF ⟨rfl, rfl⟩
abbrev mX5_keeps : MI := (yX5_keeps, cX5_keeps, 2, (some .int))
theorem okX5_keeps : OKV mX5_keeps 1 := ⟨gw_640, gw_641, gw_58, gw_642, (by decide +kernel), (by decide)⟩
def f_X5_keeps (x1 : Int) (M : Mem) : Option (Int) :=
  (f_X5_within x1 0 99 M).bind fun v1 =>
  if wr v1 = 0 then
    some (-1)
  else
    (f_X2_keptOf 3 x1 M).bind fun v2 =>
    some v2
set_option maxRecDepth 10000 in
theorem v_X5_keeps_0 {E : En} {d : Nat} {Q : Po} {x1 : Int} {M : Mem} {z : Int}  (hd : 3 ≤ d) (hF : f_X5_keeps x1 M = some z) (hK : Q (some (vi z)) M) : V E mX5_keeps d 0 [(0, rf E 0), (1, vi x1)] [] M Q := by
  unfold f_X5_keeps at hF
  refine V.iload_n 1 1 1 rfl dX5_keeps_0 rfl ?_
  refine V.iconst 0 dX5_keeps_1 ?_
  refine V.bipush 99 99 (by decide) dX5_keeps_2 ?_
  replace hF := Option.bind_eq_some_iff.mp hF
  obtain ⟨v1, hv1, hF⟩ := hF
  refine V.callS (d' := d - 1) [vi x1, vi 0, vi 99] [] (c_X5_within (by omega) hv1) okX5_within gw_314 rfl rfl (Nat.le_of_ble_eq_true rfl) (by omega) dX5_keeps_4 ?_
  rintro _ _ ⟨rfl, rfl⟩
  show V E mX5_keeps d 7 [(0, rf E 0), (1, vi x1)] [vi v1] M _
  refine V.if_eq (tgt := 21) rfl dX5_keeps_7 (by decide) (fun hc => ?_) (fun hc => ?_)
  · rw [if_pos hc] at hF
    refine V.iconst (-1) dX5_keeps_21 ?_
    cases Option.some.inj hF
    exact V.iret rfl dX5_keeps_22 hK
  · rw [if_neg hc] at hF
    refine V.aload_n 0 0 0 rfl dX5_keeps_10 rfl ?_
    refine V.get (by decide) (hcX5 E _) rfl inX5 1 (by decide) rfl gw_283 dX5_keeps_11 ?_
    refine V.iload_n 1 1 1 rfl dX5_keeps_14 rfl ?_
    replace hF := Option.bind_eq_some_iff.mp hF
    obtain ⟨v2, hv2, hF⟩ := hF
    refine V.callV (d' := d - 1) [vi x1] [] (c_X2_keptOf is_3 (by omega) hv2) okX2_keptOf gw_643 rfl rfl (ltX2 is_3) (hcX2 is_3 E _) rfl (Nat.le_of_ble_eq_true rfl) (by omega) dX5_keeps_15 ?_
    rintro _ _ ⟨rfl, rfl⟩
    show V E mX5_keeps d 18 [(0, rf E 0), (1, vi x1)] [vi v2] M _
    refine V.goto (tgt := 22) dX5_keeps_18 (by decide) ?_
    cases Option.some.inj hF
    exact V.iret rfl dX5_keeps_22 hK
theorem c_X5_keeps {E : En} {d : Nat} {x1 : Int} {M : Mem} {z : Int}  (hd : 3 ≤ d) (hF : f_X5_keeps x1 M = some z) : Cn E mX5_keeps d [rf E 0, vi x1] M (fun v N => v = some (vi z) ∧ M = N) := by
  refine V.entry (by decide +kernel) (Nat.le_of_ble_eq_true rfl) ?_
  exact v_X5_keeps_0  hd hF ⟨rfl, rfl⟩
abbrev mX5_ahead : MI := (yX5_ahead, cX5_ahead, 4, (some .int))
theorem okX5_ahead : OKV mX5_ahead 3 := ⟨gw_645, gw_646, gw_58, gw_647, (by decide +kernel), (by decide)⟩
def f_X5_ahead (n : Nat) (x1 : Int) (x2 : Int) (x3 : Int) (M : Mem) : Option (Int × Mem) :=
  (f_X5_isReading x1 M).bind fun v1 =>
  if wr v1 = 0 then
    some ((-1), M)
  else
    (f_X5_within x2 0 8 M).bind fun v2 =>
    if wr v2 = 0 then
      some ((-1), M)
    else
      (f_X5_within x3 0 2 M).bind fun v3 =>
      if wr v3 = 0 then
        some ((-1), M)
      else
        (f_X2_copy 8 3 M).bind fun M4 =>
        (f_X2_follow n 8 x1 x2 M4).bind fun M5 =>
        if wr x3 = 0 then
          some (M5 8 10, M5)
        else
          if wr x3 = 1 then
            some ((M5 8 17) - (M5 3 17), M5)
          else
            some ((M5 8 18) - (M5 3 18), M5)
set_option maxRecDepth 10000 in
theorem v_X5_ahead_0 {E : En} {d : Nat} {Q : Po} {n : Nat} {x1 : Int} {x2 : Int} {x3 : Int} {M : Mem} {z : Int × Mem}  (hd : 6 ≤ d) (hF : f_X5_ahead n x1 x2 x3 M = some z) (hK : Q (some (vi z.1)) z.2) : V E mX5_ahead d 0 [(0, rf E 0), (1, vi x1), (2, vi x2), (3, vi x3)] [] M Q := by
  unfold f_X5_ahead at hF
  refine V.aload_n 0 0 0 rfl dX5_ahead_0 rfl ?_
  refine V.iload_n 1 1 1 rfl dX5_ahead_1 rfl ?_
  replace hF := Option.bind_eq_some_iff.mp hF
  obtain ⟨v1, hv1, hF⟩ := hF
  refine V.callV (d' := d - 1) [vi x1] [] (c_X5_isReading (by omega) hv1) okX5_isReading gw_518 rfl rfl (by decide) (hcX5 E _) rfl (Nat.le_of_ble_eq_true rfl) (by omega) dX5_ahead_2 ?_
  rintro _ _ ⟨rfl, rfl⟩
  show V E mX5_ahead d 5 [(0, rf E 0), (1, vi x1), (2, vi x2), (3, vi x3)] [vi v1] M _
  refine V.if_eq (tgt := 27) rfl dX5_ahead_5 (by decide) (fun hc => ?_) (fun hc => ?_)
  · rw [if_pos hc] at hF
    refine V.iconst (-1) dX5_ahead_27 ?_
    cases Option.some.inj hF
    exact V.iret rfl dX5_ahead_28 hK
  · rw [if_neg hc] at hF
    refine V.iload_n 2 2 2 rfl dX5_ahead_8 rfl ?_
    refine V.iconst 0 dX5_ahead_9 ?_
    refine V.bipush 8 8 (by decide) dX5_ahead_10 ?_
    replace hF := Option.bind_eq_some_iff.mp hF
    obtain ⟨v2, hv2, hF⟩ := hF
    refine V.callS (d' := d - 1) [vi x2, vi 0, vi 8] [] (c_X5_within (by omega) hv2) okX5_within gw_314 rfl rfl (Nat.le_of_ble_eq_true rfl) (by omega) dX5_ahead_12 ?_
    rintro _ _ ⟨rfl, rfl⟩
    show V E mX5_ahead d 15 [(0, rf E 0), (1, vi x1), (2, vi x2), (3, vi x3)] [vi v2] M _
    refine V.if_eq (tgt := 27) rfl dX5_ahead_15 (by decide) (fun hc => ?_) (fun hc => ?_)
    · rw [if_pos hc] at hF
      refine V.iconst (-1) dX5_ahead_27 ?_
      cases Option.some.inj hF
      exact V.iret rfl dX5_ahead_28 hK
    · rw [if_neg hc] at hF
      refine V.iload_n 3 3 3 rfl dX5_ahead_18 rfl ?_
      refine V.iconst 0 dX5_ahead_19 ?_
      refine V.iconst 2 dX5_ahead_20 ?_
      replace hF := Option.bind_eq_some_iff.mp hF
      obtain ⟨v3, hv3, hF⟩ := hF
      refine V.callS (d' := d - 1) [vi x3, vi 0, vi 2] [] (c_X5_within (by omega) hv3) okX5_within gw_314 rfl rfl (Nat.le_of_ble_eq_true rfl) (by omega) dX5_ahead_21 ?_
      rintro _ _ ⟨rfl, rfl⟩
      show V E mX5_ahead d 24 [(0, rf E 0), (1, vi x1), (2, vi x2), (3, vi x3)] [vi v3] M _
      refine V.if_ne (tgt := 29) rfl dX5_ahead_24 (by decide) (fun hc => ?_) (fun hc => ?_)
      · rw [if_neg hc] at hF
        refine V.aload_n 0 0 0 rfl dX5_ahead_29 rfl ?_
        refine V.get (by decide) (hcX5 E _) rfl inX5 2 (by decide) rfl gw_284 dX5_ahead_30 ?_
        refine V.aload_n 0 0 0 rfl dX5_ahead_33 rfl ?_
        refine V.get (by decide) (hcX5 E _) rfl inX5 1 (by decide) rfl gw_283 dX5_ahead_34 ?_
        replace hF := Option.bind_eq_some_iff.mp hF
        obtain ⟨M4, hM4, hF⟩ := hF
        refine V.callV (d' := d - 1) [rf E 3] [] (c_X2_copy is_8 is_3 (by omega) hM4) okX2_copy gw_483 rfl rfl (ltX2 is_8) (hcX2 is_8 E _) rfl (Nat.le_of_ble_eq_true rfl) (by omega) dX5_ahead_37 ?_
        rintro _ _ ⟨rfl, rfl⟩
        show V E mX5_ahead d 40 [(0, rf E 0), (1, vi x1), (2, vi x2), (3, vi x3)] [] M4 _
        refine V.aload_n 0 0 0 rfl dX5_ahead_40 rfl ?_
        refine V.get (by decide) (hcX5 E _) rfl inX5 2 (by decide) rfl gw_284 dX5_ahead_41 ?_
        refine V.iload_n 1 1 1 rfl dX5_ahead_44 rfl ?_
        refine V.iload_n 2 2 2 rfl dX5_ahead_45 rfl ?_
        replace hF := Option.bind_eq_some_iff.mp hF
        obtain ⟨M5, hM5, hF⟩ := hF
        refine V.callV (d' := d - 1) [vi x1, vi x2] [] (c_X2_follow is_8 (by omega) hM5) okX2_follow gw_648 rfl rfl (ltX2 is_8) (hcX2 is_8 E _) rfl (Nat.le_of_ble_eq_true rfl) (by omega) dX5_ahead_46 ?_
        rintro _ _ ⟨rfl, rfl⟩
        show V E mX5_ahead d 49 [(0, rf E 0), (1, vi x1), (2, vi x2), (3, vi x3)] [] M5 _
        refine V.iload_n 3 3 3 rfl dX5_ahead_49 rfl ?_
        refine V.if_ne (tgt := 61) rfl dX5_ahead_50 (by decide) (fun hc => ?_) (fun hc => ?_)
        · rw [if_neg hc] at hF
          refine V.iload_n 3 3 3 rfl dX5_ahead_61 rfl ?_
          refine V.iconst 1 dX5_ahead_62 ?_
          refine V.icmp_ne (tgt := 84) rfl wr_1 dX5_ahead_63 (by decide) (fun hc => ?_) (fun hc => ?_)
          · rw [if_neg hc] at hF
            refine V.aload_n 0 0 0 rfl dX5_ahead_84 rfl ?_
            refine V.get (by decide) (hcX5 E _) rfl inX5 2 (by decide) rfl gw_284 dX5_ahead_85 ?_
            refine V.get (ltX2 is_8) (hcX2 is_8 E _) rfl inX2 18 (by decide) rfl gw_183 dX5_ahead_88 ?_
            refine V.aload_n 0 0 0 rfl dX5_ahead_91 rfl ?_
            refine V.get (by decide) (hcX5 E _) rfl inX5 1 (by decide) rfl gw_283 dX5_ahead_92 ?_
            refine V.get (ltX2 is_3) (hcX2 is_3 E _) rfl inX2 18 (by decide) rfl gw_183 dX5_ahead_95 ?_
            refine V.isub dX5_ahead_98 ?_
            cases Option.some.inj hF
            exact V.iret rfl dX5_ahead_99 hK
          · rw [if_pos hc] at hF
            refine V.aload_n 0 0 0 rfl dX5_ahead_66 rfl ?_
            refine V.get (by decide) (hcX5 E _) rfl inX5 2 (by decide) rfl gw_284 dX5_ahead_67 ?_
            refine V.get (ltX2 is_8) (hcX2 is_8 E _) rfl inX2 17 (by decide) rfl gw_181 dX5_ahead_70 ?_
            refine V.aload_n 0 0 0 rfl dX5_ahead_73 rfl ?_
            refine V.get (by decide) (hcX5 E _) rfl inX5 1 (by decide) rfl gw_283 dX5_ahead_74 ?_
            refine V.get (ltX2 is_3) (hcX2 is_3 E _) rfl inX2 17 (by decide) rfl gw_181 dX5_ahead_77 ?_
            refine V.isub dX5_ahead_80 ?_
            refine V.goto (tgt := 99) dX5_ahead_81 (by decide) ?_
            cases Option.some.inj hF
            exact V.iret rfl dX5_ahead_99 hK
        · rw [if_pos hc] at hF
          refine V.aload_n 0 0 0 rfl dX5_ahead_53 rfl ?_
          refine V.get (by decide) (hcX5 E _) rfl inX5 2 (by decide) rfl gw_284 dX5_ahead_54 ?_
          refine V.get (ltX2 is_8) (hcX2 is_8 E _) rfl inX2 10 (by decide) rfl gw_163 dX5_ahead_57 ?_
          cases Option.some.inj hF
          exact V.iret rfl dX5_ahead_60 hK
      · rw [if_pos hc] at hF
        refine V.iconst (-1) dX5_ahead_27 ?_
        cases Option.some.inj hF
        exact V.iret rfl dX5_ahead_28 hK
theorem c_X5_ahead {E : En} {d : Nat} {n : Nat} {x1 : Int} {x2 : Int} {x3 : Int} {M : Mem} {zr : Int} {zM : Mem}  (hd : 6 ≤ d) (hF : f_X5_ahead n x1 x2 x3 M = some (zr, zM)) : Cn E mX5_ahead d [rf E 0, vi x1, vi x2, vi x3] M (fun v N => v = some (vi zr) ∧ zM = N) := by
  refine V.entry (by decide +kernel) (Nat.le_of_ble_eq_true rfl) ?_
  exact v_X5_ahead_0  hd hF ⟨rfl, rfl⟩
abbrev mX5_when : MI := (yX5_when, cX5_when, 2, (some .int))
theorem okX5_when : OKV mX5_when 1 := ⟨gw_655, gw_656, gw_58, gw_657, (by decide +kernel), (by decide)⟩
def f_X5_when (n : Nat) (x1 : Int) (M : Mem) : Option (Int × Mem) :=
  (f_X5_isReading x1 M).bind fun v1 =>
  if wr v1 = 0 then
    some ((-1), M)
  else
    (f_X2_copy 8 3 M).bind fun M2 =>
    (f_X2_firstHunger n 8 x1 M2).bind fun (v3, M4) =>
    some (v3, M4)
set_option maxRecDepth 10000 in
theorem v_X5_when_0 {E : En} {d : Nat} {Q : Po} {n : Nat} {x1 : Int} {M : Mem} {z : Int × Mem}  (hd : 6 ≤ d) (hF : f_X5_when n x1 M = some z) (hK : Q (some (vi z.1)) z.2) : V E mX5_when d 0 [(0, rf E 0), (1, vi x1)] [] M Q := by
  unfold f_X5_when at hF
  refine V.aload_n 0 0 0 rfl dX5_when_0 rfl ?_
  refine V.iload_n 1 1 1 rfl dX5_when_1 rfl ?_
  replace hF := Option.bind_eq_some_iff.mp hF
  obtain ⟨v1, hv1, hF⟩ := hF
  refine V.callV (d' := d - 1) [vi x1] [] (c_X5_isReading (by omega) hv1) okX5_isReading gw_518 rfl rfl (by decide) (hcX5 E _) rfl (Nat.le_of_ble_eq_true rfl) (by omega) dX5_when_2 ?_
  rintro _ _ ⟨rfl, rfl⟩
  show V E mX5_when d 5 [(0, rf E 0), (1, vi x1)] [vi v1] M _
  refine V.if_ne (tgt := 10) rfl dX5_when_5 (by decide) (fun hc => ?_) (fun hc => ?_)
  · rw [if_neg hc] at hF
    refine V.aload_n 0 0 0 rfl dX5_when_10 rfl ?_
    refine V.get (by decide) (hcX5 E _) rfl inX5 2 (by decide) rfl gw_284 dX5_when_11 ?_
    refine V.aload_n 0 0 0 rfl dX5_when_14 rfl ?_
    refine V.get (by decide) (hcX5 E _) rfl inX5 1 (by decide) rfl gw_283 dX5_when_15 ?_
    replace hF := Option.bind_eq_some_iff.mp hF
    obtain ⟨M2, hM2, hF⟩ := hF
    refine V.callV (d' := d - 1) [rf E 3] [] (c_X2_copy is_8 is_3 (by omega) hM2) okX2_copy gw_483 rfl rfl (ltX2 is_8) (hcX2 is_8 E _) rfl (Nat.le_of_ble_eq_true rfl) (by omega) dX5_when_18 ?_
    rintro _ _ ⟨rfl, rfl⟩
    show V E mX5_when d 21 [(0, rf E 0), (1, vi x1)] [] M2 _
    refine V.aload_n 0 0 0 rfl dX5_when_21 rfl ?_
    refine V.get (by decide) (hcX5 E _) rfl inX5 2 (by decide) rfl gw_284 dX5_when_22 ?_
    refine V.iload_n 1 1 1 rfl dX5_when_25 rfl ?_
    replace hF := Option.bind_eq_some_iff.mp hF
    obtain ⟨⟨v3, M4⟩, hv3, hF⟩ := hF
    dsimp only at hF
    refine V.callV (d' := d - 1) [vi x1] [] (c_X2_firstHunger is_8 (by omega) hv3) okX2_firstHunger gw_658 rfl rfl (ltX2 is_8) (hcX2 is_8 E _) rfl (Nat.le_of_ble_eq_true rfl) (by omega) dX5_when_26 ?_
    rintro _ _ ⟨rfl, rfl⟩
    show V E mX5_when d 29 [(0, rf E 0), (1, vi x1)] [vi v3] M4 _
    cases Option.some.inj hF
    exact V.iret rfl dX5_when_29 hK
  · rw [if_pos hc] at hF
    refine V.iconst (-1) dX5_when_8 ?_
    cases Option.some.inj hF
    exact V.iret rfl dX5_when_9 hK
theorem c_X5_when {E : En} {d : Nat} {n : Nat} {x1 : Int} {M : Mem} {zr : Int} {zM : Mem}  (hd : 6 ≤ d) (hF : f_X5_when n x1 M = some (zr, zM)) : Cn E mX5_when d [rf E 0, vi x1] M (fun v N => v = some (vi zr) ∧ zM = N) := by
  refine V.entry (by decide +kernel) (Nat.le_of_ble_eq_true rfl) ?_
  exact v_X5_when_0  hd hF ⟨rfl, rfl⟩
abbrev mX5_can : MI := (yX5_can, cX5_can, 1, (some .int))
theorem okX5_can : OKV mX5_can 0 := ⟨gw_663, gw_664, gw_58, gw_665, (by decide +kernel), (by decide)⟩
def f_X5_can (n : Nat) (M : Mem) : Option (Int) :=
  (f_X2_possible n 3 M).bind fun v1 =>
  some v1
set_option maxRecDepth 10000 in
theorem v_X5_can_0 {E : En} {d : Nat} {Q : Po} {n : Nat} {M : Mem} {z : Int}  (hd : 3 ≤ d) (hF : f_X5_can n M = some z) (hK : Q (some (vi z)) M) : V E mX5_can d 0 [(0, rf E 0)] [] M Q := by
  unfold f_X5_can at hF
  refine V.aload_n 0 0 0 rfl dX5_can_0 rfl ?_
  refine V.get (by decide) (hcX5 E _) rfl inX5 1 (by decide) rfl gw_283 dX5_can_1 ?_
  replace hF := Option.bind_eq_some_iff.mp hF
  obtain ⟨v1, hv1, hF⟩ := hF
  refine V.callV (d' := d - 1) [] [] (c_X2_possible is_3 (by omega) hv1) okX2_possible gw_666 rfl rfl (ltX2 is_3) (hcX2 is_3 E _) rfl (Nat.le_of_ble_eq_true rfl) (by omega) dX5_can_4 ?_
  rintro _ _ ⟨rfl, rfl⟩
  show V E mX5_can d 7 [(0, rf E 0)] [vi v1] M _
  cases Option.some.inj hF
  exact V.iret rfl dX5_can_7 hK
theorem c_X5_can {E : En} {d : Nat} {n : Nat} {M : Mem} {z : Int}  (hd : 3 ≤ d) (hF : f_X5_can n M = some z) : Cn E mX5_can d [rf E 0] M (fun v N => v = some (vi z) ∧ M = N) := by
  refine V.entry (by decide +kernel) (Nat.le_of_ble_eq_true rfl) ?_
  exact v_X5_can_0  hd hF ⟨rfl, rfl⟩
abbrev mX5_fat : MI := (yX5_fat, cX5_fat, 5, (some .long))
theorem okX5_fat : OKV mX5_fat 2 := ⟨gw_672, gw_673, gw_58, gw_674, (by decide +kernel), (by decide)⟩
def f_X5_fat_17 (n : Nat) (M : Mem) : Option (Int) :=
  some (-1)
set_option maxRecDepth 10000 in
theorem v_X5_fat_17 {E : En} {d : Nat} {Q : Po} {n : Nat} {M : Mem} {z : Int}  (hd : 3 ≤ d) (hF : f_X5_fat_17 n M = some z) (hK : Q (some (vl z)) M) : V E mX5_fat d 17 [] [] M Q := by
  unfold f_X5_fat_17 at hF
  refine V.ldc2 192 (-1) (-1) (by decide) gw_675 dX5_fat_17 ?_
  cases Option.some.inj hF
  exact V.lret rfl dX5_fat_20 hK
def f_X5_fat (n : Nat) (x1 : Int) (x2 : Int) (M : Mem) : Option (Int) :=
  (f_X5_within x1 0 7 M).bind fun v1 =>
  if wr v1 = 0 then
    f_X5_fat_17 n M
  else
    (f_X5_isFlag x2 M).bind fun v2 =>
    if wr v2 = 0 then
      f_X5_fat_17 n M
    else
      (f_X2_possible n 3 M).bind fun v3 =>
      if wr v3 = 0 then
        some (-2)
      else
        (f_X2_telling n 3 v3 x1 1 M).bind fun v4 =>
        (f_X2_oddsOf n 3 v4 M).bind fun v5 =>
        (f_X2_oddsOf n 3 v3 M).bind fun v6 =>
        (f_X5_fraction n v5 v6 x2 M).bind fun v7 =>
        some v7
set_option maxRecDepth 10000 in
theorem v_X5_fat_0 {E : En} {d : Nat} {Q : Po} {n : Nat} {x1 : Int} {x2 : Int} {M : Mem} {z : Int}  (hd : 3 ≤ d) (hF : f_X5_fat n x1 x2 M = some z) (hK : Q (some (vl z)) M) : V E mX5_fat d 0 [(0, rf E 0), (1, vi x1), (2, vi x2)] [] M Q := by
  unfold f_X5_fat at hF
  refine V.iload_n 1 1 1 rfl dX5_fat_0 rfl ?_
  refine V.iconst 0 dX5_fat_1 ?_
  refine V.bipush 7 7 (by decide) dX5_fat_2 ?_
  replace hF := Option.bind_eq_some_iff.mp hF
  obtain ⟨v1, hv1, hF⟩ := hF
  refine V.callS (d' := d - 1) [vi x1, vi 0, vi 7] [] (c_X5_within (by omega) hv1) okX5_within gw_314 rfl rfl (Nat.le_of_ble_eq_true rfl) (by omega) dX5_fat_4 ?_
  rintro _ _ ⟨rfl, rfl⟩
  show V E mX5_fat d 7 [(0, rf E 0), (1, vi x1), (2, vi x2)] [vi v1] M _
  refine V.if_eq (tgt := 17) rfl dX5_fat_7 (by decide) (fun hc => ?_) (fun hc => ?_)
  · rw [if_pos hc] at hF
    refine V.sub _ [] rfl ?_
    exact v_X5_fat_17 hd hF hK
  · rw [if_neg hc] at hF
    refine V.iload_n 2 2 2 rfl dX5_fat_10 rfl ?_
    replace hF := Option.bind_eq_some_iff.mp hF
    obtain ⟨v2, hv2, hF⟩ := hF
    refine V.callS (d' := d - 1) [vi x2] [] (c_X5_isFlag (by omega) hv2) okX5_isFlag gw_507 rfl rfl (Nat.le_of_ble_eq_true rfl) (by omega) dX5_fat_11 ?_
    rintro _ _ ⟨rfl, rfl⟩
    show V E mX5_fat d 14 [(0, rf E 0), (1, vi x1), (2, vi x2)] [vi v2] M _
    refine V.if_ne (tgt := 21) rfl dX5_fat_14 (by decide) (fun hc => ?_) (fun hc => ?_)
    · rw [if_neg hc] at hF
      refine V.aload_n 0 0 0 rfl dX5_fat_21 rfl ?_
      refine V.get (by decide) (hcX5 E _) rfl inX5 1 (by decide) rfl gw_283 dX5_fat_22 ?_
      replace hF := Option.bind_eq_some_iff.mp hF
      obtain ⟨v3, hv3, hF⟩ := hF
      refine V.callV (d' := d - 1) [] [] (c_X2_possible is_3 (by omega) hv3) okX2_possible gw_666 rfl rfl (ltX2 is_3) (hcX2 is_3 E _) rfl (Nat.le_of_ble_eq_true rfl) (by omega) dX5_fat_25 ?_
      rintro _ _ ⟨rfl, rfl⟩
      show V E mX5_fat d 28 [(0, rf E 0), (1, vi x1), (2, vi x2)] [vi v3] M _
      refine V.istore_n 3 3 [(3, vi v3), (0, rf E 0), (1, vi x1), (2, vi x2)] rfl dX5_fat_28 (by decide) rfl ?_
      refine V.iload_n 3 3 0 rfl dX5_fat_29 rfl ?_
      refine V.if_ne (tgt := 37) rfl dX5_fat_30 (by decide) (fun hc => ?_) (fun hc => ?_)
      · rw [if_neg hc] at hF
        refine V.aload_n 0 0 1 rfl dX5_fat_37 rfl ?_
        refine V.get (by decide) (hcX5 E _) rfl inX5 1 (by decide) rfl gw_283 dX5_fat_38 ?_
        refine V.iload_n 3 3 0 rfl dX5_fat_41 rfl ?_
        refine V.iload_n 1 1 2 rfl dX5_fat_42 rfl ?_
        refine V.iconst 1 dX5_fat_43 ?_
        replace hF := Option.bind_eq_some_iff.mp hF
        obtain ⟨v4, hv4, hF⟩ := hF
        refine V.callV (d' := d - 1) [vi v3, vi x1, vi 1] [] (c_X2_telling is_3 (by omega) hv4) okX2_telling gw_677 rfl rfl (ltX2 is_3) (hcX2 is_3 E _) rfl (Nat.le_of_ble_eq_true rfl) (by omega) dX5_fat_44 ?_
        rintro _ _ ⟨rfl, rfl⟩
        show V E mX5_fat d 47 [(3, vi v3), (0, rf E 0), (1, vi x1), (2, vi x2)] [vi v4] M _
        refine V.istore 4 [(4, vi v4), (3, vi v3), (0, rf E 0), (1, vi x1), (2, vi x2)] dX5_fat_47 (by decide) rfl ?_
        refine V.aload_n 0 0 2 rfl dX5_fat_49 rfl ?_
        refine V.get (by decide) (hcX5 E _) rfl inX5 1 (by decide) rfl gw_283 dX5_fat_50 ?_
        refine V.iload 4 0 dX5_fat_53 rfl ?_
        replace hF := Option.bind_eq_some_iff.mp hF
        obtain ⟨v5, hv5, hF⟩ := hF
        refine V.callV (d' := d - 1) [vi v4] [] (c_X2_oddsOf is_3 (by omega) hv5) okX2_oddsOf gw_682 rfl rfl (ltX2 is_3) (hcX2 is_3 E _) rfl (Nat.le_of_ble_eq_true rfl) (by omega) dX5_fat_55 ?_
        rintro _ _ ⟨rfl, rfl⟩
        show V E mX5_fat d 58 [(4, vi v4), (3, vi v3), (0, rf E 0), (1, vi x1), (2, vi x2)] [vi v5] M _
        refine V.aload_n 0 0 2 rfl dX5_fat_58 rfl ?_
        refine V.get (by decide) (hcX5 E _) rfl inX5 1 (by decide) rfl gw_283 dX5_fat_59 ?_
        refine V.iload_n 3 3 1 rfl dX5_fat_62 rfl ?_
        replace hF := Option.bind_eq_some_iff.mp hF
        obtain ⟨v6, hv6, hF⟩ := hF
        refine V.callV (d' := d - 1) [vi v3] [vi v5] (c_X2_oddsOf is_3 (by omega) hv6) okX2_oddsOf gw_682 rfl rfl (ltX2 is_3) (hcX2 is_3 E _) rfl (Nat.le_of_ble_eq_true rfl) (by omega) dX5_fat_63 ?_
        rintro _ _ ⟨rfl, rfl⟩
        show V E mX5_fat d 66 [(4, vi v4), (3, vi v3), (0, rf E 0), (1, vi x1), (2, vi x2)] [vi v6, vi v5] M _
        refine V.iload_n 2 2 4 rfl dX5_fat_66 rfl ?_
        replace hF := Option.bind_eq_some_iff.mp hF
        obtain ⟨v7, hv7, hF⟩ := hF
        refine V.callS (d' := d - 1) [vi v5, vi v6, vi x2] [] (c_X5_fraction (by omega) hv7) okX5_fraction gw_686 rfl rfl (Nat.le_of_ble_eq_true rfl) (by omega) dX5_fat_67 ?_
        rintro _ _ ⟨rfl, rfl⟩
        show V E mX5_fat d 70 [(4, vi v4), (3, vi v3), (0, rf E 0), (1, vi x1), (2, vi x2)] [vl v7] M _
        cases Option.some.inj hF
        exact V.lret rfl dX5_fat_70 hK
      · rw [if_pos hc] at hF
        refine V.ldc2 194 (-2) (-2) (by decide) gw_676 dX5_fat_33 ?_
        cases Option.some.inj hF
        exact V.lret rfl dX5_fat_36 hK
    · rw [if_pos hc] at hF
      refine V.sub _ [] rfl ?_
      exact v_X5_fat_17 hd hF hK
theorem c_X5_fat {E : En} {d : Nat} {n : Nat} {x1 : Int} {x2 : Int} {M : Mem} {z : Int}  (hd : 3 ≤ d) (hF : f_X5_fat n x1 x2 M = some z) : Cn E mX5_fat d [rf E 0, vi x1, vi x2] M (fun v N => v = some (vl z) ∧ M = N) := by
  refine V.entry (by decide +kernel) (Nat.le_of_ble_eq_true rfl) ?_
  exact v_X5_fat_0  hd hF ⟨rfl, rfl⟩
abbrev mX5_best : MI := (yX5_best, cX5_best, 4, (some .long))
theorem okX5_best : OKV mX5_best 2 := ⟨gw_696, gw_697, gw_58, gw_698, (by decide +kernel), (by decide)⟩
def f_X5_best_16 (n : Nat) (M : Mem) : Option (Int × Mem) :=
  some ((-1), M)
set_option maxRecDepth 10000 in
theorem v_X5_best_16 {E : En} {d : Nat} {Q : Po} {n : Nat} {M : Mem} {z : Int × Mem}  (hd : 15 ≤ d) (hF : f_X5_best_16 n M = some z) (hK : Q (some (vl z.1)) z.2) : V E mX5_best d 16 [] [] M Q := by
  unfold f_X5_best_16 at hF
  refine V.ldc2 192 (-1) (-1) (by decide) gw_675 dX5_best_16 ?_
  cases Option.some.inj hF
  exact V.lret rfl dX5_best_19 hK
def f_X5_best (n : Nat) (x1 : Int) (x2 : Int) (M : Mem) : Option (Int × Mem) :=
  (f_X5_within x1 0 5 M).bind fun v1 =>
  if wr v1 = 0 then
    f_X5_best_16 n M
  else
    (f_X5_isFlag x2 M).bind fun v2 =>
    if wr v2 = 0 then
      f_X5_best_16 n M
    else
      (f_X2_possible n 3 M).bind fun v3 =>
      if wr v3 = 0 then
        some ((-2), M)
      else
        (f_X1_greatest n 3 x1 v3 M).bind fun (v4, M5) =>
        (f_X2_oddsOf n 3 v3 M5).bind fun v6 =>
        (f_X5_fraction n v4 v6 x2 M5).bind fun v7 =>
        some (v7, M5)
set_option maxRecDepth 10000 in
theorem v_X5_best_0 {E : En} {d : Nat} {Q : Po} {n : Nat} {x1 : Int} {x2 : Int} {M : Mem} {z : Int × Mem}  (hd : 15 ≤ d) (hF : f_X5_best n x1 x2 M = some z) (hK : Q (some (vl z.1)) z.2) : V E mX5_best d 0 [(0, rf E 0), (1, vi x1), (2, vi x2)] [] M Q := by
  unfold f_X5_best at hF
  refine V.iload_n 1 1 1 rfl dX5_best_0 rfl ?_
  refine V.iconst 0 dX5_best_1 ?_
  refine V.iconst 5 dX5_best_2 ?_
  replace hF := Option.bind_eq_some_iff.mp hF
  obtain ⟨v1, hv1, hF⟩ := hF
  refine V.callS (d' := d - 1) [vi x1, vi 0, vi 5] [] (c_X5_within (by omega) hv1) okX5_within gw_314 rfl rfl (Nat.le_of_ble_eq_true rfl) (by omega) dX5_best_3 ?_
  rintro _ _ ⟨rfl, rfl⟩
  show V E mX5_best d 6 [(0, rf E 0), (1, vi x1), (2, vi x2)] [vi v1] M _
  refine V.if_eq (tgt := 16) rfl dX5_best_6 (by decide) (fun hc => ?_) (fun hc => ?_)
  · rw [if_pos hc] at hF
    refine V.sub _ [] rfl ?_
    exact v_X5_best_16 hd hF hK
  · rw [if_neg hc] at hF
    refine V.iload_n 2 2 2 rfl dX5_best_9 rfl ?_
    replace hF := Option.bind_eq_some_iff.mp hF
    obtain ⟨v2, hv2, hF⟩ := hF
    refine V.callS (d' := d - 1) [vi x2] [] (c_X5_isFlag (by omega) hv2) okX5_isFlag gw_507 rfl rfl (Nat.le_of_ble_eq_true rfl) (by omega) dX5_best_10 ?_
    rintro _ _ ⟨rfl, rfl⟩
    show V E mX5_best d 13 [(0, rf E 0), (1, vi x1), (2, vi x2)] [vi v2] M _
    refine V.if_ne (tgt := 20) rfl dX5_best_13 (by decide) (fun hc => ?_) (fun hc => ?_)
    · rw [if_neg hc] at hF
      refine V.aload_n 0 0 0 rfl dX5_best_20 rfl ?_
      refine V.get (by decide) (hcX5 E _) rfl inX5 1 (by decide) rfl gw_283 dX5_best_21 ?_
      replace hF := Option.bind_eq_some_iff.mp hF
      obtain ⟨v3, hv3, hF⟩ := hF
      refine V.callV (d' := d - 1) [] [] (c_X2_possible is_3 (by omega) hv3) okX2_possible gw_666 rfl rfl (ltX2 is_3) (hcX2 is_3 E _) rfl (Nat.le_of_ble_eq_true rfl) (by omega) dX5_best_24 ?_
      rintro _ _ ⟨rfl, rfl⟩
      show V E mX5_best d 27 [(0, rf E 0), (1, vi x1), (2, vi x2)] [vi v3] M _
      refine V.istore_n 3 3 [(3, vi v3), (0, rf E 0), (1, vi x1), (2, vi x2)] rfl dX5_best_27 (by decide) rfl ?_
      refine V.iload_n 3 3 0 rfl dX5_best_28 rfl ?_
      refine V.if_ne (tgt := 36) rfl dX5_best_29 (by decide) (fun hc => ?_) (fun hc => ?_)
      · rw [if_neg hc] at hF
        refine V.aload_n 0 0 1 rfl dX5_best_36 rfl ?_
        refine V.get (by decide) (hcX5 E _) rfl inX5 3 (by decide) rfl gw_285 dX5_best_37 ?_
        refine V.aload_n 0 0 1 rfl dX5_best_40 rfl ?_
        refine V.get (by decide) (hcX5 E _) rfl inX5 1 (by decide) rfl gw_283 dX5_best_41 ?_
        refine V.iload_n 1 1 2 rfl dX5_best_44 rfl ?_
        refine V.iload_n 3 3 0 rfl dX5_best_45 rfl ?_
        replace hF := Option.bind_eq_some_iff.mp hF
        obtain ⟨⟨v4, M5⟩, hv4, hF⟩ := hF
        dsimp only at hF
        refine V.callV (d' := d - 1) [rf E 3, vi x1, vi v3] [] (c_X1_greatest is_3 (by omega) hv4) okX1_greatest gw_699 rfl rfl (by decide) (hcX1 E _) rfl (Nat.le_of_ble_eq_true rfl) (by omega) dX5_best_46 ?_
        rintro _ _ ⟨rfl, rfl⟩
        show V E mX5_best d 49 [(3, vi v3), (0, rf E 0), (1, vi x1), (2, vi x2)] [vi v4] M5 _
        refine V.aload_n 0 0 1 rfl dX5_best_49 rfl ?_
        refine V.get (by decide) (hcX5 E _) rfl inX5 1 (by decide) rfl gw_283 dX5_best_50 ?_
        refine V.iload_n 3 3 0 rfl dX5_best_53 rfl ?_
        replace hF := Option.bind_eq_some_iff.mp hF
        obtain ⟨v6, hv6, hF⟩ := hF
        refine V.callV (d' := d - 1) [vi v3] [vi v4] (c_X2_oddsOf is_3 (by omega) hv6) okX2_oddsOf gw_682 rfl rfl (ltX2 is_3) (hcX2 is_3 E _) rfl (Nat.le_of_ble_eq_true rfl) (by omega) dX5_best_54 ?_
        rintro _ _ ⟨rfl, rfl⟩
        show V E mX5_best d 57 [(3, vi v3), (0, rf E 0), (1, vi x1), (2, vi x2)] [vi v6, vi v4] M5 _
        refine V.iload_n 2 2 3 rfl dX5_best_57 rfl ?_
        replace hF := Option.bind_eq_some_iff.mp hF
        obtain ⟨v7, hv7, hF⟩ := hF
        refine V.callS (d' := d - 1) [vi v4, vi v6, vi x2] [] (c_X5_fraction (by omega) hv7) okX5_fraction gw_686 rfl rfl (Nat.le_of_ble_eq_true rfl) (by omega) dX5_best_58 ?_
        rintro _ _ ⟨rfl, rfl⟩
        show V E mX5_best d 61 [(3, vi v3), (0, rf E 0), (1, vi x1), (2, vi x2)] [vl v7] M5 _
        cases Option.some.inj hF
        exact V.lret rfl dX5_best_61 hK
      · rw [if_pos hc] at hF
        refine V.ldc2 194 (-2) (-2) (by decide) gw_676 dX5_best_32 ?_
        cases Option.some.inj hF
        exact V.lret rfl dX5_best_35 hK
    · rw [if_pos hc] at hF
      refine V.sub _ [] rfl ?_
      exact v_X5_best_16 hd hF hK
theorem c_X5_best {E : En} {d : Nat} {n : Nat} {x1 : Int} {x2 : Int} {M : Mem} {zr : Int} {zM : Mem}  (hd : 15 ≤ d) (hF : f_X5_best n x1 x2 M = some (zr, zM)) : Cn E mX5_best d [rf E 0, vi x1, vi x2] M (fun v N => v = some (vl zr) ∧ zM = N) := by
  refine V.entry (by decide +kernel) (Nat.le_of_ble_eq_true rfl) ?_
  exact v_X5_best_0  hd hF ⟨rfl, rfl⟩
abbrev mX5_choice : MI := (yX5_choice, cX5_choice, 5, (some .int))
theorem okX5_choice : OKV mX5_choice 2 := ⟨gw_734, gw_735, gw_58, gw_736, (by decide +kernel), (by decide)⟩
def f_X5_choice (n : Nat) (x1 : Int) (x2 : Int) (M : Mem) : Option (Int × Mem) :=
  (f_X5_within x1 1 5 M).bind fun v1 =>
  if wr v1 = 0 then
    some ((-1), M)
  else
    (f_X5_isFlag x2 M).bind fun v2 =>
    if wr v2 = 0 then
      some ((-1), M)
    else
      (f_X2_possible n 3 M).bind fun v3 =>
      if wr v3 = 0 then
        some ((-2), M)
      else
        (f_X2_isOver 3 M).bind fun v4 =>
        if wr v4 = 0 then
          (f_X2_telling n 3 v3 (M 3 15) x2 M).bind fun v5 =>
          if wr v5 = 0 then
            some ((-4), M)
          else
            (f_X1_leastChoice n 3 x1 v5 x2 M).bind fun (v6, M7) =>
            some (v6, M7)
        else
          some ((-2), M)
set_option maxRecDepth 10000 in
theorem v_X5_choice_0 {E : En} {d : Nat} {Q : Po} {n : Nat} {x1 : Int} {x2 : Int} {M : Mem} {z : Int × Mem}  (hd : 15 ≤ d) (hF : f_X5_choice n x1 x2 M = some z) (hK : Q (some (vi z.1)) z.2) : V E mX5_choice d 0 [(0, rf E 0), (1, vi x1), (2, vi x2)] [] M Q := by
  unfold f_X5_choice at hF
  refine V.iload_n 1 1 1 rfl dX5_choice_0 rfl ?_
  refine V.iconst 1 dX5_choice_1 ?_
  refine V.iconst 5 dX5_choice_2 ?_
  replace hF := Option.bind_eq_some_iff.mp hF
  obtain ⟨v1, hv1, hF⟩ := hF
  refine V.callS (d' := d - 1) [vi x1, vi 1, vi 5] [] (c_X5_within (by omega) hv1) okX5_within gw_314 rfl rfl (Nat.le_of_ble_eq_true rfl) (by omega) dX5_choice_3 ?_
  rintro _ _ ⟨rfl, rfl⟩
  show V E mX5_choice d 6 [(0, rf E 0), (1, vi x1), (2, vi x2)] [vi v1] M _
  refine V.if_eq (tgt := 16) rfl dX5_choice_6 (by decide) (fun hc => ?_) (fun hc => ?_)
  · rw [if_pos hc] at hF
    refine V.iconst (-1) dX5_choice_16 ?_
    cases Option.some.inj hF
    exact V.iret rfl dX5_choice_17 hK
  · rw [if_neg hc] at hF
    refine V.iload_n 2 2 2 rfl dX5_choice_9 rfl ?_
    replace hF := Option.bind_eq_some_iff.mp hF
    obtain ⟨v2, hv2, hF⟩ := hF
    refine V.callS (d' := d - 1) [vi x2] [] (c_X5_isFlag (by omega) hv2) okX5_isFlag gw_507 rfl rfl (Nat.le_of_ble_eq_true rfl) (by omega) dX5_choice_10 ?_
    rintro _ _ ⟨rfl, rfl⟩
    show V E mX5_choice d 13 [(0, rf E 0), (1, vi x1), (2, vi x2)] [vi v2] M _
    refine V.if_ne (tgt := 18) rfl dX5_choice_13 (by decide) (fun hc => ?_) (fun hc => ?_)
    · rw [if_neg hc] at hF
      refine V.aload_n 0 0 0 rfl dX5_choice_18 rfl ?_
      refine V.get (by decide) (hcX5 E _) rfl inX5 1 (by decide) rfl gw_283 dX5_choice_19 ?_
      replace hF := Option.bind_eq_some_iff.mp hF
      obtain ⟨v3, hv3, hF⟩ := hF
      refine V.callV (d' := d - 1) [] [] (c_X2_possible is_3 (by omega) hv3) okX2_possible gw_666 rfl rfl (ltX2 is_3) (hcX2 is_3 E _) rfl (Nat.le_of_ble_eq_true rfl) (by omega) dX5_choice_22 ?_
      rintro _ _ ⟨rfl, rfl⟩
      show V E mX5_choice d 25 [(0, rf E 0), (1, vi x1), (2, vi x2)] [vi v3] M _
      refine V.istore_n 3 3 [(3, vi v3), (0, rf E 0), (1, vi x1), (2, vi x2)] rfl dX5_choice_25 (by decide) rfl ?_
      refine V.iload_n 3 3 0 rfl dX5_choice_26 rfl ?_
      refine V.if_eq (tgt := 40) rfl dX5_choice_27 (by decide) (fun hc => ?_) (fun hc => ?_)
      · rw [if_pos hc] at hF
        refine V.bipush (-2) (-2) (by decide) dX5_choice_40 ?_
        cases Option.some.inj hF
        exact V.iret rfl dX5_choice_42 hK
      · rw [if_neg hc] at hF
        refine V.aload_n 0 0 1 rfl dX5_choice_30 rfl ?_
        refine V.get (by decide) (hcX5 E _) rfl inX5 1 (by decide) rfl gw_283 dX5_choice_31 ?_
        replace hF := Option.bind_eq_some_iff.mp hF
        obtain ⟨v4, hv4, hF⟩ := hF
        refine V.callV (d' := d - 1) [] [] (c_X2_isOver is_3 (by omega) hv4) okX2_isOver gw_626 rfl rfl (ltX2 is_3) (hcX2 is_3 E _) rfl (Nat.le_of_ble_eq_true rfl) (by omega) dX5_choice_34 ?_
        rintro _ _ ⟨rfl, rfl⟩
        show V E mX5_choice d 37 [(3, vi v3), (0, rf E 0), (1, vi x1), (2, vi x2)] [vi v4] M _
        refine V.if_eq (tgt := 43) rfl dX5_choice_37 (by decide) (fun hc => ?_) (fun hc => ?_)
        · rw [if_pos hc] at hF
          refine V.aload_n 0 0 1 rfl dX5_choice_43 rfl ?_
          refine V.get (by decide) (hcX5 E _) rfl inX5 1 (by decide) rfl gw_283 dX5_choice_44 ?_
          refine V.iload_n 3 3 0 rfl dX5_choice_47 rfl ?_
          refine V.aload_n 0 0 1 rfl dX5_choice_48 rfl ?_
          refine V.get (by decide) (hcX5 E _) rfl inX5 1 (by decide) rfl gw_283 dX5_choice_49 ?_
          refine V.get (ltX2 is_3) (hcX2 is_3 E _) rfl inX2 15 (by decide) rfl gw_177 dX5_choice_52 ?_
          refine V.iload_n 2 2 3 rfl dX5_choice_55 rfl ?_
          replace hF := Option.bind_eq_some_iff.mp hF
          obtain ⟨v5, hv5, hF⟩ := hF
          refine V.callV (d' := d - 1) [vi v3, vi (M 3 15), vi x2] [] (c_X2_telling is_3 (by omega) hv5) okX2_telling gw_677 rfl rfl (ltX2 is_3) (hcX2 is_3 E _) rfl (Nat.le_of_ble_eq_true rfl) (by omega) dX5_choice_56 ?_
          rintro _ _ ⟨rfl, rfl⟩
          show V E mX5_choice d 59 [(3, vi v3), (0, rf E 0), (1, vi x1), (2, vi x2)] [vi v5] M _
          refine V.istore 4 [(4, vi v5), (3, vi v3), (0, rf E 0), (1, vi x1), (2, vi x2)] dX5_choice_59 (by decide) rfl ?_
          refine V.iload 4 0 dX5_choice_61 rfl ?_
          refine V.if_ne (tgt := 71) rfl dX5_choice_63 (by decide) (fun hc => ?_) (fun hc => ?_)
          · rw [if_neg hc] at hF
            refine V.aload_n 0 0 2 rfl dX5_choice_71 rfl ?_
            refine V.get (by decide) (hcX5 E _) rfl inX5 3 (by decide) rfl gw_285 dX5_choice_72 ?_
            refine V.aload_n 0 0 2 rfl dX5_choice_75 rfl ?_
            refine V.get (by decide) (hcX5 E _) rfl inX5 1 (by decide) rfl gw_283 dX5_choice_76 ?_
            refine V.iload_n 1 1 3 rfl dX5_choice_79 rfl ?_
            refine V.iload 4 0 dX5_choice_80 rfl ?_
            refine V.iload_n 2 2 4 rfl dX5_choice_82 rfl ?_
            replace hF := Option.bind_eq_some_iff.mp hF
            obtain ⟨⟨v6, M7⟩, hv6, hF⟩ := hF
            dsimp only at hF
            refine V.callV (d' := d - 1) [rf E 3, vi x1, vi v5, vi x2] [] (c_X1_leastChoice is_3 (by omega) hv6) okX1_leastChoice gw_737 rfl rfl (by decide) (hcX1 E _) rfl (Nat.le_of_ble_eq_true rfl) (by omega) dX5_choice_83 ?_
            rintro _ _ ⟨rfl, rfl⟩
            show V E mX5_choice d 86 [(4, vi v5), (3, vi v3), (0, rf E 0), (1, vi x1), (2, vi x2)] [vi v6] M7 _
            cases Option.some.inj hF
            exact V.iret rfl dX5_choice_86 hK
          · rw [if_pos hc] at hF
            refine V.bipush (-4) (-4) (by decide) dX5_choice_66 ?_
            refine V.goto (tgt := 86) dX5_choice_68 (by decide) ?_
            cases Option.some.inj hF
            exact V.iret rfl dX5_choice_86 hK
        · rw [if_neg hc] at hF
          refine V.bipush (-2) (-2) (by decide) dX5_choice_40 ?_
          cases Option.some.inj hF
          exact V.iret rfl dX5_choice_42 hK
    · rw [if_pos hc] at hF
      refine V.iconst (-1) dX5_choice_16 ?_
      cases Option.some.inj hF
      exact V.iret rfl dX5_choice_17 hK
theorem c_X5_choice {E : En} {d : Nat} {n : Nat} {x1 : Int} {x2 : Int} {M : Mem} {zr : Int} {zM : Mem}  (hd : 15 ≤ d) (hF : f_X5_choice n x1 x2 M = some (zr, zM)) : Cn E mX5_choice d [rf E 0, vi x1, vi x2] M (fun v N => v = some (vi zr) ∧ zM = N) := by
  refine V.entry (by decide +kernel) (Nat.le_of_ble_eq_true rfl) ?_
  exact v_X5_choice_0  hd hF ⟨rfl, rfl⟩
abbrev mX5_knowing : MI := (yX5_knowing, cX5_knowing, 6, (some .long))
theorem okX5_knowing : OKV mX5_knowing 2 := ⟨gw_743, gw_744, gw_58, gw_745, (by decide +kernel), (by decide)⟩
def f_X5_knowing_16 (n : Nat) (M : Mem) : Option (Int × Mem) :=
  some ((-1), M)
set_option maxRecDepth 10000 in
theorem v_X5_knowing_16 {E : En} {d : Nat} {Q : Po} {n : Nat} {M : Mem} {z : Int × Mem}  (hd : 15 ≤ d) (hF : f_X5_knowing_16 n M = some z) (hK : Q (some (vl z.1)) z.2) : V E mX5_knowing d 16 [] [] M Q := by
  unfold f_X5_knowing_16 at hF
  refine V.ldc2 192 (-1) (-1) (by decide) gw_675 dX5_knowing_16 ?_
  cases Option.some.inj hF
  exact V.lret rfl dX5_knowing_19 hK
def f_X5_knowing_90 (n : Nat) (x1 : Int) (x2 : Int) (x3 : Int) (x4 : Int) (M : Mem) : Option (Int × Mem) :=
  (f_X1_greatest n 3 x1 x3 M).bind fun (v1, M2) =>
  (f_X2_oddsOf n 3 x3 M2).bind fun v3 =>
  (f_X5_fraction n (x4 - v1) v3 x2 M2).bind fun v4 =>
  some (v4, M2)
set_option maxRecDepth 10000 in
theorem v_X5_knowing_90 {E : En} {d : Nat} {Q : Po} {n : Nat} {x1 : Int} {x2 : Int} {x3 : Int} {x4 : Int} {M : Mem} {z : Int × Mem}  (hd : 15 ≤ d) (hF : f_X5_knowing_90 n x1 x2 x3 x4 M = some z) (hK : Q (some (vl z.1)) z.2) : V E mX5_knowing d 90 [(0, rf E 0), (1, vi x1), (2, vi x2), (3, vi x3), (4, vi x4)] [] M Q := by
  unfold f_X5_knowing_90 at hF
  refine V.aload_n 0 0 0 rfl dX5_knowing_90 rfl ?_
  refine V.get (by decide) (hcX5 E _) rfl inX5 3 (by decide) rfl gw_285 dX5_knowing_91 ?_
  refine V.aload_n 0 0 0 rfl dX5_knowing_94 rfl ?_
  refine V.get (by decide) (hcX5 E _) rfl inX5 1 (by decide) rfl gw_283 dX5_knowing_95 ?_
  refine V.iload_n 1 1 1 rfl dX5_knowing_98 rfl ?_
  refine V.iload_n 3 3 3 rfl dX5_knowing_99 rfl ?_
  replace hF := Option.bind_eq_some_iff.mp hF
  obtain ⟨⟨v1, M2⟩, hv1, hF⟩ := hF
  dsimp only at hF
  refine V.callV (d' := d - 1) [rf E 3, vi x1, vi x3] [] (c_X1_greatest is_3 (by omega) hv1) okX1_greatest gw_699 rfl rfl (by decide) (hcX1 E _) rfl (Nat.le_of_ble_eq_true rfl) (by omega) dX5_knowing_100 ?_
  rintro _ _ ⟨rfl, rfl⟩
  show V E mX5_knowing d 103 [(0, rf E 0), (1, vi x1), (2, vi x2), (3, vi x3), (4, vi x4)] [vi v1] M2 _
  refine V.istore 5 [(5, vi v1), (0, rf E 0), (1, vi x1), (2, vi x2), (3, vi x3), (4, vi x4)] dX5_knowing_103 (by decide) rfl ?_
  refine V.iload 4 5 dX5_knowing_105 rfl ?_
  refine V.iload 5 0 dX5_knowing_107 rfl ?_
  refine V.isub dX5_knowing_109 ?_
  refine V.aload_n 0 0 1 rfl dX5_knowing_110 rfl ?_
  refine V.get (by decide) (hcX5 E _) rfl inX5 1 (by decide) rfl gw_283 dX5_knowing_111 ?_
  refine V.iload_n 3 3 4 rfl dX5_knowing_114 rfl ?_
  replace hF := Option.bind_eq_some_iff.mp hF
  obtain ⟨v3, hv3, hF⟩ := hF
  refine V.callV (d' := d - 1) [vi x3] [vi (x4 - v1)] (c_X2_oddsOf is_3 (by omega) hv3) okX2_oddsOf gw_682 rfl rfl (ltX2 is_3) (hcX2 is_3 E _) rfl (Nat.le_of_ble_eq_true rfl) (by omega) dX5_knowing_115 ?_
  rintro _ _ ⟨rfl, rfl⟩
  show V E mX5_knowing d 118 [(5, vi v1), (0, rf E 0), (1, vi x1), (2, vi x2), (3, vi x3), (4, vi x4)] [vi v3, vi (x4 - v1)] M2 _
  refine V.iload_n 2 2 3 rfl dX5_knowing_118 rfl ?_
  replace hF := Option.bind_eq_some_iff.mp hF
  obtain ⟨v4, hv4, hF⟩ := hF
  refine V.callS (d' := d - 1) [vi (x4 - v1), vi v3, vi x2] [] (c_X5_fraction (by omega) hv4) okX5_fraction gw_686 rfl rfl (Nat.le_of_ble_eq_true rfl) (by omega) dX5_knowing_119 ?_
  rintro _ _ ⟨rfl, rfl⟩
  show V E mX5_knowing d 122 [(5, vi v1), (0, rf E 0), (1, vi x1), (2, vi x2), (3, vi x3), (4, vi x4)] [vl v4] M2 _
  cases Option.some.inj hF
  exact V.lret rfl dX5_knowing_122 hK
def f_X5_knowing_84 (n : Nat) (x1 : Int) (x2 : Int) (x3 : Int) (x4 : Int) (x5 : Int) (M : Mem) : Option ((Int × Int × Mem) ⊕ (Int × Mem)) :=
  some (.inl (x4, x5 + 1, M))
set_option maxRecDepth 10000 in
theorem v_X5_knowing_84 {E : En} {d : Nat} {Q : Po} {n : Nat} {x1 : Int} {x2 : Int} {x3 : Int} {x4 : Int} {x5 : Int} {M : Mem} {z : (Int × Int × Mem) ⊕ (Int × Mem)}  (hd : 15 ≤ d) (hF : f_X5_knowing_84 n x1 x2 x3 x4 x5 M = some z) (hC0 : ∀ s' : Int × Int × Mem, z = (.inl s') → V E mX5_knowing d 42 [(0, rf E 0), (1, vi x1), (2, vi x2), (3, vi x3), (4, vi (s'.1)), (5, vi (s'.2.1))] [] s'.2.2 Q) (hX : ∀ z0 : Int × Mem, z = (.inr z0) → Q (some (vl z0.1)) z0.2) : V E mX5_knowing d 84 [(0, rf E 0), (1, vi x1), (2, vi x2), (3, vi x3), (4, vi x4), (5, vi x5)] [] M Q := by
  unfold f_X5_knowing_84 at hF
  refine V.iinc 5 5 1 [(5, vi (x5 + 1)), (0, rf E 0), (1, vi x1), (2, vi x2), (3, vi x3), (4, vi x4)] dX5_knowing_84 rfl (by decide) rfl ?_
  refine V.goto (tgt := 42) dX5_knowing_87 (by decide) ?_
  cases Option.some.inj hF
  refine V.sub _ [1, 2, 3, 4, 5, 0] rfl ?_
  exact hC0 _ rfl
def f_X5_knowing_42 (n : Nat) (x1 : Int) (x2 : Int) (x3 : Int) (x4 : Int) (x5 : Int) (M : Mem) : Option ((Int × Int × Mem) ⊕ (Int × Mem)) :=
  if wr (M 3 5) ≤ wr x5 then
    (f_X5_knowing_90 n x1 x2 x3 x4 M).map Sum.inr
  else
    (f_X5_has x3 x5 M).bind fun v1 =>
    if wr v1 = 0 then
      f_X5_knowing_84 n x1 x2 x3 x4 x5 M
    else
      (f_X1_greatest n 3 x1 (bShl 1 x5) M).bind fun (v2, M3) =>
      f_X5_knowing_84 n x1 x2 x3 (x4 + v2) x5 M3
set_option maxRecDepth 10000 in
theorem v_X5_knowing_42 {E : En} {d : Nat} {Q : Po} {n : Nat} {x1 : Int} {x2 : Int} {x3 : Int} {x4 : Int} {x5 : Int} {M : Mem} {z : (Int × Int × Mem) ⊕ (Int × Mem)}  (hd : 15 ≤ d) (hF : f_X5_knowing_42 n x1 x2 x3 x4 x5 M = some z) (hC0 : ∀ s' : Int × Int × Mem, z = (.inl s') → V E mX5_knowing d 42 [(0, rf E 0), (1, vi x1), (2, vi x2), (3, vi x3), (4, vi (s'.1)), (5, vi (s'.2.1))] [] s'.2.2 Q) (hX : ∀ z0 : Int × Mem, z = (.inr z0) → Q (some (vl z0.1)) z0.2) : V E mX5_knowing d 42 [(0, rf E 0), (1, vi x1), (2, vi x2), (3, vi x3), (4, vi x4), (5, vi x5)] [] M Q := by
  unfold f_X5_knowing_42 at hF
  refine V.iload 5 5 dX5_knowing_42 rfl ?_
  refine V.aload_n 0 0 0 rfl dX5_knowing_44 rfl ?_
  refine V.get (by decide) (hcX5 E _) rfl inX5 1 (by decide) rfl gw_283 dX5_knowing_45 ?_
  refine V.get (ltX2 is_3) (hcX2 is_3 E _) rfl inX2 5 (by decide) rfl gw_145 dX5_knowing_48 ?_
  refine V.icmp_ge (tgt := 90) rfl rfl dX5_knowing_51 (by decide) (fun hc => ?_) (fun hc => ?_)
  · rw [if_pos hc] at hF
    replace hF := Option.map_eq_some_iff.mp hF
    obtain ⟨z0, hF, rfl⟩ := hF
    refine V.sub _ [0, 1, 2, 3, 4] rfl ?_
    exact v_X5_knowing_90 hd hF (hX _ rfl)
  · rw [if_neg hc] at hF
    refine V.iload_n 3 3 3 rfl dX5_knowing_54 rfl ?_
    refine V.iload 5 5 dX5_knowing_55 rfl ?_
    replace hF := Option.bind_eq_some_iff.mp hF
    obtain ⟨v1, hv1, hF⟩ := hF
    refine V.callS (d' := d - 1) [vi x3, vi x5] [] (c_X5_has (by omega) hv1) okX5_has gw_746 rfl rfl (Nat.le_of_ble_eq_true rfl) (by omega) dX5_knowing_57 ?_
    rintro _ _ ⟨rfl, rfl⟩
    show V E mX5_knowing d 60 [(0, rf E 0), (1, vi x1), (2, vi x2), (3, vi x3), (4, vi x4), (5, vi x5)] [vi v1] M _
    refine V.if_eq (tgt := 84) rfl dX5_knowing_60 (by decide) (fun hc => ?_) (fun hc => ?_)
    · rw [if_pos hc] at hF
      exact v_X5_knowing_84 hd hF hC0 hX
    · rw [if_neg hc] at hF
      refine V.iload 4 4 dX5_knowing_63 rfl ?_
      refine V.aload_n 0 0 0 rfl dX5_knowing_65 rfl ?_
      refine V.get (by decide) (hcX5 E _) rfl inX5 3 (by decide) rfl gw_285 dX5_knowing_66 ?_
      refine V.aload_n 0 0 0 rfl dX5_knowing_69 rfl ?_
      refine V.get (by decide) (hcX5 E _) rfl inX5 1 (by decide) rfl gw_283 dX5_knowing_70 ?_
      refine V.iload_n 1 1 1 rfl dX5_knowing_73 rfl ?_
      refine V.iconst 1 dX5_knowing_74 ?_
      refine V.iload 5 5 dX5_knowing_75 rfl ?_
      refine V.ishl dX5_knowing_77 ?_
      replace hF := Option.bind_eq_some_iff.mp hF
      obtain ⟨⟨v2, M3⟩, hv2, hF⟩ := hF
      dsimp only at hF
      refine V.callV (d' := d - 1) [rf E 3, vi x1, vi (bShl 1 x5)] [vi x4] (c_X1_greatest is_3 (by omega) hv2) okX1_greatest gw_699 rfl rfl (by decide) (hcX1 E _) rfl (Nat.le_of_ble_eq_true rfl) (by omega) dX5_knowing_78 ?_
      rintro _ _ ⟨rfl, rfl⟩
      show V E mX5_knowing d 81 [(0, rf E 0), (1, vi x1), (2, vi x2), (3, vi x3), (4, vi x4), (5, vi x5)] [vi v2, vi x4] M3 _
      refine V.iadd dX5_knowing_81 ?_
      refine V.istore 4 [(4, vi (x4 + v2)), (0, rf E 0), (1, vi x1), (2, vi x2), (3, vi x3), (5, vi x5)] dX5_knowing_82 (by decide) rfl ?_
      refine V.sub _ [1, 2, 3, 4, 0, 5] rfl ?_
      exact v_X5_knowing_84 hd hF hC0 hX
theorem l_X5_knowing_42 {E : En} {d : Nat} {Q : Po} {n : Nat} {x1 : Int} {x2 : Int} {x3 : Int} {k : Nat} {s : Int × Int × Mem} {z : Int × Mem}  (hd : 15 ≤ d) (hF : lp (fun s => f_X5_knowing_42 n x1 x2 x3 s.1 s.2.1 s.2.2) k s = some z) (hK : Q (some (vl z.1)) z.2) : V E mX5_knowing d 42 [(0, rf E 0), (1, vi x1), (2, vi x2), (3, vi x3), (4, vi s.1), (5, vi s.2.1)] [] s.2.2 Q := by
  refine lp_ind (P := fun s => V E mX5_knowing d 42 [(0, rf E 0), (1, vi x1), (2, vi x2), (3, vi x3), (4, vi s.1), (5, vi s.2.1)] [] s.2.2 Q) (z0 := z) ?_ k s hF
  intro s z' hF hc hx
  exact v_X5_knowing_42 hd hF (fun s' e => hc s' e) (fun z0 e => by rw [hx _ e]; exact hK)
def f_X5_knowing (n : Nat) (x1 : Int) (x2 : Int) (M : Mem) : Option (Int × Mem) :=
  (f_X5_within x1 0 5 M).bind fun v1 =>
  if wr v1 = 0 then
    f_X5_knowing_16 n M
  else
    (f_X5_isFlag x2 M).bind fun v2 =>
    if wr v2 = 0 then
      f_X5_knowing_16 n M
    else
      (f_X2_possible n 3 M).bind fun v3 =>
      if wr v3 = 0 then
        some ((-2), M)
      else
        lp (fun s => f_X5_knowing_42 n x1 x2 v3 s.1 s.2.1 s.2.2) n (0, 0, M)
set_option maxRecDepth 10000 in
theorem v_X5_knowing_0 {E : En} {d : Nat} {Q : Po} {n : Nat} {x1 : Int} {x2 : Int} {M : Mem} {z : Int × Mem}  (hd : 15 ≤ d) (hF : f_X5_knowing n x1 x2 M = some z) (hK : Q (some (vl z.1)) z.2) : V E mX5_knowing d 0 [(0, rf E 0), (1, vi x1), (2, vi x2)] [] M Q := by
  unfold f_X5_knowing at hF
  refine V.iload_n 1 1 1 rfl dX5_knowing_0 rfl ?_
  refine V.iconst 0 dX5_knowing_1 ?_
  refine V.iconst 5 dX5_knowing_2 ?_
  replace hF := Option.bind_eq_some_iff.mp hF
  obtain ⟨v1, hv1, hF⟩ := hF
  refine V.callS (d' := d - 1) [vi x1, vi 0, vi 5] [] (c_X5_within (by omega) hv1) okX5_within gw_314 rfl rfl (Nat.le_of_ble_eq_true rfl) (by omega) dX5_knowing_3 ?_
  rintro _ _ ⟨rfl, rfl⟩
  show V E mX5_knowing d 6 [(0, rf E 0), (1, vi x1), (2, vi x2)] [vi v1] M _
  refine V.if_eq (tgt := 16) rfl dX5_knowing_6 (by decide) (fun hc => ?_) (fun hc => ?_)
  · rw [if_pos hc] at hF
    refine V.sub _ [] rfl ?_
    exact v_X5_knowing_16 hd hF hK
  · rw [if_neg hc] at hF
    refine V.iload_n 2 2 2 rfl dX5_knowing_9 rfl ?_
    replace hF := Option.bind_eq_some_iff.mp hF
    obtain ⟨v2, hv2, hF⟩ := hF
    refine V.callS (d' := d - 1) [vi x2] [] (c_X5_isFlag (by omega) hv2) okX5_isFlag gw_507 rfl rfl (Nat.le_of_ble_eq_true rfl) (by omega) dX5_knowing_10 ?_
    rintro _ _ ⟨rfl, rfl⟩
    show V E mX5_knowing d 13 [(0, rf E 0), (1, vi x1), (2, vi x2)] [vi v2] M _
    refine V.if_ne (tgt := 20) rfl dX5_knowing_13 (by decide) (fun hc => ?_) (fun hc => ?_)
    · rw [if_neg hc] at hF
      refine V.aload_n 0 0 0 rfl dX5_knowing_20 rfl ?_
      refine V.get (by decide) (hcX5 E _) rfl inX5 1 (by decide) rfl gw_283 dX5_knowing_21 ?_
      replace hF := Option.bind_eq_some_iff.mp hF
      obtain ⟨v3, hv3, hF⟩ := hF
      refine V.callV (d' := d - 1) [] [] (c_X2_possible is_3 (by omega) hv3) okX2_possible gw_666 rfl rfl (ltX2 is_3) (hcX2 is_3 E _) rfl (Nat.le_of_ble_eq_true rfl) (by omega) dX5_knowing_24 ?_
      rintro _ _ ⟨rfl, rfl⟩
      show V E mX5_knowing d 27 [(0, rf E 0), (1, vi x1), (2, vi x2)] [vi v3] M _
      refine V.istore_n 3 3 [(3, vi v3), (0, rf E 0), (1, vi x1), (2, vi x2)] rfl dX5_knowing_27 (by decide) rfl ?_
      refine V.iload_n 3 3 0 rfl dX5_knowing_28 rfl ?_
      refine V.if_ne (tgt := 36) rfl dX5_knowing_29 (by decide) (fun hc => ?_) (fun hc => ?_)
      · rw [if_neg hc] at hF
        refine V.iconst 0 dX5_knowing_36 ?_
        refine V.istore 4 [(4, vi 0), (3, vi v3), (0, rf E 0), (1, vi x1), (2, vi x2)] dX5_knowing_37 (by decide) rfl ?_
        refine V.iconst 0 dX5_knowing_39 ?_
        refine V.istore 5 [(5, vi 0), (4, vi 0), (3, vi v3), (0, rf E 0), (1, vi x1), (2, vi x2)] dX5_knowing_40 (by decide) rfl ?_
        refine V.sub _ [3, 4, 5, 2, 1, 0] rfl ?_
        exact l_X5_knowing_42 hd hF hK
      · rw [if_pos hc] at hF
        refine V.ldc2 194 (-2) (-2) (by decide) gw_676 dX5_knowing_32 ?_
        cases Option.some.inj hF
        exact V.lret rfl dX5_knowing_35 hK
    · rw [if_pos hc] at hF
      refine V.sub _ [] rfl ?_
      exact v_X5_knowing_16 hd hF hK
theorem c_X5_knowing {E : En} {d : Nat} {n : Nat} {x1 : Int} {x2 : Int} {M : Mem} {zr : Int} {zM : Mem}  (hd : 15 ≤ d) (hF : f_X5_knowing n x1 x2 M = some (zr, zM)) : Cn E mX5_knowing d [rf E 0, vi x1, vi x2] M (fun v N => v = some (vl zr) ∧ zM = N) := by
  refine V.entry (by decide +kernel) (Nat.le_of_ble_eq_true rfl) ?_
  exact v_X5_knowing_0  hd hF ⟨rfl, rfl⟩
abbrev mX5_worth : MI := (yX5_worth, cX5_worth, 7, (some .long))
theorem okX5_worth : OKV mX5_worth 3 := ⟨gw_748, gw_749, gw_58, gw_750, (by decide +kernel), (by decide)⟩
def f_X5_worth_24 (n : Nat) (M : Mem) : Option (Int × Mem) :=
  some ((-1), M)
set_option maxRecDepth 10000 in
theorem v_X5_worth_24 {E : En} {d : Nat} {Q : Po} {n : Nat} {M : Mem} {z : Int × Mem}  (hd : 15 ≤ d) (hF : f_X5_worth_24 n M = some z) (hK : Q (some (vl z.1)) z.2) : V E mX5_worth d 24 [] [] M Q := by
  unfold f_X5_worth_24 at hF
  refine V.ldc2 192 (-1) (-1) (by decide) gw_675 dX5_worth_24 ?_
  cases Option.some.inj hF
  exact V.lret rfl dX5_worth_27 hK
def f_X5_worth (n : Nat) (x1 : Int) (x2 : Int) (x3 : Int) (M : Mem) : Option (Int × Mem) :=
  (f_X5_isLand x1 M).bind fun v1 =>
  if wr v1 = 0 then
    f_X5_worth_24 n M
  else
    (f_X5_within x2 0 5 M).bind fun v2 =>
    if wr v2 = 0 then
      f_X5_worth_24 n M
    else
      (f_X5_isFlag x3 M).bind fun v3 =>
      if wr v3 = 0 then
        f_X5_worth_24 n M
      else
        (f_X2_possible n 3 M).bind fun v4 =>
        if wr v4 = 0 then
          some ((-2), M)
        else
          (f_X2_copy 8 3 M).bind fun M5 =>
          (f_X2_yields 8 0 M5).bind fun v6 =>
          (wt M5 v6 4 x1 0).bind fun M7 =>
          (f_X2_yields 8 1 M7).bind fun v8 =>
          (wt M7 v8 4 x1 0).bind fun M9 =>
          (f_X1_greatest n 3 x2 v4 M9).bind fun (v10, M11) =>
          (f_X1_greatest n 8 x2 v4 M11).bind fun (v12, M13) =>
          (f_X2_oddsOf n 3 v4 M13).bind fun v14 =>
          (f_X5_fraction n (v10 - v12) v14 x3 M13).bind fun v15 =>
          some (v15, M13)
set_option maxRecDepth 10000 in
theorem v_X5_worth_0 {E : En} {d : Nat} {Q : Po} {n : Nat} {x1 : Int} {x2 : Int} {x3 : Int} {M : Mem} {z : Int × Mem}  (hd : 15 ≤ d) (hF : f_X5_worth n x1 x2 x3 M = some z) (hK : Q (some (vl z.1)) z.2) : V E mX5_worth d 0 [(0, rf E 0), (1, vi x1), (2, vi x2), (3, vi x3)] [] M Q := by
  unfold f_X5_worth at hF
  refine V.aload_n 0 0 0 rfl dX5_worth_0 rfl ?_
  refine V.iload_n 1 1 1 rfl dX5_worth_1 rfl ?_
  replace hF := Option.bind_eq_some_iff.mp hF
  obtain ⟨v1, hv1, hF⟩ := hF
  refine V.callV (d' := d - 1) [vi x1] [] (c_X5_isLand (by omega) hv1) okX5_isLand gw_503 rfl rfl (by decide) (hcX5 E _) rfl (Nat.le_of_ble_eq_true rfl) (by omega) dX5_worth_2 ?_
  rintro _ _ ⟨rfl, rfl⟩
  show V E mX5_worth d 5 [(0, rf E 0), (1, vi x1), (2, vi x2), (3, vi x3)] [vi v1] M _
  refine V.if_eq (tgt := 24) rfl dX5_worth_5 (by decide) (fun hc => ?_) (fun hc => ?_)
  · rw [if_pos hc] at hF
    refine V.sub _ [] rfl ?_
    exact v_X5_worth_24 hd hF hK
  · rw [if_neg hc] at hF
    refine V.iload_n 2 2 2 rfl dX5_worth_8 rfl ?_
    refine V.iconst 0 dX5_worth_9 ?_
    refine V.iconst 5 dX5_worth_10 ?_
    replace hF := Option.bind_eq_some_iff.mp hF
    obtain ⟨v2, hv2, hF⟩ := hF
    refine V.callS (d' := d - 1) [vi x2, vi 0, vi 5] [] (c_X5_within (by omega) hv2) okX5_within gw_314 rfl rfl (Nat.le_of_ble_eq_true rfl) (by omega) dX5_worth_11 ?_
    rintro _ _ ⟨rfl, rfl⟩
    show V E mX5_worth d 14 [(0, rf E 0), (1, vi x1), (2, vi x2), (3, vi x3)] [vi v2] M _
    refine V.if_eq (tgt := 24) rfl dX5_worth_14 (by decide) (fun hc => ?_) (fun hc => ?_)
    · rw [if_pos hc] at hF
      refine V.sub _ [] rfl ?_
      exact v_X5_worth_24 hd hF hK
    · rw [if_neg hc] at hF
      refine V.iload_n 3 3 3 rfl dX5_worth_17 rfl ?_
      replace hF := Option.bind_eq_some_iff.mp hF
      obtain ⟨v3, hv3, hF⟩ := hF
      refine V.callS (d' := d - 1) [vi x3] [] (c_X5_isFlag (by omega) hv3) okX5_isFlag gw_507 rfl rfl (Nat.le_of_ble_eq_true rfl) (by omega) dX5_worth_18 ?_
      rintro _ _ ⟨rfl, rfl⟩
      show V E mX5_worth d 21 [(0, rf E 0), (1, vi x1), (2, vi x2), (3, vi x3)] [vi v3] M _
      refine V.if_ne (tgt := 28) rfl dX5_worth_21 (by decide) (fun hc => ?_) (fun hc => ?_)
      · rw [if_neg hc] at hF
        refine V.aload_n 0 0 0 rfl dX5_worth_28 rfl ?_
        refine V.get (by decide) (hcX5 E _) rfl inX5 1 (by decide) rfl gw_283 dX5_worth_29 ?_
        replace hF := Option.bind_eq_some_iff.mp hF
        obtain ⟨v4, hv4, hF⟩ := hF
        refine V.callV (d' := d - 1) [] [] (c_X2_possible is_3 (by omega) hv4) okX2_possible gw_666 rfl rfl (ltX2 is_3) (hcX2 is_3 E _) rfl (Nat.le_of_ble_eq_true rfl) (by omega) dX5_worth_32 ?_
        rintro _ _ ⟨rfl, rfl⟩
        show V E mX5_worth d 35 [(0, rf E 0), (1, vi x1), (2, vi x2), (3, vi x3)] [vi v4] M _
        refine V.istore 4 [(4, vi v4), (0, rf E 0), (1, vi x1), (2, vi x2), (3, vi x3)] dX5_worth_35 (by decide) rfl ?_
        refine V.iload 4 0 dX5_worth_37 rfl ?_
        refine V.if_ne (tgt := 46) rfl dX5_worth_39 (by decide) (fun hc => ?_) (fun hc => ?_)
        · rw [if_neg hc] at hF
          refine V.aload_n 0 0 1 rfl dX5_worth_46 rfl ?_
          refine V.get (by decide) (hcX5 E _) rfl inX5 2 (by decide) rfl gw_284 dX5_worth_47 ?_
          refine V.aload_n 0 0 1 rfl dX5_worth_50 rfl ?_
          refine V.get (by decide) (hcX5 E _) rfl inX5 1 (by decide) rfl gw_283 dX5_worth_51 ?_
          replace hF := Option.bind_eq_some_iff.mp hF
          obtain ⟨M5, hM5, hF⟩ := hF
          refine V.callV (d' := d - 1) [rf E 3] [] (c_X2_copy is_8 is_3 (by omega) hM5) okX2_copy gw_483 rfl rfl (ltX2 is_8) (hcX2 is_8 E _) rfl (Nat.le_of_ble_eq_true rfl) (by omega) dX5_worth_54 ?_
          rintro _ _ ⟨rfl, rfl⟩
          show V E mX5_worth d 57 [(4, vi v4), (0, rf E 0), (1, vi x1), (2, vi x2), (3, vi x3)] [] M5 _
          refine V.aload_n 0 0 1 rfl dX5_worth_57 rfl ?_
          refine V.get (by decide) (hcX5 E _) rfl inX5 2 (by decide) rfl gw_284 dX5_worth_58 ?_
          refine V.iconst 0 dX5_worth_61 ?_
          replace hF := Option.bind_eq_some_iff.mp hF
          obtain ⟨v6, hv6, hF⟩ := hF
          refine V.callV (d' := d - 1) [vi 0] [] (c_X2_yields is_8 (by omega) hv6) okX2_yields gw_510 rfl rfl (ltX2 is_8) (hcX2 is_8 E _) rfl (Nat.le_of_ble_eq_true rfl) (by omega) dX5_worth_62 ?_
          rintro _ _ ⟨rfl, rfl⟩
          show V E mX5_worth d 65 [(4, vi v4), (0, rf E 0), (1, vi x1), (2, vi x2), (3, vi x3)] [rf E v6] M5 _
          refine V.iload_n 1 1 2 rfl dX5_worth_65 rfl ?_
          refine V.iconst 0 dX5_worth_66 ?_
          replace hF := Option.bind_eq_some_iff.mp hF
          obtain ⟨M7, hM7, hF⟩ := hF
          refine V.iast (yl_X2_yields is_8 hv6) hM7 dX5_worth_67 ?_
          refine V.aload_n 0 0 1 rfl dX5_worth_68 rfl ?_
          refine V.get (by decide) (hcX5 E _) rfl inX5 2 (by decide) rfl gw_284 dX5_worth_69 ?_
          refine V.iconst 1 dX5_worth_72 ?_
          replace hF := Option.bind_eq_some_iff.mp hF
          obtain ⟨v8, hv8, hF⟩ := hF
          refine V.callV (d' := d - 1) [vi 1] [] (c_X2_yields is_8 (by omega) hv8) okX2_yields gw_510 rfl rfl (ltX2 is_8) (hcX2 is_8 E _) rfl (Nat.le_of_ble_eq_true rfl) (by omega) dX5_worth_73 ?_
          rintro _ _ ⟨rfl, rfl⟩
          show V E mX5_worth d 76 [(4, vi v4), (0, rf E 0), (1, vi x1), (2, vi x2), (3, vi x3)] [rf E v8] M7 _
          refine V.iload_n 1 1 2 rfl dX5_worth_76 rfl ?_
          refine V.iconst 0 dX5_worth_77 ?_
          replace hF := Option.bind_eq_some_iff.mp hF
          obtain ⟨M9, hM9, hF⟩ := hF
          refine V.iast (yl_X2_yields is_8 hv8) hM9 dX5_worth_78 ?_
          refine V.aload_n 0 0 1 rfl dX5_worth_79 rfl ?_
          refine V.get (by decide) (hcX5 E _) rfl inX5 3 (by decide) rfl gw_285 dX5_worth_80 ?_
          refine V.aload_n 0 0 1 rfl dX5_worth_83 rfl ?_
          refine V.get (by decide) (hcX5 E _) rfl inX5 1 (by decide) rfl gw_283 dX5_worth_84 ?_
          refine V.iload_n 2 2 3 rfl dX5_worth_87 rfl ?_
          refine V.iload 4 0 dX5_worth_88 rfl ?_
          replace hF := Option.bind_eq_some_iff.mp hF
          obtain ⟨⟨v10, M11⟩, hv10, hF⟩ := hF
          dsimp only at hF
          refine V.callV (d' := d - 1) [rf E 3, vi x2, vi v4] [] (c_X1_greatest is_3 (by omega) hv10) okX1_greatest gw_699 rfl rfl (by decide) (hcX1 E _) rfl (Nat.le_of_ble_eq_true rfl) (by omega) dX5_worth_90 ?_
          rintro _ _ ⟨rfl, rfl⟩
          show V E mX5_worth d 93 [(4, vi v4), (0, rf E 0), (1, vi x1), (2, vi x2), (3, vi x3)] [vi v10] M11 _
          refine V.istore 5 [(5, vi v10), (4, vi v4), (0, rf E 0), (1, vi x1), (2, vi x2), (3, vi x3)] dX5_worth_93 (by decide) rfl ?_
          refine V.aload_n 0 0 2 rfl dX5_worth_95 rfl ?_
          refine V.get (by decide) (hcX5 E _) rfl inX5 3 (by decide) rfl gw_285 dX5_worth_96 ?_
          refine V.aload_n 0 0 2 rfl dX5_worth_99 rfl ?_
          refine V.get (by decide) (hcX5 E _) rfl inX5 2 (by decide) rfl gw_284 dX5_worth_100 ?_
          refine V.iload_n 2 2 4 rfl dX5_worth_103 rfl ?_
          refine V.iload 4 1 dX5_worth_104 rfl ?_
          replace hF := Option.bind_eq_some_iff.mp hF
          obtain ⟨⟨v12, M13⟩, hv12, hF⟩ := hF
          dsimp only at hF
          refine V.callV (d' := d - 1) [rf E 8, vi x2, vi v4] [] (c_X1_greatest is_8 (by omega) hv12) okX1_greatest gw_699 rfl rfl (by decide) (hcX1 E _) rfl (Nat.le_of_ble_eq_true rfl) (by omega) dX5_worth_106 ?_
          rintro _ _ ⟨rfl, rfl⟩
          show V E mX5_worth d 109 [(5, vi v10), (4, vi v4), (0, rf E 0), (1, vi x1), (2, vi x2), (3, vi x3)] [vi v12] M13 _
          refine V.istore 6 [(6, vi v12), (5, vi v10), (4, vi v4), (0, rf E 0), (1, vi x1), (2, vi x2), (3, vi x3)] dX5_worth_109 (by decide) rfl ?_
          refine V.iload 5 1 dX5_worth_111 rfl ?_
          refine V.iload 6 0 dX5_worth_113 rfl ?_
          refine V.isub dX5_worth_115 ?_
          refine V.aload_n 0 0 3 rfl dX5_worth_116 rfl ?_
          refine V.get (by decide) (hcX5 E _) rfl inX5 1 (by decide) rfl gw_283 dX5_worth_117 ?_
          refine V.iload 4 2 dX5_worth_120 rfl ?_
          replace hF := Option.bind_eq_some_iff.mp hF
          obtain ⟨v14, hv14, hF⟩ := hF
          refine V.callV (d' := d - 1) [vi v4] [vi (v10 - v12)] (c_X2_oddsOf is_3 (by omega) hv14) okX2_oddsOf gw_682 rfl rfl (ltX2 is_3) (hcX2 is_3 E _) rfl (Nat.le_of_ble_eq_true rfl) (by omega) dX5_worth_122 ?_
          rintro _ _ ⟨rfl, rfl⟩
          show V E mX5_worth d 125 [(6, vi v12), (5, vi v10), (4, vi v4), (0, rf E 0), (1, vi x1), (2, vi x2), (3, vi x3)] [vi v14, vi (v10 - v12)] M13 _
          refine V.iload_n 3 3 6 rfl dX5_worth_125 rfl ?_
          replace hF := Option.bind_eq_some_iff.mp hF
          obtain ⟨v15, hv15, hF⟩ := hF
          refine V.callS (d' := d - 1) [vi (v10 - v12), vi v14, vi x3] [] (c_X5_fraction (by omega) hv15) okX5_fraction gw_686 rfl rfl (Nat.le_of_ble_eq_true rfl) (by omega) dX5_worth_126 ?_
          rintro _ _ ⟨rfl, rfl⟩
          show V E mX5_worth d 129 [(6, vi v12), (5, vi v10), (4, vi v4), (0, rf E 0), (1, vi x1), (2, vi x2), (3, vi x3)] [vl v15] M13 _
          cases Option.some.inj hF
          exact V.lret rfl dX5_worth_129 hK
        · rw [if_pos hc] at hF
          refine V.ldc2 194 (-2) (-2) (by decide) gw_676 dX5_worth_42 ?_
          cases Option.some.inj hF
          exact V.lret rfl dX5_worth_45 hK
      · rw [if_pos hc] at hF
        refine V.sub _ [] rfl ?_
        exact v_X5_worth_24 hd hF hK
theorem c_X5_worth {E : En} {d : Nat} {n : Nat} {x1 : Int} {x2 : Int} {x3 : Int} {M : Mem} {zr : Int} {zM : Mem}  (hd : 15 ≤ d) (hF : f_X5_worth n x1 x2 x3 M = some (zr, zM)) : Cn E mX5_worth d [rf E 0, vi x1, vi x2, vi x3] M (fun v N => v = some (vl zr) ∧ zM = N) := by
  refine V.entry (by decide +kernel) (Nat.le_of_ble_eq_true rfl) ?_
  exact v_X5_worth_0  hd hF ⟨rfl, rfl⟩
abbrev mX5_isSafe : MI := (yX5_isSafe, cX5_isSafe, 6, (some .boolean))
theorem okX5_isSafe : OKV mX5_isSafe 4 := ⟨gw_757, gw_23, gw_58, gw_758, (by decide +kernel), (by decide)⟩
def f_X5_isSafe_80 (n : Nat) (x1 : Int) (x2 : Int) (x3 : Int) (x4 : Int) (x5 : Int) (M : Mem) : Option ((Int × Mem) ⊕ (Int × Mem)) :=
  some (.inl (x5 + 1, M))
set_option maxRecDepth 10000 in
theorem v_X5_isSafe_80 {E : En} {d : Nat} {Q : Po} {n : Nat} {x1 : Int} {x2 : Int} {x3 : Int} {x4 : Int} {x5 : Int} {M : Mem} {z : (Int × Mem) ⊕ (Int × Mem)}  (hd : 6 ≤ d) (hF : f_X5_isSafe_80 n x1 x2 x3 x4 x5 M = some z) (hC0 : ∀ s' : Int × Mem, z = (.inl s') → V E mX5_isSafe d 3 [(0, rf E 0), (1, vi x1), (2, vi x2), (3, vi x3), (4, vi x4), (5, vi (s'.1))] [] s'.2 Q) (hX : ∀ z0 : Int × Mem, z = (.inr z0) → Q (some (vi z0.1)) z0.2) : V E mX5_isSafe d 80 [(0, rf E 0), (1, vi x1), (2, vi x2), (3, vi x3), (4, vi x4), (5, vi x5)] [] M Q := by
  unfold f_X5_isSafe_80 at hF
  refine V.iinc 5 5 1 [(5, vi (x5 + 1)), (0, rf E 0), (1, vi x1), (2, vi x2), (3, vi x3), (4, vi x4)] dX5_isSafe_80 rfl (by decide) rfl ?_
  refine V.goto (tgt := 3) dX5_isSafe_83 (by decide) ?_
  cases Option.some.inj hF
  refine V.sub _ [1, 2, 3, 4, 5, 0] rfl ?_
  exact hC0 _ rfl
def f_X5_isSafe_3 (n : Nat) (x1 : Int) (x2 : Int) (x3 : Int) (x4 : Int) (x5 : Int) (M : Mem) : Option ((Int × Mem) ⊕ (Int × Mem)) :=
  if wr (M 3 5) ≤ wr x5 then
    some (.inr (1, M))
  else
    (f_X2_canBe 3 x5 M).bind fun v1 =>
    if wr v1 = 0 then
      f_X5_isSafe_80 n x1 x2 x3 x4 x5 M
    else
      (f_X2_copy 8 3 M).bind fun M2 =>
      (f_X2_appoint 8 x1 x2 M2).bind fun M3 =>
      (some (st M3 8 8 x3)).bind fun M4 =>
      (some (st M4 8 10 x4)).bind fun M5 =>
      (f_X2_firstHunger n 8 x5 M5).bind fun (v6, M7) =>
      if wr v6 = (-4) then
        f_X5_isSafe_80 n x1 x2 x3 x4 x5 M7
      else
        some (.inr (0, M7))
set_option maxRecDepth 10000 in
theorem v_X5_isSafe_3 {E : En} {d : Nat} {Q : Po} {n : Nat} {x1 : Int} {x2 : Int} {x3 : Int} {x4 : Int} {x5 : Int} {M : Mem} {z : (Int × Mem) ⊕ (Int × Mem)}  (hd : 6 ≤ d) (hF : f_X5_isSafe_3 n x1 x2 x3 x4 x5 M = some z) (hC0 : ∀ s' : Int × Mem, z = (.inl s') → V E mX5_isSafe d 3 [(0, rf E 0), (1, vi x1), (2, vi x2), (3, vi x3), (4, vi x4), (5, vi (s'.1))] [] s'.2 Q) (hX : ∀ z0 : Int × Mem, z = (.inr z0) → Q (some (vi z0.1)) z0.2) : V E mX5_isSafe d 3 [(0, rf E 0), (1, vi x1), (2, vi x2), (3, vi x3), (4, vi x4), (5, vi x5)] [] M Q := by
  unfold f_X5_isSafe_3 at hF
  refine V.iload 5 5 dX5_isSafe_3 rfl ?_
  refine V.aload_n 0 0 0 rfl dX5_isSafe_5 rfl ?_
  refine V.get (by decide) (hcX5 E _) rfl inX5 1 (by decide) rfl gw_283 dX5_isSafe_6 ?_
  refine V.get (ltX2 is_3) (hcX2 is_3 E _) rfl inX2 5 (by decide) rfl gw_145 dX5_isSafe_9 ?_
  refine V.icmp_ge (tgt := 86) rfl rfl dX5_isSafe_12 (by decide) (fun hc => ?_) (fun hc => ?_)
  · rw [if_pos hc] at hF
    refine V.iconst 1 dX5_isSafe_86 ?_
    cases Option.some.inj hF
    exact V.zret rfl (Or.inr rfl) dX5_isSafe_87 (hX _ rfl)
  · rw [if_neg hc] at hF
    refine V.aload_n 0 0 0 rfl dX5_isSafe_15 rfl ?_
    refine V.get (by decide) (hcX5 E _) rfl inX5 1 (by decide) rfl gw_283 dX5_isSafe_16 ?_
    refine V.iload 5 5 dX5_isSafe_19 rfl ?_
    replace hF := Option.bind_eq_some_iff.mp hF
    obtain ⟨v1, hv1, hF⟩ := hF
    refine V.callV (d' := d - 1) [vi x5] [] (c_X2_canBe is_3 (by omega) hv1) okX2_canBe gw_522 rfl rfl (ltX2 is_3) (hcX2 is_3 E _) rfl (Nat.le_of_ble_eq_true rfl) (by omega) dX5_isSafe_21 ?_
    rintro _ _ ⟨rfl, rfl⟩
    show V E mX5_isSafe d 24 [(0, rf E 0), (1, vi x1), (2, vi x2), (3, vi x3), (4, vi x4), (5, vi x5)] [vi v1] M _
    refine V.if_eq (tgt := 80) rfl dX5_isSafe_24 (by decide) (fun hc => ?_) (fun hc => ?_)
    · rw [if_pos hc] at hF
      exact v_X5_isSafe_80 hd hF hC0 hX
    · rw [if_neg hc] at hF
      refine V.aload_n 0 0 0 rfl dX5_isSafe_27 rfl ?_
      refine V.get (by decide) (hcX5 E _) rfl inX5 2 (by decide) rfl gw_284 dX5_isSafe_28 ?_
      refine V.aload_n 0 0 0 rfl dX5_isSafe_31 rfl ?_
      refine V.get (by decide) (hcX5 E _) rfl inX5 1 (by decide) rfl gw_283 dX5_isSafe_32 ?_
      replace hF := Option.bind_eq_some_iff.mp hF
      obtain ⟨M2, hM2, hF⟩ := hF
      refine V.callV (d' := d - 1) [rf E 3] [] (c_X2_copy is_8 is_3 (by omega) hM2) okX2_copy gw_483 rfl rfl (ltX2 is_8) (hcX2 is_8 E _) rfl (Nat.le_of_ble_eq_true rfl) (by omega) dX5_isSafe_35 ?_
      rintro _ _ ⟨rfl, rfl⟩
      show V E mX5_isSafe d 38 [(0, rf E 0), (1, vi x1), (2, vi x2), (3, vi x3), (4, vi x4), (5, vi x5)] [] M2 _
      refine V.aload_n 0 0 0 rfl dX5_isSafe_38 rfl ?_
      refine V.get (by decide) (hcX5 E _) rfl inX5 2 (by decide) rfl gw_284 dX5_isSafe_39 ?_
      refine V.iload_n 1 1 1 rfl dX5_isSafe_42 rfl ?_
      refine V.iload_n 2 2 2 rfl dX5_isSafe_43 rfl ?_
      replace hF := Option.bind_eq_some_iff.mp hF
      obtain ⟨M3, hM3, hF⟩ := hF
      refine V.callV (d' := d - 1) [vi x1, vi x2] [] (c_X2_appoint is_8 (by omega) hM3) okX2_appoint gw_579 rfl rfl (ltX2 is_8) (hcX2 is_8 E _) rfl (Nat.le_of_ble_eq_true rfl) (by omega) dX5_isSafe_44 ?_
      rintro _ _ ⟨rfl, rfl⟩
      show V E mX5_isSafe d 47 [(0, rf E 0), (1, vi x1), (2, vi x2), (3, vi x3), (4, vi x4), (5, vi x5)] [] M3 _
      refine V.aload_n 0 0 0 rfl dX5_isSafe_47 rfl ?_
      refine V.get (by decide) (hcX5 E _) rfl inX5 2 (by decide) rfl gw_284 dX5_isSafe_48 ?_
      refine V.iload_n 3 3 3 rfl dX5_isSafe_51 rfl ?_
      replace hF := Option.bind_eq_some_iff.mp hF
      obtain ⟨M4, hM4, hF⟩ := hF
      refine V.put (x := x3) (ty := .int) (Option.some.inj hM4) (ltX2 is_8) (hcX2 is_8 E) rfl inX2 tyX2 tyX2_ok nmX2 (by decide) rfl (by decide +kernel) rfl rfl (Nat.le_of_ble_eq_true rfl) rfl gw_156 dX5_isSafe_52 ?_
      refine V.aload_n 0 0 0 rfl dX5_isSafe_55 rfl ?_
      refine V.get (by decide) (hcX5 E _) rfl inX5 2 (by decide) rfl gw_284 dX5_isSafe_56 ?_
      refine V.iload 4 4 dX5_isSafe_59 rfl ?_
      replace hF := Option.bind_eq_some_iff.mp hF
      obtain ⟨M5, hM5, hF⟩ := hF
      refine V.put (x := x4) (ty := .int) (Option.some.inj hM5) (ltX2 is_8) (hcX2 is_8 E) rfl inX2 tyX2 tyX2_ok nmX2 (by decide) rfl (by decide +kernel) rfl rfl (Nat.le_of_ble_eq_true rfl) rfl gw_163 dX5_isSafe_61 ?_
      refine V.aload_n 0 0 0 rfl dX5_isSafe_64 rfl ?_
      refine V.get (by decide) (hcX5 E _) rfl inX5 2 (by decide) rfl gw_284 dX5_isSafe_65 ?_
      refine V.iload 5 5 dX5_isSafe_68 rfl ?_
      replace hF := Option.bind_eq_some_iff.mp hF
      obtain ⟨⟨v6, M7⟩, hv6, hF⟩ := hF
      dsimp only at hF
      refine V.callV (d' := d - 1) [vi x5] [] (c_X2_firstHunger is_8 (by omega) hv6) okX2_firstHunger gw_658 rfl rfl (ltX2 is_8) (hcX2 is_8 E _) rfl (Nat.le_of_ble_eq_true rfl) (by omega) dX5_isSafe_70 ?_
      rintro _ _ ⟨rfl, rfl⟩
      show V E mX5_isSafe d 73 [(0, rf E 0), (1, vi x1), (2, vi x2), (3, vi x3), (4, vi x4), (5, vi x5)] [vi v6] M7 _
      refine V.bipush (-4) (-4) (by decide) dX5_isSafe_73 ?_
      refine V.icmp_eq (tgt := 80) rfl wr_m4 dX5_isSafe_75 (by decide) (fun hc => ?_) (fun hc => ?_)
      · rw [if_pos hc] at hF
        exact v_X5_isSafe_80 hd hF hC0 hX
      · rw [if_neg hc] at hF
        refine V.iconst 0 dX5_isSafe_78 ?_
        cases Option.some.inj hF
        exact V.zret rfl (Or.inl rfl) dX5_isSafe_79 (hX _ rfl)
theorem l_X5_isSafe_3 {E : En} {d : Nat} {Q : Po} {n : Nat} {x1 : Int} {x2 : Int} {x3 : Int} {x4 : Int} {k : Nat} {s : Int × Mem} {z : Int × Mem}  (hd : 6 ≤ d) (hF : lp (fun s => f_X5_isSafe_3 n x1 x2 x3 x4 s.1 s.2) k s = some z) (hK : Q (some (vi z.1)) z.2) : V E mX5_isSafe d 3 [(0, rf E 0), (1, vi x1), (2, vi x2), (3, vi x3), (4, vi x4), (5, vi s.1)] [] s.2 Q := by
  refine lp_ind (P := fun s => V E mX5_isSafe d 3 [(0, rf E 0), (1, vi x1), (2, vi x2), (3, vi x3), (4, vi x4), (5, vi s.1)] [] s.2 Q) (z0 := z) ?_ k s hF
  intro s z' hF hc hx
  exact v_X5_isSafe_3 hd hF (fun s' e => hc s' e) (fun z0 e => by rw [hx _ e]; exact hK)
def f_X5_isSafe (n : Nat) (x1 : Int) (x2 : Int) (x3 : Int) (x4 : Int) (M : Mem) : Option (Int × Mem) :=
  lp (fun s => f_X5_isSafe_3 n x1 x2 x3 x4 s.1 s.2) n (0, M)
set_option maxRecDepth 10000 in
theorem v_X5_isSafe_0 {E : En} {d : Nat} {Q : Po} {n : Nat} {x1 : Int} {x2 : Int} {x3 : Int} {x4 : Int} {M : Mem} {z : Int × Mem}  (hd : 6 ≤ d) (hF : f_X5_isSafe n x1 x2 x3 x4 M = some z) (hK : Q (some (vi z.1)) z.2) : V E mX5_isSafe d 0 [(0, rf E 0), (1, vi x1), (2, vi x2), (3, vi x3), (4, vi x4)] [] M Q := by
  unfold f_X5_isSafe at hF
  refine V.iconst 0 dX5_isSafe_0 ?_
  refine V.istore 5 [(5, vi 0), (0, rf E 0), (1, vi x1), (2, vi x2), (3, vi x3), (4, vi x4)] dX5_isSafe_1 (by decide) rfl ?_
  refine V.sub _ [1, 2, 3, 4, 5, 0] rfl ?_
  exact l_X5_isSafe_3 hd hF hK
theorem c_X5_isSafe {E : En} {d : Nat} {n : Nat} {x1 : Int} {x2 : Int} {x3 : Int} {x4 : Int} {M : Mem} {zr : Int} {zM : Mem}  (hd : 6 ≤ d) (hF : f_X5_isSafe n x1 x2 x3 x4 M = some (zr, zM)) : Cn E mX5_isSafe d [rf E 0, vi x1, vi x2, vi x3, vi x4] M (fun v N => v = some (vi zr) ∧ zM = N) := by
  refine V.entry (by decide +kernel) (Nat.le_of_ble_eq_true rfl) ?_
  exact v_X5_isSafe_0  hd hF ⟨rfl, rfl⟩
abbrev mX5_safe : MI := (yX5_safe, cX5_safe, 4, (some .int))
theorem okX5_safe : OKV mX5_safe 1 := ⟨gw_752, gw_753, gw_58, gw_754, (by decide +kernel), (by decide)⟩
def f_X5_safe_50 (n : Nat) (x1 : Int) (x2 : Int) (x3 : Int) (M : Mem) : Option ((Int × Int × Mem) ⊕ (Int × Mem)) :=
  some (.inl (x2, x3 + 1, M))
set_option maxRecDepth 10000 in
theorem v_X5_safe_50 {E : En} {d : Nat} {Q : Po} {n : Nat} {x1 : Int} {x2 : Int} {x3 : Int} {M : Mem} {z : (Int × Int × Mem) ⊕ (Int × Mem)}  (hd : 7 ≤ d) (hF : f_X5_safe_50 n x1 x2 x3 M = some z) (hC0 : ∀ s' : Int × Int × Mem, z = (.inl s') → V E mX5_safe d 15 [(0, rf E 0), (1, vi x1), (2, vi (s'.1)), (3, vi (s'.2.1))] [] s'.2.2 Q) (hX : ∀ z0 : Int × Mem, z = (.inr z0) → Q (some (vi z0.1)) z0.2) : V E mX5_safe d 50 [(0, rf E 0), (1, vi x1), (2, vi x2), (3, vi x3)] [] M Q := by
  unfold f_X5_safe_50 at hF
  refine V.iinc 3 3 1 [(3, vi (x3 + 1)), (0, rf E 0), (1, vi x1), (2, vi x2)] dX5_safe_50 rfl (by decide) rfl ?_
  refine V.goto (tgt := 15) dX5_safe_53 (by decide) ?_
  cases Option.some.inj hF
  refine V.sub _ [1, 2, 3, 0] rfl ?_
  exact hC0 _ rfl
def f_X5_safe_15 (n : Nat) (x1 : Int) (x2 : Int) (x3 : Int) (M : Mem) : Option ((Int × Int × Mem) ⊕ (Int × Mem)) :=
  if 9 < wr x3 then
    some (.inr (x2, M))
  else
    (f_X5_isSafe n x1 x3 (M 3 8) (M 3 10) M).bind fun (v1, M2) =>
    if wr v1 = 0 then
      f_X5_safe_50 n x1 x2 x3 M2
    else
      f_X5_safe_50 n x1 (bOr x2 (bShl 1 x3)) x3 M2
set_option maxRecDepth 10000 in
theorem v_X5_safe_15 {E : En} {d : Nat} {Q : Po} {n : Nat} {x1 : Int} {x2 : Int} {x3 : Int} {M : Mem} {z : (Int × Int × Mem) ⊕ (Int × Mem)}  (hd : 7 ≤ d) (hF : f_X5_safe_15 n x1 x2 x3 M = some z) (hC0 : ∀ s' : Int × Int × Mem, z = (.inl s') → V E mX5_safe d 15 [(0, rf E 0), (1, vi x1), (2, vi (s'.1)), (3, vi (s'.2.1))] [] s'.2.2 Q) (hX : ∀ z0 : Int × Mem, z = (.inr z0) → Q (some (vi z0.1)) z0.2) : V E mX5_safe d 15 [(0, rf E 0), (1, vi x1), (2, vi x2), (3, vi x3)] [] M Q := by
  unfold f_X5_safe_15 at hF
  refine V.iload_n 3 3 3 rfl dX5_safe_15 rfl ?_
  refine V.bipush 9 9 (by decide) dX5_safe_16 ?_
  refine V.icmp_gt (tgt := 56) rfl wr_9 dX5_safe_18 (by decide) (fun hc => ?_) (fun hc => ?_)
  · rw [if_pos hc] at hF
    refine V.iload_n 2 2 2 rfl dX5_safe_56 rfl ?_
    cases Option.some.inj hF
    exact V.iret rfl dX5_safe_57 (hX _ rfl)
  · rw [if_neg hc] at hF
    refine V.aload_n 0 0 0 rfl dX5_safe_21 rfl ?_
    refine V.iload_n 1 1 1 rfl dX5_safe_22 rfl ?_
    refine V.iload_n 3 3 3 rfl dX5_safe_23 rfl ?_
    refine V.aload_n 0 0 0 rfl dX5_safe_24 rfl ?_
    refine V.get (by decide) (hcX5 E _) rfl inX5 1 (by decide) rfl gw_283 dX5_safe_25 ?_
    refine V.get (ltX2 is_3) (hcX2 is_3 E _) rfl inX2 8 (by decide) rfl gw_156 dX5_safe_28 ?_
    refine V.aload_n 0 0 0 rfl dX5_safe_31 rfl ?_
    refine V.get (by decide) (hcX5 E _) rfl inX5 1 (by decide) rfl gw_283 dX5_safe_32 ?_
    refine V.get (ltX2 is_3) (hcX2 is_3 E _) rfl inX2 10 (by decide) rfl gw_163 dX5_safe_35 ?_
    replace hF := Option.bind_eq_some_iff.mp hF
    obtain ⟨⟨v1, M2⟩, hv1, hF⟩ := hF
    dsimp only at hF
    refine V.callV (d' := d - 1) [vi x1, vi x3, vi (M 3 8), vi (M 3 10)] [] (c_X5_isSafe (by omega) hv1) okX5_isSafe gw_755 rfl rfl (by decide) (hcX5 E _) rfl (Nat.le_of_ble_eq_true rfl) (by omega) dX5_safe_38 ?_
    rintro _ _ ⟨rfl, rfl⟩
    show V E mX5_safe d 41 [(0, rf E 0), (1, vi x1), (2, vi x2), (3, vi x3)] [vi v1] M2 _
    refine V.if_eq (tgt := 50) rfl dX5_safe_41 (by decide) (fun hc => ?_) (fun hc => ?_)
    · rw [if_pos hc] at hF
      exact v_X5_safe_50 hd hF hC0 hX
    · rw [if_neg hc] at hF
      refine V.iload_n 2 2 2 rfl dX5_safe_44 rfl ?_
      refine V.iconst 1 dX5_safe_45 ?_
      refine V.iload_n 3 3 3 rfl dX5_safe_46 rfl ?_
      refine V.ishl dX5_safe_47 ?_
      refine V.ior dX5_safe_48 ?_
      refine V.istore_n 2 2 [(2, vi (bOr x2 (bShl 1 x3))), (0, rf E 0), (1, vi x1), (3, vi x3)] rfl dX5_safe_49 (by decide) rfl ?_
      refine V.sub _ [1, 2, 0, 3] rfl ?_
      exact v_X5_safe_50 hd hF hC0 hX
theorem l_X5_safe_15 {E : En} {d : Nat} {Q : Po} {n : Nat} {x1 : Int} {k : Nat} {s : Int × Int × Mem} {z : Int × Mem}  (hd : 7 ≤ d) (hF : lp (fun s => f_X5_safe_15 n x1 s.1 s.2.1 s.2.2) k s = some z) (hK : Q (some (vi z.1)) z.2) : V E mX5_safe d 15 [(0, rf E 0), (1, vi x1), (2, vi s.1), (3, vi s.2.1)] [] s.2.2 Q := by
  refine lp_ind (P := fun s => V E mX5_safe d 15 [(0, rf E 0), (1, vi x1), (2, vi s.1), (3, vi s.2.1)] [] s.2.2 Q) (z0 := z) ?_ k s hF
  intro s z' hF hc hx
  exact v_X5_safe_15 hd hF (fun s' e => hc s' e) (fun z0 e => by rw [hx _ e]; exact hK)
def f_X5_safe (n : Nat) (x1 : Int) (M : Mem) : Option (Int × Mem) :=
  (f_X5_within x1 0 4 M).bind fun v1 =>
  if wr v1 = 0 then
    some ((-1), M)
  else
    lp (fun s => f_X5_safe_15 n x1 s.1 s.2.1 s.2.2) n (0, 0, M)
set_option maxRecDepth 10000 in
theorem v_X5_safe_0 {E : En} {d : Nat} {Q : Po} {n : Nat} {x1 : Int} {M : Mem} {z : Int × Mem}  (hd : 7 ≤ d) (hF : f_X5_safe n x1 M = some z) (hK : Q (some (vi z.1)) z.2) : V E mX5_safe d 0 [(0, rf E 0), (1, vi x1)] [] M Q := by
  unfold f_X5_safe at hF
  refine V.iload_n 1 1 1 rfl dX5_safe_0 rfl ?_
  refine V.iconst 0 dX5_safe_1 ?_
  refine V.iconst 4 dX5_safe_2 ?_
  replace hF := Option.bind_eq_some_iff.mp hF
  obtain ⟨v1, hv1, hF⟩ := hF
  refine V.callS (d' := d - 1) [vi x1, vi 0, vi 4] [] (c_X5_within (by omega) hv1) okX5_within gw_314 rfl rfl (Nat.le_of_ble_eq_true rfl) (by omega) dX5_safe_3 ?_
  rintro _ _ ⟨rfl, rfl⟩
  show V E mX5_safe d 6 [(0, rf E 0), (1, vi x1)] [vi v1] M _
  refine V.if_ne (tgt := 11) rfl dX5_safe_6 (by decide) (fun hc => ?_) (fun hc => ?_)
  · rw [if_neg hc] at hF
    refine V.iconst 0 dX5_safe_11 ?_
    refine V.istore_n 2 2 [(2, vi 0), (0, rf E 0), (1, vi x1)] rfl dX5_safe_12 (by decide) rfl ?_
    refine V.iconst 0 dX5_safe_13 ?_
    refine V.istore_n 3 3 [(3, vi 0), (2, vi 0), (0, rf E 0), (1, vi x1)] rfl dX5_safe_14 (by decide) rfl ?_
    refine V.sub _ [2, 3, 1, 0] rfl ?_
    exact l_X5_safe_15 hd hF hK
  · rw [if_pos hc] at hF
    refine V.iconst (-1) dX5_safe_9 ?_
    cases Option.some.inj hF
    exact V.iret rfl dX5_safe_10 hK
theorem c_X5_safe {E : En} {d : Nat} {n : Nat} {x1 : Int} {M : Mem} {zr : Int} {zM : Mem}  (hd : 7 ≤ d) (hF : f_X5_safe n x1 M = some (zr, zM)) : Cn E mX5_safe d [rf E 0, vi x1] M (fun v N => v = some (vi zr) ∧ zM = N) := by
  refine V.entry (by decide +kernel) (Nat.le_of_ble_eq_true rfl) ?_
  exact v_X5_safe_0  hd hF ⟨rfl, rfl⟩
abbrev mX5_granary : MI := (yX5_granary, cX5_granary, 2, (some .int))
theorem okX5_granary : OKV mX5_granary 0 := ⟨gw_760, gw_761, gw_58, gw_762, (by decide +kernel), (by decide)⟩
def f_X5_granary_8 (n : Nat) (x1 : Int) (M : Mem) : Option ((Int × Mem) ⊕ (Int × Mem)) :=
  if 40 < wr x1 then
    some (.inr ((-4), M))
  else
    (f_X5_isSafe n 0 0 x1 (M 3 10) M).bind fun (v1, M2) =>
    if wr v1 = 0 then
      some (.inl (x1 + 1, M2))
    else
      some (.inr (x1, M2))
set_option maxRecDepth 10000 in
theorem v_X5_granary_8 {E : En} {d : Nat} {Q : Po} {n : Nat} {x1 : Int} {M : Mem} {z : (Int × Mem) ⊕ (Int × Mem)}  (hd : 7 ≤ d) (hF : f_X5_granary_8 n x1 M = some z) (hC0 : ∀ s' : Int × Mem, z = (.inl s') → V E mX5_granary d 8 [(0, rf E 0), (1, vi (s'.1))] [] s'.2 Q) (hX : ∀ z0 : Int × Mem, z = (.inr z0) → Q (some (vi z0.1)) z0.2) : V E mX5_granary d 8 [(0, rf E 0), (1, vi x1)] [] M Q := by
  unfold f_X5_granary_8 at hF
  refine V.iload_n 1 1 1 rfl dX5_granary_8 rfl ?_
  refine V.bipush 40 40 (by decide) dX5_granary_9 ?_
  refine V.icmp_gt (tgt := 39) rfl wr_40 dX5_granary_11 (by decide) (fun hc => ?_) (fun hc => ?_)
  · rw [if_pos hc] at hF
    refine V.bipush (-4) (-4) (by decide) dX5_granary_39 ?_
    cases Option.some.inj hF
    exact V.iret rfl dX5_granary_41 (hX _ rfl)
  · rw [if_neg hc] at hF
    refine V.aload_n 0 0 0 rfl dX5_granary_14 rfl ?_
    refine V.iconst 0 dX5_granary_15 ?_
    refine V.iconst 0 dX5_granary_16 ?_
    refine V.iload_n 1 1 1 rfl dX5_granary_17 rfl ?_
    refine V.aload_n 0 0 0 rfl dX5_granary_18 rfl ?_
    refine V.get (by decide) (hcX5 E _) rfl inX5 1 (by decide) rfl gw_283 dX5_granary_19 ?_
    refine V.get (ltX2 is_3) (hcX2 is_3 E _) rfl inX2 10 (by decide) rfl gw_163 dX5_granary_22 ?_
    replace hF := Option.bind_eq_some_iff.mp hF
    obtain ⟨⟨v1, M2⟩, hv1, hF⟩ := hF
    dsimp only at hF
    refine V.callV (d' := d - 1) [vi 0, vi 0, vi x1, vi (M 3 10)] [] (c_X5_isSafe (by omega) hv1) okX5_isSafe gw_755 rfl rfl (by decide) (hcX5 E _) rfl (Nat.le_of_ble_eq_true rfl) (by omega) dX5_granary_25 ?_
    rintro _ _ ⟨rfl, rfl⟩
    show V E mX5_granary d 28 [(0, rf E 0), (1, vi x1)] [vi v1] M2 _
    refine V.if_eq (tgt := 33) rfl dX5_granary_28 (by decide) (fun hc => ?_) (fun hc => ?_)
    · rw [if_pos hc] at hF
      refine V.iinc 1 1 1 [(1, vi (x1 + 1)), (0, rf E 0)] dX5_granary_33 rfl (by decide) rfl ?_
      refine V.goto (tgt := 8) dX5_granary_36 (by decide) ?_
      cases Option.some.inj hF
      refine V.sub _ [1, 0] rfl ?_
      exact hC0 _ rfl
    · rw [if_neg hc] at hF
      refine V.iload_n 1 1 1 rfl dX5_granary_31 rfl ?_
      cases Option.some.inj hF
      exact V.iret rfl dX5_granary_32 (hX _ rfl)
theorem l_X5_granary_8 {E : En} {d : Nat} {Q : Po} {n : Nat} {k : Nat} {s : Int × Mem} {z : Int × Mem}  (hd : 7 ≤ d) (hF : lp (fun s => f_X5_granary_8 n s.1 s.2) k s = some z) (hK : Q (some (vi z.1)) z.2) : V E mX5_granary d 8 [(0, rf E 0), (1, vi s.1)] [] s.2 Q := by
  refine lp_ind (P := fun s => V E mX5_granary d 8 [(0, rf E 0), (1, vi s.1)] [] s.2 Q) (z0 := z) ?_ k s hF
  intro s z' hF hc hx
  exact v_X5_granary_8 hd hF (fun s' e => hc s' e) (fun z0 e => by rw [hx _ e]; exact hK)
def f_X5_granary (n : Nat) (M : Mem) : Option (Int × Mem) :=
  lp (fun s => f_X5_granary_8 n s.1 s.2) n (M 3 10, M)
set_option maxRecDepth 10000 in
theorem v_X5_granary_0 {E : En} {d : Nat} {Q : Po} {n : Nat} {M : Mem} {z : Int × Mem}  (hd : 7 ≤ d) (hF : f_X5_granary n M = some z) (hK : Q (some (vi z.1)) z.2) : V E mX5_granary d 0 [(0, rf E 0)] [] M Q := by
  unfold f_X5_granary at hF
  refine V.aload_n 0 0 0 rfl dX5_granary_0 rfl ?_
  refine V.get (by decide) (hcX5 E _) rfl inX5 1 (by decide) rfl gw_283 dX5_granary_1 ?_
  refine V.get (ltX2 is_3) (hcX2 is_3 E _) rfl inX2 10 (by decide) rfl gw_163 dX5_granary_4 ?_
  refine V.istore_n 1 1 [(1, vi (M 3 10)), (0, rf E 0)] rfl dX5_granary_7 (by decide) rfl ?_
  refine V.sub _ [1, 0] rfl ?_
  exact l_X5_granary_8 hd hF hK
theorem c_X5_granary {E : En} {d : Nat} {n : Nat} {M : Mem} {zr : Int} {zM : Mem}  (hd : 7 ≤ d) (hF : f_X5_granary n M = some (zr, zM)) : Cn E mX5_granary d [rf E 0] M (fun v N => v = some (vi zr) ∧ zM = N) := by
  refine V.entry (by decide +kernel) (Nat.le_of_ble_eq_true rfl) ?_
  exact v_X5_granary_0  hd hF ⟨rfl, rfl⟩
abbrev mX5_least : MI := (yX5_least, cX5_least, 2, (some .int))
theorem okX5_least : OKV mX5_least 0 := ⟨gw_764, gw_765, gw_58, gw_766, (by decide +kernel), (by decide)⟩
def f_X5_least_2 (n : Nat) (x1 : Int) (M : Mem) : Option ((Int × Mem) ⊕ (Int × Mem)) :=
  if wr (M 3 8) < wr x1 then
    some (.inr ((-4), M))
  else
    (f_X5_isSafe n (M 3 13) (M 3 14) (M 3 8) x1 M).bind fun (v1, M2) =>
    if wr v1 = 0 then
      some (.inl (x1 + 1, M2))
    else
      some (.inr (x1, M2))
set_option maxRecDepth 10000 in
theorem v_X5_least_2 {E : En} {d : Nat} {Q : Po} {n : Nat} {x1 : Int} {M : Mem} {z : (Int × Mem) ⊕ (Int × Mem)}  (hd : 7 ≤ d) (hF : f_X5_least_2 n x1 M = some z) (hC0 : ∀ s' : Int × Mem, z = (.inl s') → V E mX5_least d 2 [(0, rf E 0), (1, vi (s'.1))] [] s'.2 Q) (hX : ∀ z0 : Int × Mem, z = (.inr z0) → Q (some (vi z0.1)) z0.2) : V E mX5_least d 2 [(0, rf E 0), (1, vi x1)] [] M Q := by
  unfold f_X5_least_2 at hF
  refine V.iload_n 1 1 1 rfl dX5_least_2 rfl ?_
  refine V.aload_n 0 0 0 rfl dX5_least_3 rfl ?_
  refine V.get (by decide) (hcX5 E _) rfl inX5 1 (by decide) rfl gw_283 dX5_least_4 ?_
  refine V.get (ltX2 is_3) (hcX2 is_3 E _) rfl inX2 8 (by decide) rfl gw_156 dX5_least_7 ?_
  refine V.icmp_gt (tgt := 50) rfl rfl dX5_least_10 (by decide) (fun hc => ?_) (fun hc => ?_)
  · rw [if_pos hc] at hF
    refine V.bipush (-4) (-4) (by decide) dX5_least_50 ?_
    cases Option.some.inj hF
    exact V.iret rfl dX5_least_52 (hX _ rfl)
  · rw [if_neg hc] at hF
    refine V.aload_n 0 0 0 rfl dX5_least_13 rfl ?_
    refine V.aload_n 0 0 0 rfl dX5_least_14 rfl ?_
    refine V.get (by decide) (hcX5 E _) rfl inX5 1 (by decide) rfl gw_283 dX5_least_15 ?_
    refine V.get (ltX2 is_3) (hcX2 is_3 E _) rfl inX2 13 (by decide) rfl gw_172 dX5_least_18 ?_
    refine V.aload_n 0 0 0 rfl dX5_least_21 rfl ?_
    refine V.get (by decide) (hcX5 E _) rfl inX5 1 (by decide) rfl gw_283 dX5_least_22 ?_
    refine V.get (ltX2 is_3) (hcX2 is_3 E _) rfl inX2 14 (by decide) rfl gw_174 dX5_least_25 ?_
    refine V.aload_n 0 0 0 rfl dX5_least_28 rfl ?_
    refine V.get (by decide) (hcX5 E _) rfl inX5 1 (by decide) rfl gw_283 dX5_least_29 ?_
    refine V.get (ltX2 is_3) (hcX2 is_3 E _) rfl inX2 8 (by decide) rfl gw_156 dX5_least_32 ?_
    refine V.iload_n 1 1 1 rfl dX5_least_35 rfl ?_
    replace hF := Option.bind_eq_some_iff.mp hF
    obtain ⟨⟨v1, M2⟩, hv1, hF⟩ := hF
    dsimp only at hF
    refine V.callV (d' := d - 1) [vi (M 3 13), vi (M 3 14), vi (M 3 8), vi x1] [] (c_X5_isSafe (by omega) hv1) okX5_isSafe gw_755 rfl rfl (by decide) (hcX5 E _) rfl (Nat.le_of_ble_eq_true rfl) (by omega) dX5_least_36 ?_
    rintro _ _ ⟨rfl, rfl⟩
    show V E mX5_least d 39 [(0, rf E 0), (1, vi x1)] [vi v1] M2 _
    refine V.if_eq (tgt := 44) rfl dX5_least_39 (by decide) (fun hc => ?_) (fun hc => ?_)
    · rw [if_pos hc] at hF
      refine V.iinc 1 1 1 [(1, vi (x1 + 1)), (0, rf E 0)] dX5_least_44 rfl (by decide) rfl ?_
      refine V.goto (tgt := 2) dX5_least_47 (by decide) ?_
      cases Option.some.inj hF
      refine V.sub _ [1, 0] rfl ?_
      exact hC0 _ rfl
    · rw [if_neg hc] at hF
      refine V.iload_n 1 1 1 rfl dX5_least_42 rfl ?_
      cases Option.some.inj hF
      exact V.iret rfl dX5_least_43 (hX _ rfl)
theorem l_X5_least_2 {E : En} {d : Nat} {Q : Po} {n : Nat} {k : Nat} {s : Int × Mem} {z : Int × Mem}  (hd : 7 ≤ d) (hF : lp (fun s => f_X5_least_2 n s.1 s.2) k s = some z) (hK : Q (some (vi z.1)) z.2) : V E mX5_least d 2 [(0, rf E 0), (1, vi s.1)] [] s.2 Q := by
  refine lp_ind (P := fun s => V E mX5_least d 2 [(0, rf E 0), (1, vi s.1)] [] s.2 Q) (z0 := z) ?_ k s hF
  intro s z' hF hc hx
  exact v_X5_least_2 hd hF (fun s' e => hc s' e) (fun z0 e => by rw [hx _ e]; exact hK)
def f_X5_least (n : Nat) (M : Mem) : Option (Int × Mem) :=
  lp (fun s => f_X5_least_2 n s.1 s.2) n (0, M)
set_option maxRecDepth 10000 in
theorem v_X5_least_0 {E : En} {d : Nat} {Q : Po} {n : Nat} {M : Mem} {z : Int × Mem}  (hd : 7 ≤ d) (hF : f_X5_least n M = some z) (hK : Q (some (vi z.1)) z.2) : V E mX5_least d 0 [(0, rf E 0)] [] M Q := by
  unfold f_X5_least at hF
  refine V.iconst 0 dX5_least_0 ?_
  refine V.istore_n 1 1 [(1, vi 0), (0, rf E 0)] rfl dX5_least_1 (by decide) rfl ?_
  refine V.sub _ [1, 0] rfl ?_
  exact l_X5_least_2 hd hF hK
theorem c_X5_least {E : En} {d : Nat} {n : Nat} {M : Mem} {zr : Int} {zM : Mem}  (hd : 7 ≤ d) (hF : f_X5_least n M = some (zr, zM)) : Cn E mX5_least d [rf E 0] M (fun v N => v = some (vi zr) ∧ zM = N) := by
  refine V.entry (by decide +kernel) (Nat.le_of_ble_eq_true rfl) ?_
  exact v_X5_least_0  hd hF ⟨rfl, rfl⟩
abbrev mX5_see : MI := (yX5_see, cX5_see, 3, (some .int))
theorem okX5_see : OKV mX5_see 2 := ⟨gw_768, gw_769, gw_58, gw_770, (by decide +kernel), (by decide)⟩
def f_X5_see (x1 : Int) (x2 : Int) (M : Mem) : Option (Int × Mem) :=
  (f_X5_within x1 1 8 M).bind fun v1 =>
  if wr v1 = 0 then
    some ((-1), M)
  else
    (f_X5_within x2 0 40 M).bind fun v2 =>
    if wr v2 = 0 then
      some ((-1), M)
    else
      (f_X0_note x1 x2 M).bind fun (v3, M4) =>
      if wr v3 = 0 then
        some ((-3), M4)
      else
        some (M4 22 2, M4)
set_option maxRecDepth 10000 in
theorem v_X5_see_0 {E : En} {d : Nat} {Q : Po} {x1 : Int} {x2 : Int} {M : Mem} {z : Int × Mem}  (hd : 2 ≤ d) (hF : f_X5_see x1 x2 M = some z) (hK : Q (some (vi z.1)) z.2) : V E mX5_see d 0 [(0, rf E 0), (1, vi x1), (2, vi x2)] [] M Q := by
  unfold f_X5_see at hF
  refine V.iload_n 1 1 1 rfl dX5_see_0 rfl ?_
  refine V.iconst 1 dX5_see_1 ?_
  refine V.bipush 8 8 (by decide) dX5_see_2 ?_
  replace hF := Option.bind_eq_some_iff.mp hF
  obtain ⟨v1, hv1, hF⟩ := hF
  refine V.callS (d' := d - 1) [vi x1, vi 1, vi 8] [] (c_X5_within (by omega) hv1) okX5_within gw_314 rfl rfl (Nat.le_of_ble_eq_true rfl) (by omega) dX5_see_4 ?_
  rintro _ _ ⟨rfl, rfl⟩
  show V E mX5_see d 7 [(0, rf E 0), (1, vi x1), (2, vi x2)] [vi v1] M _
  refine V.if_eq (tgt := 20) rfl dX5_see_7 (by decide) (fun hc => ?_) (fun hc => ?_)
  · rw [if_pos hc] at hF
    refine V.iconst (-1) dX5_see_20 ?_
    cases Option.some.inj hF
    exact V.iret rfl dX5_see_21 hK
  · rw [if_neg hc] at hF
    refine V.iload_n 2 2 2 rfl dX5_see_10 rfl ?_
    refine V.iconst 0 dX5_see_11 ?_
    refine V.bipush 40 40 (by decide) dX5_see_12 ?_
    replace hF := Option.bind_eq_some_iff.mp hF
    obtain ⟨v2, hv2, hF⟩ := hF
    refine V.callS (d' := d - 1) [vi x2, vi 0, vi 40] [] (c_X5_within (by omega) hv2) okX5_within gw_314 rfl rfl (Nat.le_of_ble_eq_true rfl) (by omega) dX5_see_14 ?_
    rintro _ _ ⟨rfl, rfl⟩
    show V E mX5_see d 17 [(0, rf E 0), (1, vi x1), (2, vi x2)] [vi v2] M _
    refine V.if_ne (tgt := 22) rfl dX5_see_17 (by decide) (fun hc => ?_) (fun hc => ?_)
    · rw [if_neg hc] at hF
      refine V.aload_n 0 0 0 rfl dX5_see_22 rfl ?_
      refine V.get (by decide) (hcX5 E _) rfl inX5 4 (by decide) rfl gw_286 dX5_see_23 ?_
      refine V.iload_n 1 1 1 rfl dX5_see_26 rfl ?_
      refine V.iload_n 2 2 2 rfl dX5_see_27 rfl ?_
      replace hF := Option.bind_eq_some_iff.mp hF
      obtain ⟨⟨v3, M4⟩, hv3, hF⟩ := hF
      dsimp only at hF
      refine V.callV (d' := d - 1) [vi x1, vi x2] [] (c_X0_note (by omega) hv3) okX0_note gw_771 rfl rfl (by decide) (hcX0 E _) rfl (Nat.le_of_ble_eq_true rfl) (by omega) dX5_see_28 ?_
      rintro _ _ ⟨rfl, rfl⟩
      show V E mX5_see d 31 [(0, rf E 0), (1, vi x1), (2, vi x2)] [vi v3] M4 _
      refine V.if_eq (tgt := 44) rfl dX5_see_31 (by decide) (fun hc => ?_) (fun hc => ?_)
      · rw [if_pos hc] at hF
        refine V.bipush (-3) (-3) (by decide) dX5_see_44 ?_
        cases Option.some.inj hF
        exact V.iret rfl dX5_see_46 hK
      · rw [if_neg hc] at hF
        refine V.aload_n 0 0 0 rfl dX5_see_34 rfl ?_
        refine V.get (by decide) (hcX5 E _) rfl inX5 4 (by decide) rfl gw_286 dX5_see_35 ?_
        refine V.get (by decide) (hcX0 E _) rfl inX0 2 (by decide) rfl gw_253 dX5_see_38 ?_
        refine V.goto (tgt := 46) dX5_see_41 (by decide) ?_
        cases Option.some.inj hF
        exact V.iret rfl dX5_see_46 hK
    · rw [if_pos hc] at hF
      refine V.iconst (-1) dX5_see_20 ?_
      cases Option.some.inj hF
      exact V.iret rfl dX5_see_21 hK
theorem c_X5_see {E : En} {d : Nat} {x1 : Int} {x2 : Int} {M : Mem} {zr : Int} {zM : Mem}  (hd : 2 ≤ d) (hF : f_X5_see x1 x2 M = some (zr, zM)) : Cn E mX5_see d [rf E 0, vi x1, vi x2] M (fun v N => v = some (vi zr) ∧ zM = N) := by
  refine V.entry (by decide +kernel) (Nat.le_of_ble_eq_true rfl) ?_
  exact v_X5_see_0  hd hF ⟨rfl, rfl⟩
abbrev mX5_forget : MI := (yX5_forget, cX5_forget, 3, (some .int))
theorem okX5_forget : OKV mX5_forget 1 := ⟨gw_776, gw_777, gw_58, gw_778, (by decide +kernel), (by decide)⟩
def f_X5_forget (x1 : Int) (M : Mem) : Option (Int × Mem) :=
  (f_X5_within x1 0 (M 22 2) M).bind fun v1 =>
  if wr v1 = 0 then
    some ((-1), M)
  else
    (some (st M 22 2 x1)).bind fun M2 =>
    some (M 22 2, M2)
set_option maxRecDepth 10000 in
theorem v_X5_forget_0 {E : En} {d : Nat} {Q : Po} {x1 : Int} {M : Mem} {z : Int × Mem}  (hd : 2 ≤ d) (hF : f_X5_forget x1 M = some z) (hK : Q (some (vi z.1)) z.2) : V E mX5_forget d 0 [(0, rf E 0), (1, vi x1)] [] M Q := by
  unfold f_X5_forget at hF
  refine V.iload_n 1 1 1 rfl dX5_forget_0 rfl ?_
  refine V.iconst 0 dX5_forget_1 ?_
  refine V.aload_n 0 0 0 rfl dX5_forget_2 rfl ?_
  refine V.get (by decide) (hcX5 E _) rfl inX5 4 (by decide) rfl gw_286 dX5_forget_3 ?_
  refine V.get (by decide) (hcX0 E _) rfl inX0 2 (by decide) rfl gw_253 dX5_forget_6 ?_
  replace hF := Option.bind_eq_some_iff.mp hF
  obtain ⟨v1, hv1, hF⟩ := hF
  refine V.callS (d' := d - 1) [vi x1, vi 0, vi (M 22 2)] [] (c_X5_within (by omega) hv1) okX5_within gw_314 rfl rfl (Nat.le_of_ble_eq_true rfl) (by omega) dX5_forget_9 ?_
  rintro _ _ ⟨rfl, rfl⟩
  show V E mX5_forget d 12 [(0, rf E 0), (1, vi x1)] [vi v1] M _
  refine V.if_ne (tgt := 17) rfl dX5_forget_12 (by decide) (fun hc => ?_) (fun hc => ?_)
  · rw [if_neg hc] at hF
    refine V.aload_n 0 0 0 rfl dX5_forget_17 rfl ?_
    refine V.get (by decide) (hcX5 E _) rfl inX5 4 (by decide) rfl gw_286 dX5_forget_18 ?_
    refine V.get (by decide) (hcX0 E _) rfl inX0 2 (by decide) rfl gw_253 dX5_forget_21 ?_
    refine V.istore_n 2 2 [(2, vi (M 22 2)), (0, rf E 0), (1, vi x1)] rfl dX5_forget_24 (by decide) rfl ?_
    refine V.aload_n 0 0 1 rfl dX5_forget_25 rfl ?_
    refine V.get (by decide) (hcX5 E _) rfl inX5 4 (by decide) rfl gw_286 dX5_forget_26 ?_
    refine V.iload_n 1 1 2 rfl dX5_forget_29 rfl ?_
    replace hF := Option.bind_eq_some_iff.mp hF
    obtain ⟨M2, hM2, hF⟩ := hF
    refine V.put (x := x1) (ty := .int) (Option.some.inj hM2) (by decide) (hcX0 E) rfl inX0 tyX0 tyX0_ok nmX0 (by decide) rfl (by decide +kernel) rfl rfl (Nat.le_of_ble_eq_true rfl) rfl gw_253 dX5_forget_30 ?_
    refine V.iload_n 2 2 0 rfl dX5_forget_33 rfl ?_
    cases Option.some.inj hF
    exact V.iret rfl dX5_forget_34 hK
  · rw [if_pos hc] at hF
    refine V.iconst (-1) dX5_forget_15 ?_
    cases Option.some.inj hF
    exact V.iret rfl dX5_forget_16 hK
theorem c_X5_forget {E : En} {d : Nat} {x1 : Int} {M : Mem} {zr : Int} {zM : Mem}  (hd : 2 ≤ d) (hF : f_X5_forget x1 M = some (zr, zM)) : Cn E mX5_forget d [rf E 0, vi x1] M (fun v N => v = some (vi zr) ∧ zM = N) := by
  refine V.entry (by decide +kernel) (Nat.le_of_ble_eq_true rfl) ?_
  exact v_X5_forget_0  hd hF ⟨rfl, rfl⟩
abbrev mX5_isAsSeen : MI := (yX5_isAsSeen, cX5_isAsSeen, 6, (some .boolean))
theorem okX5_isAsSeen : OKV mX5_isAsSeen 4 := ⟨gw_785, gw_24, gw_58, gw_786, (by decide +kernel), (by decide)⟩
def f_X5_isAsSeen_84 (n : Nat) (x1 : Int) (x4 : Int) (x5 : Int) (M : Mem) : Option ((Int × Mem) ⊕ (Int × Mem)) :=
  (f_X0_agree n x5 (M 8 10) M).bind fun v1 =>
  if wr v1 = 0 then
    some (.inr (0, M))
  else
    some (.inl (x5 + 1, M))
set_option maxRecDepth 10000 in
theorem v_X5_isAsSeen_84 {E : En} {d : Nat} {Q : Po} {n : Nat} {x1 : Int} {x4 : Int} {x5 : Int} {M : Mem} {z : (Int × Mem) ⊕ (Int × Mem)}  (hd : 5 ≤ d) (hF : f_X5_isAsSeen_84 n x1 x4 x5 M = some z) (hC0 : ∀ s' : Int × Mem, z = (.inl s') → V E mX5_isAsSeen d 23 [(0, rf E 0), (1, vi x1), (4, vi x4), (5, vi (s'.1))] [] s'.2 Q) (hX : ∀ z0 : Int × Mem, z = (.inr z0) → Q (some (vi z0.1)) z0.2) : V E mX5_isAsSeen d 84 [(0, rf E 0), (1, vi x1), (4, vi x4), (5, vi x5)] [] M Q := by
  unfold f_X5_isAsSeen_84 at hF
  refine V.aload_n 0 0 0 rfl dX5_isAsSeen_84 rfl ?_
  refine V.get (by decide) (hcX5 E _) rfl inX5 4 (by decide) rfl gw_286 dX5_isAsSeen_85 ?_
  refine V.iload 5 3 dX5_isAsSeen_88 rfl ?_
  refine V.aload_n 0 0 0 rfl dX5_isAsSeen_90 rfl ?_
  refine V.get (by decide) (hcX5 E _) rfl inX5 2 (by decide) rfl gw_284 dX5_isAsSeen_91 ?_
  refine V.get (ltX2 is_8) (hcX2 is_8 E _) rfl inX2 10 (by decide) rfl gw_163 dX5_isAsSeen_94 ?_
  replace hF := Option.bind_eq_some_iff.mp hF
  obtain ⟨v1, hv1, hF⟩ := hF
  refine V.callV (d' := d - 1) [vi x5, vi (M 8 10)] [] (c_X0_agree (by omega) hv1) okX0_agree gw_788 rfl rfl (by decide) (hcX0 E _) rfl (Nat.le_of_ble_eq_true rfl) (by omega) dX5_isAsSeen_97 ?_
  rintro _ _ ⟨rfl, rfl⟩
  show V E mX5_isAsSeen d 100 [(0, rf E 0), (1, vi x1), (4, vi x4), (5, vi x5)] [vi v1] M _
  refine V.if_ne (tgt := 105) rfl dX5_isAsSeen_100 (by decide) (fun hc => ?_) (fun hc => ?_)
  · rw [if_neg hc] at hF
    refine V.iinc 5 3 1 [(5, vi (x5 + 1)), (0, rf E 0), (1, vi x1), (4, vi x4)] dX5_isAsSeen_105 rfl (by decide) rfl ?_
    refine V.goto (tgt := 23) dX5_isAsSeen_108 (by decide) ?_
    cases Option.some.inj hF
    refine V.sub _ [1, 2, 3, 0] rfl ?_
    exact hC0 _ rfl
  · rw [if_pos hc] at hF
    refine V.iconst 0 dX5_isAsSeen_103 ?_
    cases Option.some.inj hF
    exact V.zret rfl (Or.inl rfl) dX5_isAsSeen_104 (hX _ rfl)
def f_X5_isAsSeen_23 (n : Nat) (x1 : Int) (x4 : Int) (x5 : Int) (M : Mem) : Option ((Int × Mem) ⊕ (Int × Mem)) :=
  if 8 < wr x5 then
    some (.inr (1, M))
  else
    (f_X2_isOver 8 M).bind fun v1 =>
    if wr v1 = 0 then
      (f_X2_fatIn 8 x1 (M 8 15) M).bind fun v2 =>
      (f_X2_passByHim n 8 v2 M).bind fun (v3, M4) =>
      (some (st M4 8 10 (mxx 0 ((M4 8 10) - x4)))).bind fun M5 =>
      f_X5_isAsSeen_84 n x1 x4 x5 M5
    else
      f_X5_isAsSeen_84 n x1 x4 x5 M
set_option maxRecDepth 10000 in
theorem v_X5_isAsSeen_23 {E : En} {d : Nat} {Q : Po} {n : Nat} {x1 : Int} {x4 : Int} {x5 : Int} {M : Mem} {z : (Int × Mem) ⊕ (Int × Mem)}  (hd : 5 ≤ d) (hF : f_X5_isAsSeen_23 n x1 x4 x5 M = some z) (hC0 : ∀ s' : Int × Mem, z = (.inl s') → V E mX5_isAsSeen d 23 [(0, rf E 0), (1, vi x1), (4, vi x4), (5, vi (s'.1))] [] s'.2 Q) (hX : ∀ z0 : Int × Mem, z = (.inr z0) → Q (some (vi z0.1)) z0.2) : V E mX5_isAsSeen d 23 [(0, rf E 0), (1, vi x1), (4, vi x4), (5, vi x5)] [] M Q := by
  unfold f_X5_isAsSeen_23 at hF
  refine V.iload 5 3 dX5_isAsSeen_23 rfl ?_
  refine V.bipush 8 8 (by decide) dX5_isAsSeen_25 ?_
  refine V.icmp_gt (tgt := 111) rfl wr_8 dX5_isAsSeen_27 (by decide) (fun hc => ?_) (fun hc => ?_)
  · rw [if_pos hc] at hF
    refine V.iconst 1 dX5_isAsSeen_111 ?_
    cases Option.some.inj hF
    exact V.zret rfl (Or.inr rfl) dX5_isAsSeen_112 (hX _ rfl)
  · rw [if_neg hc] at hF
    refine V.aload_n 0 0 0 rfl dX5_isAsSeen_30 rfl ?_
    refine V.get (by decide) (hcX5 E _) rfl inX5 2 (by decide) rfl gw_284 dX5_isAsSeen_31 ?_
    replace hF := Option.bind_eq_some_iff.mp hF
    obtain ⟨v1, hv1, hF⟩ := hF
    refine V.callV (d' := d - 1) [] [] (c_X2_isOver is_8 (by omega) hv1) okX2_isOver gw_626 rfl rfl (ltX2 is_8) (hcX2 is_8 E _) rfl (Nat.le_of_ble_eq_true rfl) (by omega) dX5_isAsSeen_34 ?_
    rintro _ _ ⟨rfl, rfl⟩
    show V E mX5_isAsSeen d 37 [(0, rf E 0), (1, vi x1), (4, vi x4), (5, vi x5)] [vi v1] M _
    refine V.if_ne (tgt := 84) rfl dX5_isAsSeen_37 (by decide) (fun hc => ?_) (fun hc => ?_)
    · rw [if_neg hc] at hF
      exact v_X5_isAsSeen_84 hd hF hC0 hX
    · rw [if_pos hc] at hF
      refine V.aload_n 0 0 0 rfl dX5_isAsSeen_40 rfl ?_
      refine V.get (by decide) (hcX5 E _) rfl inX5 2 (by decide) rfl gw_284 dX5_isAsSeen_41 ?_
      refine V.aload_n 0 0 0 rfl dX5_isAsSeen_44 rfl ?_
      refine V.get (by decide) (hcX5 E _) rfl inX5 2 (by decide) rfl gw_284 dX5_isAsSeen_45 ?_
      refine V.iload_n 1 1 1 rfl dX5_isAsSeen_48 rfl ?_
      refine V.aload_n 0 0 0 rfl dX5_isAsSeen_49 rfl ?_
      refine V.get (by decide) (hcX5 E _) rfl inX5 2 (by decide) rfl gw_284 dX5_isAsSeen_50 ?_
      refine V.get (ltX2 is_8) (hcX2 is_8 E _) rfl inX2 15 (by decide) rfl gw_177 dX5_isAsSeen_53 ?_
      replace hF := Option.bind_eq_some_iff.mp hF
      obtain ⟨v2, hv2, hF⟩ := hF
      refine V.callV (d' := d - 1) [vi x1, vi (M 8 15)] [rf E 8] (c_X2_fatIn is_8 (by omega) hv2) okX2_fatIn gw_526 rfl rfl (ltX2 is_8) (hcX2 is_8 E _) rfl (Nat.le_of_ble_eq_true rfl) (by omega) dX5_isAsSeen_56 ?_
      rintro _ _ ⟨rfl, rfl⟩
      show V E mX5_isAsSeen d 59 [(0, rf E 0), (1, vi x1), (4, vi x4), (5, vi x5)] [vi v2, rf E 8] M _
      replace hF := Option.bind_eq_some_iff.mp hF
      obtain ⟨⟨v3, M4⟩, hv3, hF⟩ := hF
      dsimp only at hF
      refine V.callV (d' := d - 1) [vi v2] [] (c_X2_passByHim is_8 (by omega) hv3) okX2_passByHim gw_627 rfl rfl (ltX2 is_8) (hcX2 is_8 E _) rfl (Nat.le_of_ble_eq_true rfl) (by omega) dX5_isAsSeen_59 ?_
      rintro _ _ ⟨rfl, rfl⟩
      show V E mX5_isAsSeen d 62 [(0, rf E 0), (1, vi x1), (4, vi x4), (5, vi x5)] [vi v3] M4 _
      refine V.pop rfl dX5_isAsSeen_62 ?_
      refine V.aload_n 0 0 0 rfl dX5_isAsSeen_63 rfl ?_
      refine V.get (by decide) (hcX5 E _) rfl inX5 2 (by decide) rfl gw_284 dX5_isAsSeen_64 ?_
      refine V.iconst 0 dX5_isAsSeen_67 ?_
      refine V.aload_n 0 0 0 rfl dX5_isAsSeen_68 rfl ?_
      refine V.get (by decide) (hcX5 E _) rfl inX5 2 (by decide) rfl gw_284 dX5_isAsSeen_69 ?_
      refine V.get (ltX2 is_8) (hcX2 is_8 E _) rfl inX2 10 (by decide) rfl gw_163 dX5_isAsSeen_72 ?_
      refine V.iload 4 2 dX5_isAsSeen_75 rfl ?_
      refine V.isub dX5_isAsSeen_77 ?_
      refine V.rmax gw_787 (Nat.le_of_ble_eq_true rfl) (by omega) dX5_isAsSeen_78 ?_
      replace hF := Option.bind_eq_some_iff.mp hF
      obtain ⟨M5, hM5, hF⟩ := hF
      refine V.put (x := mxx 0 ((M4 8 10) - x4)) (ty := .int) (Option.some.inj hM5) (ltX2 is_8) (hcX2 is_8 E) rfl inX2 tyX2 tyX2_ok nmX2 (by decide) rfl (by decide +kernel) rfl rfl (Nat.le_of_ble_eq_true rfl) rfl gw_163 dX5_isAsSeen_81 ?_
      exact v_X5_isAsSeen_84 hd hF hC0 hX
theorem l_X5_isAsSeen_23 {E : En} {d : Nat} {Q : Po} {n : Nat} {x1 : Int} {x4 : Int} {k : Nat} {s : Int × Mem} {z : Int × Mem}  (hd : 5 ≤ d) (hF : lp (fun s => f_X5_isAsSeen_23 n x1 x4 s.1 s.2) k s = some z) (hK : Q (some (vi z.1)) z.2) : V E mX5_isAsSeen d 23 [(0, rf E 0), (1, vi x1), (4, vi x4), (5, vi s.1)] [] s.2 Q := by
  refine lp_ind (P := fun s => V E mX5_isAsSeen d 23 [(0, rf E 0), (1, vi x1), (4, vi x4), (5, vi s.1)] [] s.2 Q) (z0 := z) ?_ k s hF
  intro s z' hF hc hx
  exact v_X5_isAsSeen_23 hd hF (fun s' e => hc s' e) (fun z0 e => by rw [hx _ e]; exact hK)
def f_X5_isAsSeen (n : Nat) (x1 : Int) (x2 : Int) (x3 : Int) (x4 : Int) (M : Mem) : Option (Int × Mem) :=
  (f_X2_copy 8 3 M).bind fun M1 =>
  (f_X2_appoint 8 x2 x3 M1).bind fun M2 =>
  lp (fun s => f_X5_isAsSeen_23 n x1 x4 s.1 s.2) n (1, M2)
set_option maxRecDepth 10000 in
theorem v_X5_isAsSeen_0 {E : En} {d : Nat} {Q : Po} {n : Nat} {x1 : Int} {x2 : Int} {x3 : Int} {x4 : Int} {M : Mem} {z : Int × Mem}  (hd : 5 ≤ d) (hF : f_X5_isAsSeen n x1 x2 x3 x4 M = some z) (hK : Q (some (vi z.1)) z.2) : V E mX5_isAsSeen d 0 [(0, rf E 0), (1, vi x1), (2, vi x2), (3, vi x3), (4, vi x4)] [] M Q := by
  unfold f_X5_isAsSeen at hF
  refine V.aload_n 0 0 0 rfl dX5_isAsSeen_0 rfl ?_
  refine V.get (by decide) (hcX5 E _) rfl inX5 2 (by decide) rfl gw_284 dX5_isAsSeen_1 ?_
  refine V.aload_n 0 0 0 rfl dX5_isAsSeen_4 rfl ?_
  refine V.get (by decide) (hcX5 E _) rfl inX5 1 (by decide) rfl gw_283 dX5_isAsSeen_5 ?_
  replace hF := Option.bind_eq_some_iff.mp hF
  obtain ⟨M1, hM1, hF⟩ := hF
  refine V.callV (d' := d - 1) [rf E 3] [] (c_X2_copy is_8 is_3 (by omega) hM1) okX2_copy gw_483 rfl rfl (ltX2 is_8) (hcX2 is_8 E _) rfl (Nat.le_of_ble_eq_true rfl) (by omega) dX5_isAsSeen_8 ?_
  rintro _ _ ⟨rfl, rfl⟩
  show V E mX5_isAsSeen d 11 [(0, rf E 0), (1, vi x1), (2, vi x2), (3, vi x3), (4, vi x4)] [] M1 _
  refine V.aload_n 0 0 0 rfl dX5_isAsSeen_11 rfl ?_
  refine V.get (by decide) (hcX5 E _) rfl inX5 2 (by decide) rfl gw_284 dX5_isAsSeen_12 ?_
  refine V.iload_n 2 2 2 rfl dX5_isAsSeen_15 rfl ?_
  refine V.iload_n 3 3 3 rfl dX5_isAsSeen_16 rfl ?_
  replace hF := Option.bind_eq_some_iff.mp hF
  obtain ⟨M2, hM2, hF⟩ := hF
  refine V.callV (d' := d - 1) [vi x2, vi x3] [] (c_X2_appoint is_8 (by omega) hM2) okX2_appoint gw_579 rfl rfl (ltX2 is_8) (hcX2 is_8 E _) rfl (Nat.le_of_ble_eq_true rfl) (by omega) dX5_isAsSeen_17 ?_
  rintro _ _ ⟨rfl, rfl⟩
  show V E mX5_isAsSeen d 20 [(0, rf E 0), (1, vi x1), (2, vi x2), (3, vi x3), (4, vi x4)] [] M2 _
  refine V.iconst 1 dX5_isAsSeen_20 ?_
  refine V.istore 5 [(5, vi 1), (0, rf E 0), (1, vi x1), (2, vi x2), (3, vi x3), (4, vi x4)] dX5_isAsSeen_21 (by decide) rfl ?_
  refine V.sub _ [1, 2, 5, 0] rfl ?_
  exact l_X5_isAsSeen_23 hd hF hK
theorem c_X5_isAsSeen {E : En} {d : Nat} {n : Nat} {x1 : Int} {x2 : Int} {x3 : Int} {x4 : Int} {M : Mem} {zr : Int} {zM : Mem}  (hd : 5 ≤ d) (hF : f_X5_isAsSeen n x1 x2 x3 x4 M = some (zr, zM)) : Cn E mX5_isAsSeen d [rf E 0, vi x1, vi x2, vi x3, vi x4] M (fun v N => v = some (vi zr) ∧ zM = N) := by
  refine V.entry (by decide +kernel) (Nat.le_of_ble_eq_true rfl) ?_
  exact v_X5_isAsSeen_0  hd hF ⟨rfl, rfl⟩
abbrev mX5_stewards : MI := (yX5_stewards, cX5_stewards, 7, (some .int))
theorem okX5_stewards : OKV mX5_stewards 2 := ⟨gw_780, gw_781, gw_58, gw_782, (by decide +kernel), (by decide)⟩
def f_X5_stewards_89 (n : Nat) (x2 : Int) (x3 : Int) (x4 : Int) (M : Mem) : Option (Int × Mem) :=
  if wr x2 = 0 then
    some (x3, M)
  else
    some (x4, M)
set_option maxRecDepth 10000 in
theorem v_X5_stewards_89 {E : En} {d : Nat} {Q : Po} {n : Nat} {x2 : Int} {x3 : Int} {x4 : Int} {M : Mem} {z : Int × Mem}  (hd : 6 ≤ d) (hF : f_X5_stewards_89 n x2 x3 x4 M = some z) (hK : Q (some (vi z.1)) z.2) : V E mX5_stewards d 89 [(2, vi x2), (3, vi x3), (4, vi x4)] [] M Q := by
  unfold f_X5_stewards_89 at hF
  refine V.iload_n 2 2 0 rfl dX5_stewards_89 rfl ?_
  refine V.if_ne (tgt := 97) rfl dX5_stewards_90 (by decide) (fun hc => ?_) (fun hc => ?_)
  · rw [if_neg hc] at hF
    refine V.iload 4 2 dX5_stewards_97 rfl ?_
    cases Option.some.inj hF
    exact V.iret rfl dX5_stewards_99 hK
  · rw [if_pos hc] at hF
    refine V.iload_n 3 3 1 rfl dX5_stewards_93 rfl ?_
    refine V.goto (tgt := 99) dX5_stewards_94 (by decide) ?_
    cases Option.some.inj hF
    exact V.iret rfl dX5_stewards_99 hK
def f_X5_stewards_83 (n : Nat) (x1 : Int) (x2 : Int) (x3 : Int) (x4 : Int) (x5 : Int) (M : Mem) : Option ((Int × Int × Int × Mem) ⊕ (Int × Mem)) :=
  some (.inl (x3, x4, x5 + 1, M))
set_option maxRecDepth 10000 in
theorem v_X5_stewards_83 {E : En} {d : Nat} {Q : Po} {n : Nat} {x1 : Int} {x2 : Int} {x3 : Int} {x4 : Int} {x5 : Int} {M : Mem} {z : (Int × Int × Int × Mem) ⊕ (Int × Mem)}  (hd : 6 ≤ d) (hF : f_X5_stewards_83 n x1 x2 x3 x4 x5 M = some z) (hC0 : ∀ s' : Int × Int × Int × Mem, z = (.inl s') → V E mX5_stewards d 26 [(0, rf E 0), (1, vi x1), (2, vi x2), (3, vi (s'.1)), (4, vi (s'.2.1)), (5, vi (s'.2.2.1))] [] s'.2.2.2 Q) (hX : ∀ z0 : Int × Mem, z = (.inr z0) → Q (some (vi z0.1)) z0.2) : V E mX5_stewards d 83 [(0, rf E 0), (1, vi x1), (2, vi x2), (3, vi x3), (4, vi x4), (5, vi x5)] [] M Q := by
  unfold f_X5_stewards_83 at hF
  refine V.iinc 5 5 1 [(5, vi (x5 + 1)), (0, rf E 0), (1, vi x1), (2, vi x2), (3, vi x3), (4, vi x4)] dX5_stewards_83 rfl (by decide) rfl ?_
  refine V.goto (tgt := 26) dX5_stewards_86 (by decide) ?_
  cases Option.some.inj hF
  refine V.sub _ [1, 2, 3, 4, 5, 0] rfl ?_
  exact hC0 _ rfl
def f_X5_stewards_77 (n : Nat) (x1 : Int) (x2 : Int) (x3 : Int) (x4 : Int) (x5 : Int) (x6 : Int) (M : Mem) : Option ((Int × Int × Int × Mem) ⊕ ((Int × Int × Int × Mem) ⊕ (Int × Mem))) :=
  some (.inl (x3, x4, x6 + 1, M))
set_option maxRecDepth 10000 in
theorem v_X5_stewards_77 {E : En} {d : Nat} {Q : Po} {n : Nat} {x1 : Int} {x2 : Int} {x3 : Int} {x4 : Int} {x5 : Int} {x6 : Int} {M : Mem} {z : (Int × Int × Int × Mem) ⊕ ((Int × Int × Int × Mem) ⊕ (Int × Mem))}  (hd : 6 ≤ d) (hF : f_X5_stewards_77 n x1 x2 x3 x4 x5 x6 M = some z) (hC0 : ∀ s' : Int × Int × Int × Mem, z = (.inl s') → V E mX5_stewards d 35 [(0, rf E 0), (1, vi x1), (2, vi x2), (3, vi (s'.1)), (4, vi (s'.2.1)), (5, vi x5), (6, vi (s'.2.2.1))] [] s'.2.2.2 Q) (hC1 : ∀ s' : Int × Int × Int × Mem, z = (.inr (.inl s')) → V E mX5_stewards d 26 [(0, rf E 0), (1, vi x1), (2, vi x2), (3, vi (s'.1)), (4, vi (s'.2.1)), (5, vi (s'.2.2.1))] [] s'.2.2.2 Q) (hX : ∀ z0 : Int × Mem, z = (.inr (.inr z0)) → Q (some (vi z0.1)) z0.2) : V E mX5_stewards d 77 [(0, rf E 0), (1, vi x1), (2, vi x2), (3, vi x3), (4, vi x4), (5, vi x5), (6, vi x6)] [] M Q := by
  unfold f_X5_stewards_77 at hF
  refine V.iinc 6 6 1 [(6, vi (x6 + 1)), (0, rf E 0), (1, vi x1), (2, vi x2), (3, vi x3), (4, vi x4), (5, vi x5)] dX5_stewards_77 rfl (by decide) rfl ?_
  refine V.goto (tgt := 35) dX5_stewards_80 (by decide) ?_
  cases Option.some.inj hF
  refine V.sub _ [1, 2, 3, 4, 5, 6, 0] rfl ?_
  exact hC0 _ rfl
def f_X5_stewards_72 (n : Nat) (x1 : Int) (x2 : Int) (x3 : Int) (x5 : Int) (x6 : Int) (s0 : Int) (M : Mem) : Option ((Int × Int × Int × Mem) ⊕ ((Int × Int × Int × Mem) ⊕ (Int × Mem))) :=
  f_X5_stewards_77 n x1 x2 (x3 + 1) s0 x5 x6 M
set_option maxRecDepth 10000 in
theorem v_X5_stewards_72 {E : En} {d : Nat} {Q : Po} {n : Nat} {x1 : Int} {x2 : Int} {x3 : Int} {x5 : Int} {x6 : Int} {s0 : Int} {M : Mem} {z : (Int × Int × Int × Mem) ⊕ ((Int × Int × Int × Mem) ⊕ (Int × Mem))}  (hd : 6 ≤ d) (hF : f_X5_stewards_72 n x1 x2 x3 x5 x6 s0 M = some z) (hC0 : ∀ s' : Int × Int × Int × Mem, z = (.inl s') → V E mX5_stewards d 35 [(0, rf E 0), (1, vi x1), (2, vi x2), (3, vi (s'.1)), (4, vi (s'.2.1)), (5, vi x5), (6, vi (s'.2.2.1))] [] s'.2.2.2 Q) (hC1 : ∀ s' : Int × Int × Int × Mem, z = (.inr (.inl s')) → V E mX5_stewards d 26 [(0, rf E 0), (1, vi x1), (2, vi x2), (3, vi (s'.1)), (4, vi (s'.2.1)), (5, vi (s'.2.2.1))] [] s'.2.2.2 Q) (hX : ∀ z0 : Int × Mem, z = (.inr (.inr z0)) → Q (some (vi z0.1)) z0.2) : V E mX5_stewards d 72 [(0, rf E 0), (1, vi x1), (2, vi x2), (3, vi x3), (5, vi x5), (6, vi x6)] [vi s0] M Q := by
  unfold f_X5_stewards_72 at hF
  refine V.istore 4 [(4, vi s0), (0, rf E 0), (1, vi x1), (2, vi x2), (3, vi x3), (5, vi x5), (6, vi x6)] dX5_stewards_72 (by decide) rfl ?_
  refine V.iinc 3 4 1 [(3, vi (x3 + 1)), (4, vi s0), (0, rf E 0), (1, vi x1), (2, vi x2), (5, vi x5), (6, vi x6)] dX5_stewards_74 rfl (by decide) rfl ?_
  refine V.sub _ [2, 3, 4, 0, 1, 5, 6] rfl ?_
  exact v_X5_stewards_77 hd hF hC0 hC1 hX
def f_X5_stewards_35 (n : Nat) (x1 : Int) (x2 : Int) (x3 : Int) (x4 : Int) (x5 : Int) (x6 : Int) (M : Mem) : Option ((Int × Int × Int × Mem) ⊕ ((Int × Int × Int × Mem) ⊕ (Int × Mem))) :=
  if 9 < wr x6 then
    (f_X5_stewards_83 n x1 x2 x3 x4 x5 M).map Sum.inr
  else
    (f_X5_isAsSeen n x1 x5 x6 0 M).bind fun (v1, M2) =>
    if wr v1 = 0 then
      f_X5_stewards_77 n x1 x2 x3 x4 x5 x6 M2
    else
      if wr x3 = 0 then
        f_X5_stewards_72 n x1 x2 x3 x5 x6 ((10 * x5) + x6) M2
      else
        f_X5_stewards_72 n x1 x2 x3 x5 x6 x4 M2
set_option maxRecDepth 10000 in
theorem v_X5_stewards_35 {E : En} {d : Nat} {Q : Po} {n : Nat} {x1 : Int} {x2 : Int} {x3 : Int} {x4 : Int} {x5 : Int} {x6 : Int} {M : Mem} {z : (Int × Int × Int × Mem) ⊕ ((Int × Int × Int × Mem) ⊕ (Int × Mem))}  (hd : 6 ≤ d) (hF : f_X5_stewards_35 n x1 x2 x3 x4 x5 x6 M = some z) (hC0 : ∀ s' : Int × Int × Int × Mem, z = (.inl s') → V E mX5_stewards d 35 [(0, rf E 0), (1, vi x1), (2, vi x2), (3, vi (s'.1)), (4, vi (s'.2.1)), (5, vi x5), (6, vi (s'.2.2.1))] [] s'.2.2.2 Q) (hC1 : ∀ s' : Int × Int × Int × Mem, z = (.inr (.inl s')) → V E mX5_stewards d 26 [(0, rf E 0), (1, vi x1), (2, vi x2), (3, vi (s'.1)), (4, vi (s'.2.1)), (5, vi (s'.2.2.1))] [] s'.2.2.2 Q) (hX : ∀ z0 : Int × Mem, z = (.inr (.inr z0)) → Q (some (vi z0.1)) z0.2) : V E mX5_stewards d 35 [(0, rf E 0), (1, vi x1), (2, vi x2), (3, vi x3), (4, vi x4), (5, vi x5), (6, vi x6)] [] M Q := by
  unfold f_X5_stewards_35 at hF
  refine V.iload 6 6 dX5_stewards_35 rfl ?_
  refine V.bipush 9 9 (by decide) dX5_stewards_37 ?_
  refine V.icmp_gt (tgt := 83) rfl wr_9 dX5_stewards_39 (by decide) (fun hc => ?_) (fun hc => ?_)
  · rw [if_pos hc] at hF
    replace hF := Option.map_eq_some_iff.mp hF
    obtain ⟨z0, hF, rfl⟩ := hF
    refine V.sub _ [0, 1, 2, 3, 4, 5] rfl ?_
    exact v_X5_stewards_83 hd hF (fun s' e => hC1 s' (congrArg Sum.inr e)) (fun z0 e => hX z0 (congrArg Sum.inr e))
  · rw [if_neg hc] at hF
    refine V.aload_n 0 0 0 rfl dX5_stewards_42 rfl ?_
    refine V.iload_n 1 1 1 rfl dX5_stewards_43 rfl ?_
    refine V.iload 5 5 dX5_stewards_44 rfl ?_
    refine V.iload 6 6 dX5_stewards_46 rfl ?_
    refine V.iconst 0 dX5_stewards_48 ?_
    replace hF := Option.bind_eq_some_iff.mp hF
    obtain ⟨⟨v1, M2⟩, hv1, hF⟩ := hF
    dsimp only at hF
    refine V.callV (d' := d - 1) [vi x1, vi x5, vi x6, vi 0] [] (c_X5_isAsSeen (by omega) hv1) okX5_isAsSeen gw_783 rfl rfl (by decide) (hcX5 E _) rfl (Nat.le_of_ble_eq_true rfl) (by omega) dX5_stewards_49 ?_
    rintro _ _ ⟨rfl, rfl⟩
    show V E mX5_stewards d 52 [(0, rf E 0), (1, vi x1), (2, vi x2), (3, vi x3), (4, vi x4), (5, vi x5), (6, vi x6)] [vi v1] M2 _
    refine V.if_eq (tgt := 77) rfl dX5_stewards_52 (by decide) (fun hc => ?_) (fun hc => ?_)
    · rw [if_pos hc] at hF
      exact v_X5_stewards_77 hd hF hC0 hC1 hX
    · rw [if_neg hc] at hF
      refine V.iload_n 3 3 3 rfl dX5_stewards_55 rfl ?_
      refine V.if_ne (tgt := 70) rfl dX5_stewards_56 (by decide) (fun hc => ?_) (fun hc => ?_)
      · rw [if_neg hc] at hF
        refine V.iload 4 4 dX5_stewards_70 rfl ?_
        refine V.sub _ [0, 1, 2, 3, 5, 6] rfl ?_
        exact v_X5_stewards_72 hd hF hC0 hC1 hX
      · rw [if_pos hc] at hF
        refine V.bipush 10 10 (by decide) dX5_stewards_59 ?_
        refine V.iload 5 5 dX5_stewards_61 rfl ?_
        refine V.imul dX5_stewards_63 ?_
        refine V.iload 6 6 dX5_stewards_64 rfl ?_
        refine V.iadd dX5_stewards_66 ?_
        refine V.goto (tgt := 72) dX5_stewards_67 (by decide) ?_
        refine V.sub _ [0, 1, 2, 3, 5, 6] rfl ?_
        exact v_X5_stewards_72 hd hF hC0 hC1 hX
theorem l_X5_stewards_35 {E : En} {d : Nat} {Q : Po} {n : Nat} {x1 : Int} {x2 : Int} {x5 : Int} {k : Nat} {s : Int × Int × Int × Mem} {z : (Int × Int × Int × Mem) ⊕ (Int × Mem)}  (hd : 6 ≤ d) (hF : lp (fun s => f_X5_stewards_35 n x1 x2 s.1 s.2.1 x5 s.2.2.1 s.2.2.2) k s = some z) (hC0 : ∀ s' : Int × Int × Int × Mem, z = (.inl s') → V E mX5_stewards d 26 [(0, rf E 0), (1, vi x1), (2, vi x2), (3, vi (s'.1)), (4, vi (s'.2.1)), (5, vi (s'.2.2.1))] [] s'.2.2.2 Q) (hX : ∀ z0 : Int × Mem, z = (.inr z0) → Q (some (vi z0.1)) z0.2) : V E mX5_stewards d 35 [(0, rf E 0), (1, vi x1), (2, vi x2), (3, vi s.1), (4, vi s.2.1), (5, vi x5), (6, vi s.2.2.1)] [] s.2.2.2 Q := by
  refine lp_ind (P := fun s => V E mX5_stewards d 35 [(0, rf E 0), (1, vi x1), (2, vi x2), (3, vi s.1), (4, vi s.2.1), (5, vi x5), (6, vi s.2.2.1)] [] s.2.2.2 Q) (z0 := z) ?_ k s hF
  intro s z' hF hc hx
  exact v_X5_stewards_35 hd hF (fun s' e => hc s' e) (fun s' e => hC0 s' (hx _ e).symm) (fun z0 e => hX z0 (hx _ e).symm)
def f_X5_stewards_26 (n : Nat) (x1 : Int) (x2 : Int) (x3 : Int) (x4 : Int) (x5 : Int) (M : Mem) : Option ((Int × Int × Int × Mem) ⊕ (Int × Mem)) :=
  if 4 < wr x5 then
    (f_X5_stewards_89 n x2 x3 x4 M).map Sum.inr
  else
    lp (fun s => f_X5_stewards_35 n x1 x2 s.1 s.2.1 x5 s.2.2.1 s.2.2.2) n (x3, x4, 0, M)
set_option maxRecDepth 10000 in
theorem v_X5_stewards_26 {E : En} {d : Nat} {Q : Po} {n : Nat} {x1 : Int} {x2 : Int} {x3 : Int} {x4 : Int} {x5 : Int} {M : Mem} {z : (Int × Int × Int × Mem) ⊕ (Int × Mem)}  (hd : 6 ≤ d) (hF : f_X5_stewards_26 n x1 x2 x3 x4 x5 M = some z) (hC0 : ∀ s' : Int × Int × Int × Mem, z = (.inl s') → V E mX5_stewards d 26 [(0, rf E 0), (1, vi x1), (2, vi x2), (3, vi (s'.1)), (4, vi (s'.2.1)), (5, vi (s'.2.2.1))] [] s'.2.2.2 Q) (hX : ∀ z0 : Int × Mem, z = (.inr z0) → Q (some (vi z0.1)) z0.2) : V E mX5_stewards d 26 [(0, rf E 0), (1, vi x1), (2, vi x2), (3, vi x3), (4, vi x4), (5, vi x5)] [] M Q := by
  unfold f_X5_stewards_26 at hF
  refine V.iload 5 5 dX5_stewards_26 rfl ?_
  refine V.iconst 4 dX5_stewards_28 ?_
  refine V.icmp_gt (tgt := 89) rfl wr_4 dX5_stewards_29 (by decide) (fun hc => ?_) (fun hc => ?_)
  · rw [if_pos hc] at hF
    replace hF := Option.map_eq_some_iff.mp hF
    obtain ⟨z0, hF, rfl⟩ := hF
    refine V.sub _ [2, 3, 4] rfl ?_
    exact v_X5_stewards_89 hd hF (hX _ rfl)
  · rw [if_neg hc] at hF
    refine V.iconst 0 dX5_stewards_32 ?_
    refine V.istore 6 [(6, vi 0), (0, rf E 0), (1, vi x1), (2, vi x2), (3, vi x3), (4, vi x4), (5, vi x5)] dX5_stewards_33 (by decide) rfl ?_
    refine V.sub _ [1, 2, 3, 4, 5, 6, 0] rfl ?_
    exact l_X5_stewards_35 hd hF hC0 hX
theorem l_X5_stewards_26 {E : En} {d : Nat} {Q : Po} {n : Nat} {x1 : Int} {x2 : Int} {k : Nat} {s : Int × Int × Int × Mem} {z : Int × Mem}  (hd : 6 ≤ d) (hF : lp (fun s => f_X5_stewards_26 n x1 x2 s.1 s.2.1 s.2.2.1 s.2.2.2) k s = some z) (hK : Q (some (vi z.1)) z.2) : V E mX5_stewards d 26 [(0, rf E 0), (1, vi x1), (2, vi x2), (3, vi s.1), (4, vi s.2.1), (5, vi s.2.2.1)] [] s.2.2.2 Q := by
  refine lp_ind (P := fun s => V E mX5_stewards d 26 [(0, rf E 0), (1, vi x1), (2, vi x2), (3, vi s.1), (4, vi s.2.1), (5, vi s.2.2.1)] [] s.2.2.2 Q) (z0 := z) ?_ k s hF
  intro s z' hF hc hx
  exact v_X5_stewards_26 hd hF (fun s' e => hc s' e) (fun z0 e => by rw [hx _ e]; exact hK)
def f_X5_stewards (n : Nat) (x1 : Int) (x2 : Int) (M : Mem) : Option (Int × Mem) :=
  (f_X5_isReading x1 M).bind fun v1 =>
  if wr v1 = 0 then
    some ((-1), M)
  else
    (f_X5_isFlag x2 M).bind fun v2 =>
    if wr v2 = 0 then
      some ((-1), M)
    else
      lp (fun s => f_X5_stewards_26 n x1 x2 s.1 s.2.1 s.2.2.1 s.2.2.2) n (0, (-4), 0, M)
set_option maxRecDepth 10000 in
theorem v_X5_stewards_0 {E : En} {d : Nat} {Q : Po} {n : Nat} {x1 : Int} {x2 : Int} {M : Mem} {z : Int × Mem}  (hd : 6 ≤ d) (hF : f_X5_stewards n x1 x2 M = some z) (hK : Q (some (vi z.1)) z.2) : V E mX5_stewards d 0 [(0, rf E 0), (1, vi x1), (2, vi x2)] [] M Q := by
  unfold f_X5_stewards at hF
  refine V.aload_n 0 0 0 rfl dX5_stewards_0 rfl ?_
  refine V.iload_n 1 1 1 rfl dX5_stewards_1 rfl ?_
  replace hF := Option.bind_eq_some_iff.mp hF
  obtain ⟨v1, hv1, hF⟩ := hF
  refine V.callV (d' := d - 1) [vi x1] [] (c_X5_isReading (by omega) hv1) okX5_isReading gw_518 rfl rfl (by decide) (hcX5 E _) rfl (Nat.le_of_ble_eq_true rfl) (by omega) dX5_stewards_2 ?_
  rintro _ _ ⟨rfl, rfl⟩
  show V E mX5_stewards d 5 [(0, rf E 0), (1, vi x1), (2, vi x2)] [vi v1] M _
  refine V.if_eq (tgt := 15) rfl dX5_stewards_5 (by decide) (fun hc => ?_) (fun hc => ?_)
  · rw [if_pos hc] at hF
    refine V.iconst (-1) dX5_stewards_15 ?_
    cases Option.some.inj hF
    exact V.iret rfl dX5_stewards_16 hK
  · rw [if_neg hc] at hF
    refine V.iload_n 2 2 2 rfl dX5_stewards_8 rfl ?_
    replace hF := Option.bind_eq_some_iff.mp hF
    obtain ⟨v2, hv2, hF⟩ := hF
    refine V.callS (d' := d - 1) [vi x2] [] (c_X5_isFlag (by omega) hv2) okX5_isFlag gw_507 rfl rfl (Nat.le_of_ble_eq_true rfl) (by omega) dX5_stewards_9 ?_
    rintro _ _ ⟨rfl, rfl⟩
    show V E mX5_stewards d 12 [(0, rf E 0), (1, vi x1), (2, vi x2)] [vi v2] M _
    refine V.if_ne (tgt := 17) rfl dX5_stewards_12 (by decide) (fun hc => ?_) (fun hc => ?_)
    · rw [if_neg hc] at hF
      refine V.iconst 0 dX5_stewards_17 ?_
      refine V.istore_n 3 3 [(3, vi 0), (0, rf E 0), (1, vi x1), (2, vi x2)] rfl dX5_stewards_18 (by decide) rfl ?_
      refine V.bipush (-4) (-4) (by decide) dX5_stewards_19 ?_
      refine V.istore 4 [(4, vi (-4)), (3, vi 0), (0, rf E 0), (1, vi x1), (2, vi x2)] dX5_stewards_21 (by decide) rfl ?_
      refine V.iconst 0 dX5_stewards_23 ?_
      refine V.istore 5 [(5, vi 0), (4, vi (-4)), (3, vi 0), (0, rf E 0), (1, vi x1), (2, vi x2)] dX5_stewards_24 (by decide) rfl ?_
      refine V.sub _ [3, 4, 5, 2, 1, 0] rfl ?_
      exact l_X5_stewards_26 hd hF hK
    · rw [if_pos hc] at hF
      refine V.iconst (-1) dX5_stewards_15 ?_
      cases Option.some.inj hF
      exact V.iret rfl dX5_stewards_16 hK
theorem c_X5_stewards {E : En} {d : Nat} {n : Nat} {x1 : Int} {x2 : Int} {M : Mem} {zr : Int} {zM : Mem}  (hd : 6 ≤ d) (hF : f_X5_stewards n x1 x2 M = some (zr, zM)) : Cn E mX5_stewards d [rf E 0, vi x1, vi x2] M (fun v N => v = some (vi zr) ∧ zM = N) := by
  refine V.entry (by decide +kernel) (Nat.le_of_ble_eq_true rfl) ?_
  exact v_X5_stewards_0  hd hF ⟨rfl, rfl⟩
abbrev mX5_hoards : MI := (yX5_hoards, cX5_hoards, 4, (some .int))
theorem okX5_hoards : OKV mX5_hoards 1 := ⟨gw_793, gw_794, gw_58, gw_795, (by decide +kernel), (by decide)⟩
def f_X5_hoards_49 (n : Nat) (x1 : Int) (x2 : Int) (x3 : Int) (M : Mem) : Option ((Int × Int × Mem) ⊕ (Int × Mem)) :=
  some (.inl (x2, x3 + 1, M))
set_option maxRecDepth 10000 in
theorem v_X5_hoards_49 {E : En} {d : Nat} {Q : Po} {n : Nat} {x1 : Int} {x2 : Int} {x3 : Int} {M : Mem} {z : (Int × Int × Mem) ⊕ (Int × Mem)}  (hd : 6 ≤ d) (hF : f_X5_hoards_49 n x1 x2 x3 M = some z) (hC0 : ∀ s' : Int × Int × Mem, z = (.inl s') → V E mX5_hoards d 14 [(0, rf E 0), (1, vi x1), (2, vi (s'.1)), (3, vi (s'.2.1))] [] s'.2.2 Q) (hX : ∀ z0 : Int × Mem, z = (.inr z0) → Q (some (vi z0.1)) z0.2) : V E mX5_hoards d 49 [(0, rf E 0), (1, vi x1), (2, vi x2), (3, vi x3)] [] M Q := by
  unfold f_X5_hoards_49 at hF
  refine V.iinc 3 3 1 [(3, vi (x3 + 1)), (0, rf E 0), (1, vi x1), (2, vi x2)] dX5_hoards_49 rfl (by decide) rfl ?_
  refine V.goto (tgt := 14) dX5_hoards_52 (by decide) ?_
  cases Option.some.inj hF
  refine V.sub _ [1, 2, 3, 0] rfl ?_
  exact hC0 _ rfl
def f_X5_hoards_14 (n : Nat) (x1 : Int) (x2 : Int) (x3 : Int) (M : Mem) : Option ((Int × Int × Mem) ⊕ (Int × Mem)) :=
  if 9 < wr x3 then
    some (.inr (x2, M))
  else
    (f_X5_isAsSeen n x1 (M 3 13) (M 3 14) x3 M).bind fun (v1, M2) =>
    if wr v1 = 0 then
      f_X5_hoards_49 n x1 x2 x3 M2
    else
      f_X5_hoards_49 n x1 (bOr x2 (bShl 1 x3)) x3 M2
set_option maxRecDepth 10000 in
theorem v_X5_hoards_14 {E : En} {d : Nat} {Q : Po} {n : Nat} {x1 : Int} {x2 : Int} {x3 : Int} {M : Mem} {z : (Int × Int × Mem) ⊕ (Int × Mem)}  (hd : 6 ≤ d) (hF : f_X5_hoards_14 n x1 x2 x3 M = some z) (hC0 : ∀ s' : Int × Int × Mem, z = (.inl s') → V E mX5_hoards d 14 [(0, rf E 0), (1, vi x1), (2, vi (s'.1)), (3, vi (s'.2.1))] [] s'.2.2 Q) (hX : ∀ z0 : Int × Mem, z = (.inr z0) → Q (some (vi z0.1)) z0.2) : V E mX5_hoards d 14 [(0, rf E 0), (1, vi x1), (2, vi x2), (3, vi x3)] [] M Q := by
  unfold f_X5_hoards_14 at hF
  refine V.iload_n 3 3 3 rfl dX5_hoards_14 rfl ?_
  refine V.bipush 9 9 (by decide) dX5_hoards_15 ?_
  refine V.icmp_gt (tgt := 55) rfl wr_9 dX5_hoards_17 (by decide) (fun hc => ?_) (fun hc => ?_)
  · rw [if_pos hc] at hF
    refine V.iload_n 2 2 2 rfl dX5_hoards_55 rfl ?_
    cases Option.some.inj hF
    exact V.iret rfl dX5_hoards_56 (hX _ rfl)
  · rw [if_neg hc] at hF
    refine V.aload_n 0 0 0 rfl dX5_hoards_20 rfl ?_
    refine V.iload_n 1 1 1 rfl dX5_hoards_21 rfl ?_
    refine V.aload_n 0 0 0 rfl dX5_hoards_22 rfl ?_
    refine V.get (by decide) (hcX5 E _) rfl inX5 1 (by decide) rfl gw_283 dX5_hoards_23 ?_
    refine V.get (ltX2 is_3) (hcX2 is_3 E _) rfl inX2 13 (by decide) rfl gw_172 dX5_hoards_26 ?_
    refine V.aload_n 0 0 0 rfl dX5_hoards_29 rfl ?_
    refine V.get (by decide) (hcX5 E _) rfl inX5 1 (by decide) rfl gw_283 dX5_hoards_30 ?_
    refine V.get (ltX2 is_3) (hcX2 is_3 E _) rfl inX2 14 (by decide) rfl gw_174 dX5_hoards_33 ?_
    refine V.iload_n 3 3 3 rfl dX5_hoards_36 rfl ?_
    replace hF := Option.bind_eq_some_iff.mp hF
    obtain ⟨⟨v1, M2⟩, hv1, hF⟩ := hF
    dsimp only at hF
    refine V.callV (d' := d - 1) [vi x1, vi (M 3 13), vi (M 3 14), vi x3] [] (c_X5_isAsSeen (by omega) hv1) okX5_isAsSeen gw_783 rfl rfl (by decide) (hcX5 E _) rfl (Nat.le_of_ble_eq_true rfl) (by omega) dX5_hoards_37 ?_
    rintro _ _ ⟨rfl, rfl⟩
    show V E mX5_hoards d 40 [(0, rf E 0), (1, vi x1), (2, vi x2), (3, vi x3)] [vi v1] M2 _
    refine V.if_eq (tgt := 49) rfl dX5_hoards_40 (by decide) (fun hc => ?_) (fun hc => ?_)
    · rw [if_pos hc] at hF
      exact v_X5_hoards_49 hd hF hC0 hX
    · rw [if_neg hc] at hF
      refine V.iload_n 2 2 2 rfl dX5_hoards_43 rfl ?_
      refine V.iconst 1 dX5_hoards_44 ?_
      refine V.iload_n 3 3 3 rfl dX5_hoards_45 rfl ?_
      refine V.ishl dX5_hoards_46 ?_
      refine V.ior dX5_hoards_47 ?_
      refine V.istore_n 2 2 [(2, vi (bOr x2 (bShl 1 x3))), (0, rf E 0), (1, vi x1), (3, vi x3)] rfl dX5_hoards_48 (by decide) rfl ?_
      refine V.sub _ [1, 2, 0, 3] rfl ?_
      exact v_X5_hoards_49 hd hF hC0 hX
theorem l_X5_hoards_14 {E : En} {d : Nat} {Q : Po} {n : Nat} {x1 : Int} {k : Nat} {s : Int × Int × Mem} {z : Int × Mem}  (hd : 6 ≤ d) (hF : lp (fun s => f_X5_hoards_14 n x1 s.1 s.2.1 s.2.2) k s = some z) (hK : Q (some (vi z.1)) z.2) : V E mX5_hoards d 14 [(0, rf E 0), (1, vi x1), (2, vi s.1), (3, vi s.2.1)] [] s.2.2 Q := by
  refine lp_ind (P := fun s => V E mX5_hoards d 14 [(0, rf E 0), (1, vi x1), (2, vi s.1), (3, vi s.2.1)] [] s.2.2 Q) (z0 := z) ?_ k s hF
  intro s z' hF hc hx
  exact v_X5_hoards_14 hd hF (fun s' e => hc s' e) (fun z0 e => by rw [hx _ e]; exact hK)
def f_X5_hoards (n : Nat) (x1 : Int) (M : Mem) : Option (Int × Mem) :=
  (f_X5_isReading x1 M).bind fun v1 =>
  if wr v1 = 0 then
    some ((-1), M)
  else
    lp (fun s => f_X5_hoards_14 n x1 s.1 s.2.1 s.2.2) n (0, 0, M)
set_option maxRecDepth 10000 in
theorem v_X5_hoards_0 {E : En} {d : Nat} {Q : Po} {n : Nat} {x1 : Int} {M : Mem} {z : Int × Mem}  (hd : 6 ≤ d) (hF : f_X5_hoards n x1 M = some z) (hK : Q (some (vi z.1)) z.2) : V E mX5_hoards d 0 [(0, rf E 0), (1, vi x1)] [] M Q := by
  unfold f_X5_hoards at hF
  refine V.aload_n 0 0 0 rfl dX5_hoards_0 rfl ?_
  refine V.iload_n 1 1 1 rfl dX5_hoards_1 rfl ?_
  replace hF := Option.bind_eq_some_iff.mp hF
  obtain ⟨v1, hv1, hF⟩ := hF
  refine V.callV (d' := d - 1) [vi x1] [] (c_X5_isReading (by omega) hv1) okX5_isReading gw_518 rfl rfl (by decide) (hcX5 E _) rfl (Nat.le_of_ble_eq_true rfl) (by omega) dX5_hoards_2 ?_
  rintro _ _ ⟨rfl, rfl⟩
  show V E mX5_hoards d 5 [(0, rf E 0), (1, vi x1)] [vi v1] M _
  refine V.if_ne (tgt := 10) rfl dX5_hoards_5 (by decide) (fun hc => ?_) (fun hc => ?_)
  · rw [if_neg hc] at hF
    refine V.iconst 0 dX5_hoards_10 ?_
    refine V.istore_n 2 2 [(2, vi 0), (0, rf E 0), (1, vi x1)] rfl dX5_hoards_11 (by decide) rfl ?_
    refine V.iconst 0 dX5_hoards_12 ?_
    refine V.istore_n 3 3 [(3, vi 0), (2, vi 0), (0, rf E 0), (1, vi x1)] rfl dX5_hoards_13 (by decide) rfl ?_
    refine V.sub _ [2, 3, 1, 0] rfl ?_
    exact l_X5_hoards_14 hd hF hK
  · rw [if_pos hc] at hF
    refine V.iconst (-1) dX5_hoards_8 ?_
    cases Option.some.inj hF
    exact V.iret rfl dX5_hoards_9 hK
theorem c_X5_hoards {E : En} {d : Nat} {n : Nat} {x1 : Int} {M : Mem} {zr : Int} {zM : Mem}  (hd : 6 ≤ d) (hF : f_X5_hoards n x1 M = some (zr, zM)) : Cn E mX5_hoards d [rf E 0, vi x1] M (fun v N => v = some (vi zr) ∧ zM = N) := by
  refine V.entry (by decide +kernel) (Nat.le_of_ble_eq_true rfl) ?_
  exact v_X5_hoards_0  hd hF ⟨rfl, rfl⟩
abbrev mX5_fits : MI := (yX5_fits, cX5_fits, 3, (some .int))
theorem okX5_fits : OKV mX5_fits 0 := ⟨gw_797, gw_798, gw_58, gw_799, (by decide +kernel), (by decide)⟩
def f_X5_fits_44 (n : Nat) (x1 : Int) (x2 : Int) (M : Mem) : Option ((Int × Int × Mem) ⊕ (Int × Mem)) :=
  some (.inl (x1, x2 + 1, M))
set_option maxRecDepth 10000 in
theorem v_X5_fits_44 {E : En} {d : Nat} {Q : Po} {n : Nat} {x1 : Int} {x2 : Int} {M : Mem} {z : (Int × Int × Mem) ⊕ (Int × Mem)}  (hd : 6 ≤ d) (hF : f_X5_fits_44 n x1 x2 M = some z) (hC0 : ∀ s' : Int × Int × Mem, z = (.inl s') → V E mX5_fits d 4 [(0, rf E 0), (1, vi (s'.1)), (2, vi (s'.2.1))] [] s'.2.2 Q) (hX : ∀ z0 : Int × Mem, z = (.inr z0) → Q (some (vi z0.1)) z0.2) : V E mX5_fits d 44 [(0, rf E 0), (1, vi x1), (2, vi x2)] [] M Q := by
  unfold f_X5_fits_44 at hF
  refine V.iinc 2 2 1 [(2, vi (x2 + 1)), (0, rf E 0), (1, vi x1)] dX5_fits_44 rfl (by decide) rfl ?_
  refine V.goto (tgt := 4) dX5_fits_47 (by decide) ?_
  cases Option.some.inj hF
  refine V.sub _ [1, 2, 0] rfl ?_
  exact hC0 _ rfl
def f_X5_fits_4 (n : Nat) (x1 : Int) (x2 : Int) (M : Mem) : Option ((Int × Int × Mem) ⊕ (Int × Mem)) :=
  if wr (M 3 5) ≤ wr x2 then
    some (.inr (x1, M))
  else
    (f_X5_isAsSeen n x2 (M 3 13) (M 3 14) 0 M).bind fun (v1, M2) =>
    if wr v1 = 0 then
      f_X5_fits_44 n x1 x2 M2
    else
      f_X5_fits_44 n (bOr x1 (bShl 1 x2)) x2 M2
set_option maxRecDepth 10000 in
theorem v_X5_fits_4 {E : En} {d : Nat} {Q : Po} {n : Nat} {x1 : Int} {x2 : Int} {M : Mem} {z : (Int × Int × Mem) ⊕ (Int × Mem)}  (hd : 6 ≤ d) (hF : f_X5_fits_4 n x1 x2 M = some z) (hC0 : ∀ s' : Int × Int × Mem, z = (.inl s') → V E mX5_fits d 4 [(0, rf E 0), (1, vi (s'.1)), (2, vi (s'.2.1))] [] s'.2.2 Q) (hX : ∀ z0 : Int × Mem, z = (.inr z0) → Q (some (vi z0.1)) z0.2) : V E mX5_fits d 4 [(0, rf E 0), (1, vi x1), (2, vi x2)] [] M Q := by
  unfold f_X5_fits_4 at hF
  refine V.iload_n 2 2 2 rfl dX5_fits_4 rfl ?_
  refine V.aload_n 0 0 0 rfl dX5_fits_5 rfl ?_
  refine V.get (by decide) (hcX5 E _) rfl inX5 1 (by decide) rfl gw_283 dX5_fits_6 ?_
  refine V.get (ltX2 is_3) (hcX2 is_3 E _) rfl inX2 5 (by decide) rfl gw_145 dX5_fits_9 ?_
  refine V.icmp_ge (tgt := 50) rfl rfl dX5_fits_12 (by decide) (fun hc => ?_) (fun hc => ?_)
  · rw [if_pos hc] at hF
    refine V.iload_n 1 1 1 rfl dX5_fits_50 rfl ?_
    cases Option.some.inj hF
    exact V.iret rfl dX5_fits_51 (hX _ rfl)
  · rw [if_neg hc] at hF
    refine V.aload_n 0 0 0 rfl dX5_fits_15 rfl ?_
    refine V.iload_n 2 2 2 rfl dX5_fits_16 rfl ?_
    refine V.aload_n 0 0 0 rfl dX5_fits_17 rfl ?_
    refine V.get (by decide) (hcX5 E _) rfl inX5 1 (by decide) rfl gw_283 dX5_fits_18 ?_
    refine V.get (ltX2 is_3) (hcX2 is_3 E _) rfl inX2 13 (by decide) rfl gw_172 dX5_fits_21 ?_
    refine V.aload_n 0 0 0 rfl dX5_fits_24 rfl ?_
    refine V.get (by decide) (hcX5 E _) rfl inX5 1 (by decide) rfl gw_283 dX5_fits_25 ?_
    refine V.get (ltX2 is_3) (hcX2 is_3 E _) rfl inX2 14 (by decide) rfl gw_174 dX5_fits_28 ?_
    refine V.iconst 0 dX5_fits_31 ?_
    replace hF := Option.bind_eq_some_iff.mp hF
    obtain ⟨⟨v1, M2⟩, hv1, hF⟩ := hF
    dsimp only at hF
    refine V.callV (d' := d - 1) [vi x2, vi (M 3 13), vi (M 3 14), vi 0] [] (c_X5_isAsSeen (by omega) hv1) okX5_isAsSeen gw_783 rfl rfl (by decide) (hcX5 E _) rfl (Nat.le_of_ble_eq_true rfl) (by omega) dX5_fits_32 ?_
    rintro _ _ ⟨rfl, rfl⟩
    show V E mX5_fits d 35 [(0, rf E 0), (1, vi x1), (2, vi x2)] [vi v1] M2 _
    refine V.if_eq (tgt := 44) rfl dX5_fits_35 (by decide) (fun hc => ?_) (fun hc => ?_)
    · rw [if_pos hc] at hF
      exact v_X5_fits_44 hd hF hC0 hX
    · rw [if_neg hc] at hF
      refine V.iload_n 1 1 1 rfl dX5_fits_38 rfl ?_
      refine V.iconst 1 dX5_fits_39 ?_
      refine V.iload_n 2 2 2 rfl dX5_fits_40 rfl ?_
      refine V.ishl dX5_fits_41 ?_
      refine V.ior dX5_fits_42 ?_
      refine V.istore_n 1 1 [(1, vi (bOr x1 (bShl 1 x2))), (0, rf E 0), (2, vi x2)] rfl dX5_fits_43 (by decide) rfl ?_
      refine V.sub _ [1, 0, 2] rfl ?_
      exact v_X5_fits_44 hd hF hC0 hX
theorem l_X5_fits_4 {E : En} {d : Nat} {Q : Po} {n : Nat} {k : Nat} {s : Int × Int × Mem} {z : Int × Mem}  (hd : 6 ≤ d) (hF : lp (fun s => f_X5_fits_4 n s.1 s.2.1 s.2.2) k s = some z) (hK : Q (some (vi z.1)) z.2) : V E mX5_fits d 4 [(0, rf E 0), (1, vi s.1), (2, vi s.2.1)] [] s.2.2 Q := by
  refine lp_ind (P := fun s => V E mX5_fits d 4 [(0, rf E 0), (1, vi s.1), (2, vi s.2.1)] [] s.2.2 Q) (z0 := z) ?_ k s hF
  intro s z' hF hc hx
  exact v_X5_fits_4 hd hF (fun s' e => hc s' e) (fun z0 e => by rw [hx _ e]; exact hK)
def f_X5_fits (n : Nat) (M : Mem) : Option (Int × Mem) :=
  lp (fun s => f_X5_fits_4 n s.1 s.2.1 s.2.2) n (0, 0, M)
set_option maxRecDepth 10000 in
theorem v_X5_fits_0 {E : En} {d : Nat} {Q : Po} {n : Nat} {M : Mem} {z : Int × Mem}  (hd : 6 ≤ d) (hF : f_X5_fits n M = some z) (hK : Q (some (vi z.1)) z.2) : V E mX5_fits d 0 [(0, rf E 0)] [] M Q := by
  unfold f_X5_fits at hF
  refine V.iconst 0 dX5_fits_0 ?_
  refine V.istore_n 1 1 [(1, vi 0), (0, rf E 0)] rfl dX5_fits_1 (by decide) rfl ?_
  refine V.iconst 0 dX5_fits_2 ?_
  refine V.istore_n 2 2 [(2, vi 0), (1, vi 0), (0, rf E 0)] rfl dX5_fits_3 (by decide) rfl ?_
  refine V.sub _ [2, 1, 0] rfl ?_
  exact l_X5_fits_4 hd hF hK
theorem c_X5_fits {E : En} {d : Nat} {n : Nat} {M : Mem} {zr : Int} {zM : Mem}  (hd : 6 ≤ d) (hF : f_X5_fits n M = some (zr, zM)) : Cn E mX5_fits d [rf E 0] M (fun v N => v = some (vi zr) ∧ zM = N) := by
  refine V.entry (by decide +kernel) (Nat.le_of_ble_eq_true rfl) ?_
  exact v_X5_fits_0  hd hF ⟨rfl, rfl⟩
abbrev mX5_drift : MI := (yX5_drift, cX5_drift, 7, (some .int))
theorem okX5_drift : OKV mX5_drift 3 := ⟨gw_801, gw_802, gw_58, gw_803, (by decide +kernel), (by decide)⟩
def f_X5_drift_101 (n : Nat) (x3 : Int) (M : Mem) : Option (Int × Mem) :=
  if wr x3 = 2 then
    some (M 8 10, M)
  else
    if wr x3 = 0 then
      some ((M 8 18) - (M 3 18), M)
    else
      some ((M 8 17) - (M 3 17), M)
set_option maxRecDepth 10000 in
theorem v_X5_drift_101 {E : En} {d : Nat} {Q : Po} {n : Nat} {x3 : Int} {M : Mem} {z : Int × Mem}  (hd : 5 ≤ d) (hF : f_X5_drift_101 n x3 M = some z) (hK : Q (some (vi z.1)) z.2) : V E mX5_drift d 101 [(0, rf E 0), (3, vi x3)] [] M Q := by
  unfold f_X5_drift_101 at hF
  refine V.iload_n 3 3 1 rfl dX5_drift_101 rfl ?_
  refine V.iconst 2 dX5_drift_102 ?_
  refine V.icmp_ne (tgt := 114) rfl wr_2 dX5_drift_103 (by decide) (fun hc => ?_) (fun hc => ?_)
  · rw [if_neg hc] at hF
    refine V.iload_n 3 3 1 rfl dX5_drift_114 rfl ?_
    refine V.if_ne (tgt := 136) rfl dX5_drift_115 (by decide) (fun hc => ?_) (fun hc => ?_)
    · rw [if_neg hc] at hF
      refine V.aload_n 0 0 0 rfl dX5_drift_136 rfl ?_
      refine V.get (by decide) (hcX5 E _) rfl inX5 2 (by decide) rfl gw_284 dX5_drift_137 ?_
      refine V.get (ltX2 is_8) (hcX2 is_8 E _) rfl inX2 17 (by decide) rfl gw_181 dX5_drift_140 ?_
      refine V.aload_n 0 0 0 rfl dX5_drift_143 rfl ?_
      refine V.get (by decide) (hcX5 E _) rfl inX5 1 (by decide) rfl gw_283 dX5_drift_144 ?_
      refine V.get (ltX2 is_3) (hcX2 is_3 E _) rfl inX2 17 (by decide) rfl gw_181 dX5_drift_147 ?_
      refine V.isub dX5_drift_150 ?_
      cases Option.some.inj hF
      exact V.iret rfl dX5_drift_151 hK
    · rw [if_pos hc] at hF
      refine V.aload_n 0 0 0 rfl dX5_drift_118 rfl ?_
      refine V.get (by decide) (hcX5 E _) rfl inX5 2 (by decide) rfl gw_284 dX5_drift_119 ?_
      refine V.get (ltX2 is_8) (hcX2 is_8 E _) rfl inX2 18 (by decide) rfl gw_183 dX5_drift_122 ?_
      refine V.aload_n 0 0 0 rfl dX5_drift_125 rfl ?_
      refine V.get (by decide) (hcX5 E _) rfl inX5 1 (by decide) rfl gw_283 dX5_drift_126 ?_
      refine V.get (ltX2 is_3) (hcX2 is_3 E _) rfl inX2 18 (by decide) rfl gw_183 dX5_drift_129 ?_
      refine V.isub dX5_drift_132 ?_
      refine V.goto (tgt := 151) dX5_drift_133 (by decide) ?_
      cases Option.some.inj hF
      exact V.iret rfl dX5_drift_151 hK
  · rw [if_pos hc] at hF
    refine V.aload_n 0 0 0 rfl dX5_drift_106 rfl ?_
    refine V.get (by decide) (hcX5 E _) rfl inX5 2 (by decide) rfl gw_284 dX5_drift_107 ?_
    refine V.get (ltX2 is_8) (hcX2 is_8 E _) rfl inX2 10 (by decide) rfl gw_163 dX5_drift_110 ?_
    cases Option.some.inj hF
    exact V.iret rfl dX5_drift_113 hK
def f_X5_drift_91 (n : Nat) (x2 : Int) (x3 : Int) (x4 : Int) (x5 : Int) (s0 : Int) (M : Mem) : Option ((Int × Int × Mem) ⊕ (Int × Mem)) :=
  (f_X2_passByHim n 8 s0 M).bind fun (v1, M2) =>
  some (.inl (x4, x5 + 1, M2))
set_option maxRecDepth 10000 in
theorem v_X5_drift_91 {E : En} {d : Nat} {Q : Po} {n : Nat} {x2 : Int} {x3 : Int} {x4 : Int} {x5 : Int} {s0 : Int} {M : Mem} {z : (Int × Int × Mem) ⊕ (Int × Mem)}  (hd : 5 ≤ d) (hF : f_X5_drift_91 n x2 x3 x4 x5 s0 M = some z) (hC0 : ∀ s' : Int × Int × Mem, z = (.inl s') → V E mX5_drift d 44 [(0, rf E 0), (2, vi x2), (3, vi x3), (4, vi (s'.1)), (5, vi (s'.2.1))] [] s'.2.2 Q) (hX : ∀ z0 : Int × Mem, z = (.inr z0) → Q (some (vi z0.1)) z0.2) : V E mX5_drift d 91 [(0, rf E 0), (2, vi x2), (3, vi x3), (4, vi x4), (5, vi x5)] [vi s0, rf E 8] M Q := by
  unfold f_X5_drift_91 at hF
  replace hF := Option.bind_eq_some_iff.mp hF
  obtain ⟨⟨v1, M2⟩, hv1, hF⟩ := hF
  dsimp only at hF
  refine V.callV (d' := d - 1) [vi s0] [] (c_X2_passByHim is_8 (by omega) hv1) okX2_passByHim gw_627 rfl rfl (ltX2 is_8) (hcX2 is_8 E _) rfl (Nat.le_of_ble_eq_true rfl) (by omega) dX5_drift_91 ?_
  rintro _ _ ⟨rfl, rfl⟩
  show V E mX5_drift d 94 [(0, rf E 0), (2, vi x2), (3, vi x3), (4, vi x4), (5, vi x5)] [vi v1] M2 _
  refine V.pop rfl dX5_drift_94 ?_
  refine V.iinc 5 4 1 [(5, vi (x5 + 1)), (0, rf E 0), (2, vi x2), (3, vi x3), (4, vi x4)] dX5_drift_95 rfl (by decide) rfl ?_
  refine V.goto (tgt := 44) dX5_drift_98 (by decide) ?_
  cases Option.some.inj hF
  refine V.sub _ [1, 2, 3, 4, 0] rfl ?_
  exact hC0 _ rfl
def f_X5_drift_44 (n : Nat) (x2 : Int) (x3 : Int) (x4 : Int) (x5 : Int) (M : Mem) : Option ((Int × Int × Mem) ⊕ (Int × Mem)) :=
  if 8 ≤ wr x5 then
    (f_X5_drift_101 n x3 M).map Sum.inr
  else
    (some ((wr (bAnd (bUshr ((x4 * 1103515245) + 12345) 16) 32767)).tmod (wr 10))).bind fun v1 =>
    if wr x2 ≤ wr v1 then
      f_X5_drift_91 n x2 x3 ((x4 * 1103515245) + 12345) x5 0 M
    else
      f_X5_drift_91 n x2 x3 ((x4 * 1103515245) + 12345) x5 1 M
set_option maxRecDepth 10000 in
theorem v_X5_drift_44 {E : En} {d : Nat} {Q : Po} {n : Nat} {x2 : Int} {x3 : Int} {x4 : Int} {x5 : Int} {M : Mem} {z : (Int × Int × Mem) ⊕ (Int × Mem)}  (hd : 5 ≤ d) (hF : f_X5_drift_44 n x2 x3 x4 x5 M = some z) (hC0 : ∀ s' : Int × Int × Mem, z = (.inl s') → V E mX5_drift d 44 [(0, rf E 0), (2, vi x2), (3, vi x3), (4, vi (s'.1)), (5, vi (s'.2.1))] [] s'.2.2 Q) (hX : ∀ z0 : Int × Mem, z = (.inr z0) → Q (some (vi z0.1)) z0.2) : V E mX5_drift d 44 [(0, rf E 0), (2, vi x2), (3, vi x3), (4, vi x4), (5, vi x5)] [] M Q := by
  unfold f_X5_drift_44 at hF
  refine V.iload 5 4 dX5_drift_44 rfl ?_
  refine V.bipush 8 8 (by decide) dX5_drift_46 ?_
  refine V.icmp_ge (tgt := 101) rfl wr_8 dX5_drift_48 (by decide) (fun hc => ?_) (fun hc => ?_)
  · rw [if_pos hc] at hF
    replace hF := Option.map_eq_some_iff.mp hF
    obtain ⟨z0, hF, rfl⟩ := hF
    refine V.sub _ [0, 2] rfl ?_
    exact v_X5_drift_101 hd hF (hX _ rfl)
  · rw [if_neg hc] at hF
    refine V.iload 4 3 dX5_drift_51 rfl ?_
    refine V.ldc 229 1103515245 1103515245 (by decide) gw_804 dX5_drift_53 ?_
    refine V.imul dX5_drift_55 ?_
    refine V.sipush 12345 12345 (by decide) dX5_drift_56 ?_
    refine V.iadd dX5_drift_59 ?_
    refine V.istore 4 [(4, vi ((x4 * 1103515245) + 12345)), (0, rf E 0), (2, vi x2), (3, vi x3), (5, vi x5)] dX5_drift_60 (by decide) rfl ?_
    refine V.iload 4 0 dX5_drift_62 rfl ?_
    refine V.bipush 16 16 (by decide) dX5_drift_64 ?_
    refine V.iushr dX5_drift_66 ?_
    refine V.sipush 32767 32767 (by decide) dX5_drift_67 ?_
    refine V.iand dX5_drift_70 ?_
    refine V.bipush 10 10 (by decide) dX5_drift_71 ?_
    refine V.irem (by decide) dX5_drift_73 ?_
    replace hF := Option.bind_eq_some_iff.mp hF
    obtain ⟨v1, hv1, hF⟩ := hF
    refine V.nm (Option.some.inj hv1) ?_
    refine V.istore 6 [(6, vi v1), (4, vi ((x4 * 1103515245) + 12345)), (0, rf E 0), (2, vi x2), (3, vi x3), (5, vi x5)] dX5_drift_74 (by decide) rfl ?_
    refine V.aload_n 0 0 2 rfl dX5_drift_76 rfl ?_
    refine V.get (by decide) (hcX5 E _) rfl inX5 2 (by decide) rfl gw_284 dX5_drift_77 ?_
    refine V.iload 6 0 dX5_drift_80 rfl ?_
    refine V.iload_n 2 2 3 rfl dX5_drift_82 rfl ?_
    refine V.icmp_ge (tgt := 90) rfl rfl dX5_drift_83 (by decide) (fun hc => ?_) (fun hc => ?_)
    · rw [if_pos hc] at hF
      refine V.iconst 0 dX5_drift_90 ?_
      refine V.sub _ [2, 3, 4, 1, 5] rfl ?_
      exact v_X5_drift_91 hd hF hC0 hX
    · rw [if_neg hc] at hF
      refine V.iconst 1 dX5_drift_86 ?_
      refine V.goto (tgt := 91) dX5_drift_87 (by decide) ?_
      refine V.sub _ [2, 3, 4, 1, 5] rfl ?_
      exact v_X5_drift_91 hd hF hC0 hX
theorem l_X5_drift_44 {E : En} {d : Nat} {Q : Po} {n : Nat} {x2 : Int} {x3 : Int} {k : Nat} {s : Int × Int × Mem} {z : Int × Mem}  (hd : 5 ≤ d) (hF : lp (fun s => f_X5_drift_44 n x2 x3 s.1 s.2.1 s.2.2) k s = some z) (hK : Q (some (vi z.1)) z.2) : V E mX5_drift d 44 [(0, rf E 0), (2, vi x2), (3, vi x3), (4, vi s.1), (5, vi s.2.1)] [] s.2.2 Q := by
  refine lp_ind (P := fun s => V E mX5_drift d 44 [(0, rf E 0), (2, vi x2), (3, vi x3), (4, vi s.1), (5, vi s.2.1)] [] s.2.2 Q) (z0 := z) ?_ k s hF
  intro s z' hF hc hx
  exact v_X5_drift_44 hd hF (fun s' e => hc s' e) (fun z0 e => by rw [hx _ e]; exact hK)
def f_X5_drift (n : Nat) (x1 : Int) (x2 : Int) (x3 : Int) (M : Mem) : Option (Int × Mem) :=
  (f_X5_within x2 0 10 M).bind fun v1 =>
  if wr v1 = 0 then
    some ((-1), M)
  else
    (f_X5_within x3 0 2 M).bind fun v2 =>
    if wr v2 = 0 then
      some ((-1), M)
    else
      (f_X2_copy 8 3 M).bind fun M3 =>
      lp (fun s => f_X5_drift_44 n x2 x3 s.1 s.2.1 s.2.2) n (x1, M3 3 15, M3)
set_option maxRecDepth 10000 in
theorem v_X5_drift_0 {E : En} {d : Nat} {Q : Po} {n : Nat} {x1 : Int} {x2 : Int} {x3 : Int} {M : Mem} {z : Int × Mem}  (hd : 5 ≤ d) (hF : f_X5_drift n x1 x2 x3 M = some z) (hK : Q (some (vi z.1)) z.2) : V E mX5_drift d 0 [(0, rf E 0), (1, vi x1), (2, vi x2), (3, vi x3)] [] M Q := by
  unfold f_X5_drift at hF
  refine V.iload_n 2 2 2 rfl dX5_drift_0 rfl ?_
  refine V.iconst 0 dX5_drift_1 ?_
  refine V.bipush 10 10 (by decide) dX5_drift_2 ?_
  replace hF := Option.bind_eq_some_iff.mp hF
  obtain ⟨v1, hv1, hF⟩ := hF
  refine V.callS (d' := d - 1) [vi x2, vi 0, vi 10] [] (c_X5_within (by omega) hv1) okX5_within gw_314 rfl rfl (Nat.le_of_ble_eq_true rfl) (by omega) dX5_drift_4 ?_
  rintro _ _ ⟨rfl, rfl⟩
  show V E mX5_drift d 7 [(0, rf E 0), (1, vi x1), (2, vi x2), (3, vi x3)] [vi v1] M _
  refine V.if_eq (tgt := 19) rfl dX5_drift_7 (by decide) (fun hc => ?_) (fun hc => ?_)
  · rw [if_pos hc] at hF
    refine V.iconst (-1) dX5_drift_19 ?_
    cases Option.some.inj hF
    exact V.iret rfl dX5_drift_20 hK
  · rw [if_neg hc] at hF
    refine V.iload_n 3 3 3 rfl dX5_drift_10 rfl ?_
    refine V.iconst 0 dX5_drift_11 ?_
    refine V.iconst 2 dX5_drift_12 ?_
    replace hF := Option.bind_eq_some_iff.mp hF
    obtain ⟨v2, hv2, hF⟩ := hF
    refine V.callS (d' := d - 1) [vi x3, vi 0, vi 2] [] (c_X5_within (by omega) hv2) okX5_within gw_314 rfl rfl (Nat.le_of_ble_eq_true rfl) (by omega) dX5_drift_13 ?_
    rintro _ _ ⟨rfl, rfl⟩
    show V E mX5_drift d 16 [(0, rf E 0), (1, vi x1), (2, vi x2), (3, vi x3)] [vi v2] M _
    refine V.if_ne (tgt := 21) rfl dX5_drift_16 (by decide) (fun hc => ?_) (fun hc => ?_)
    · rw [if_neg hc] at hF
      refine V.aload_n 0 0 0 rfl dX5_drift_21 rfl ?_
      refine V.get (by decide) (hcX5 E _) rfl inX5 2 (by decide) rfl gw_284 dX5_drift_22 ?_
      refine V.aload_n 0 0 0 rfl dX5_drift_25 rfl ?_
      refine V.get (by decide) (hcX5 E _) rfl inX5 1 (by decide) rfl gw_283 dX5_drift_26 ?_
      replace hF := Option.bind_eq_some_iff.mp hF
      obtain ⟨M3, hM3, hF⟩ := hF
      refine V.callV (d' := d - 1) [rf E 3] [] (c_X2_copy is_8 is_3 (by omega) hM3) okX2_copy gw_483 rfl rfl (ltX2 is_8) (hcX2 is_8 E _) rfl (Nat.le_of_ble_eq_true rfl) (by omega) dX5_drift_29 ?_
      rintro _ _ ⟨rfl, rfl⟩
      show V E mX5_drift d 32 [(0, rf E 0), (1, vi x1), (2, vi x2), (3, vi x3)] [] M3 _
      refine V.iload_n 1 1 1 rfl dX5_drift_32 rfl ?_
      refine V.istore 4 [(4, vi x1), (0, rf E 0), (1, vi x1), (2, vi x2), (3, vi x3)] dX5_drift_33 (by decide) rfl ?_
      refine V.aload_n 0 0 1 rfl dX5_drift_35 rfl ?_
      refine V.get (by decide) (hcX5 E _) rfl inX5 1 (by decide) rfl gw_283 dX5_drift_36 ?_
      refine V.get (ltX2 is_3) (hcX2 is_3 E _) rfl inX2 15 (by decide) rfl gw_177 dX5_drift_39 ?_
      refine V.istore 5 [(5, vi (M3 3 15)), (4, vi x1), (0, rf E 0), (1, vi x1), (2, vi x2), (3, vi x3)] dX5_drift_42 (by decide) rfl ?_
      refine V.sub _ [2, 4, 5, 1, 0] rfl ?_
      exact l_X5_drift_44 hd hF hK
    · rw [if_pos hc] at hF
      refine V.iconst (-1) dX5_drift_19 ?_
      cases Option.some.inj hF
      exact V.iret rfl dX5_drift_20 hK
theorem c_X5_drift {E : En} {d : Nat} {n : Nat} {x1 : Int} {x2 : Int} {x3 : Int} {M : Mem} {zr : Int} {zM : Mem}  (hd : 5 ≤ d) (hF : f_X5_drift n x1 x2 x3 M = some (zr, zM)) : Cn E mX5_drift d [rf E 0, vi x1, vi x2, vi x3] M (fun v N => v = some (vi zr) ∧ zM = N) := by
  refine V.entry (by decide +kernel) (Nat.le_of_ble_eq_true rfl) ?_
  exact v_X5_drift_0  hd hF ⟨rfl, rfl⟩
abbrev mX5_keep : MI := (yX5_keep, cX5_keep, 3, (some .int))
theorem okX5_keep : OKV mX5_keep 1 := ⟨gw_806, gw_807, gw_58, gw_808, (by decide +kernel), (by decide)⟩
def f_X5_keep_25 (x1 : Int) (s0 : Int) (M : Mem) : Option (Int × Mem) :=
  (rx 28 5 2 x1).bind fun c1 =>
  (f_X2_copy c1 3 M).bind fun M2 =>
  (wt M2 26 2 x1 1).bind fun M3 =>
  some (s0, M3)
set_option maxRecDepth 10000 in
theorem v_X5_keep_25 {E : En} {d : Nat} {Q : Po} {x1 : Int} {s0 : Int} {M : Mem} {z : Int × Mem}  (hd : 3 ≤ d) (hF : f_X5_keep_25 x1 s0 M = some z) (hK : Q (some (vi z.1)) z.2) : V E mX5_keep d 25 [(0, rf E 0), (1, vi x1)] [vi s0] M Q := by
  unfold f_X5_keep_25 at hF
  refine V.istore_n 2 2 [(2, vi s0), (0, rf E 0), (1, vi x1)] rfl dX5_keep_25 (by decide) rfl ?_
  refine V.aload_n 0 0 1 rfl dX5_keep_26 rfl ?_
  refine V.get (by decide) (hcX5 E _) rfl inX5 5 (by decide) rfl gw_287 dX5_keep_27 ?_
  refine V.iload_n 1 1 2 rfl dX5_keep_30 rfl ?_
  replace hF := Option.bind_eq_some_iff.mp hF
  obtain ⟨c1, hc1, hF⟩ := hF
  refine V.aald (j := c1) ar_25 rfl (rx_some hc1).1 (by rw [(rx_some hc1).2]) dX5_keep_31 ?_
  refine V.aload_n 0 0 1 rfl dX5_keep_32 rfl ?_
  refine V.get (by decide) (hcX5 E _) rfl inX5 1 (by decide) rfl gw_283 dX5_keep_33 ?_
  replace hF := Option.bind_eq_some_iff.mp hF
  obtain ⟨M2, hM2, hF⟩ := hF
  refine V.callV (d' := d - 1) [rf E 3] [] (c_X2_copy (rx_k3 hc1) is_3 (by omega) hM2) okX2_copy gw_483 rfl rfl (ltX2 (rx_k3 hc1)) (hcX2 (rx_k3 hc1) E _) rfl (Nat.le_of_ble_eq_true rfl) (by omega) dX5_keep_36 ?_
  rintro _ _ ⟨rfl, rfl⟩
  show V E mX5_keep d 39 [(2, vi s0), (0, rf E 0), (1, vi x1)] [] M2 _
  refine V.aload_n 0 0 1 rfl dX5_keep_39 rfl ?_
  refine V.get (by decide) (hcX5 E _) rfl inX5 6 (by decide) rfl gw_288 dX5_keep_40 ?_
  refine V.iload_n 1 1 2 rfl dX5_keep_43 rfl ?_
  refine V.iconst 1 dX5_keep_44 ?_
  replace hF := Option.bind_eq_some_iff.mp hF
  obtain ⟨M3, hM3, hF⟩ := hF
  refine V.zast ar_26 (Or.inr rfl) hM3 dX5_keep_45 ?_
  refine V.iload_n 2 2 0 rfl dX5_keep_46 rfl ?_
  cases Option.some.inj hF
  exact V.iret rfl dX5_keep_47 hK
def f_X5_keep (x1 : Int) (M : Mem) : Option (Int × Mem) :=
  (f_X5_within x1 0 1 M).bind fun v1 =>
  if wr v1 = 0 then
    some ((-1), M)
  else
    (rd M 26 2 x1).bind fun v2 =>
    if wr v2 = 0 then
      f_X5_keep_25 x1 0 M
    else
      f_X5_keep_25 x1 1 M
set_option maxRecDepth 10000 in
theorem v_X5_keep_0 {E : En} {d : Nat} {Q : Po} {x1 : Int} {M : Mem} {z : Int × Mem}  (hd : 3 ≤ d) (hF : f_X5_keep x1 M = some z) (hK : Q (some (vi z.1)) z.2) : V E mX5_keep d 0 [(0, rf E 0), (1, vi x1)] [] M Q := by
  unfold f_X5_keep at hF
  refine V.iload_n 1 1 1 rfl dX5_keep_0 rfl ?_
  refine V.iconst 0 dX5_keep_1 ?_
  refine V.iconst 1 dX5_keep_2 ?_
  replace hF := Option.bind_eq_some_iff.mp hF
  obtain ⟨v1, hv1, hF⟩ := hF
  refine V.callS (d' := d - 1) [vi x1, vi 0, vi 1] [] (c_X5_within (by omega) hv1) okX5_within gw_314 rfl rfl (Nat.le_of_ble_eq_true rfl) (by omega) dX5_keep_3 ?_
  rintro _ _ ⟨rfl, rfl⟩
  show V E mX5_keep d 6 [(0, rf E 0), (1, vi x1)] [vi v1] M _
  refine V.if_ne (tgt := 11) rfl dX5_keep_6 (by decide) (fun hc => ?_) (fun hc => ?_)
  · rw [if_neg hc] at hF
    refine V.aload_n 0 0 0 rfl dX5_keep_11 rfl ?_
    refine V.get (by decide) (hcX5 E _) rfl inX5 6 (by decide) rfl gw_288 dX5_keep_12 ?_
    refine V.iload_n 1 1 1 rfl dX5_keep_15 rfl ?_
    replace hF := Option.bind_eq_some_iff.mp hF
    obtain ⟨v2, hv2, hF⟩ := hF
    refine V.zald ar_26 hv2 dX5_keep_16 ?_
    refine V.if_eq (tgt := 24) rfl dX5_keep_17 (by decide) (fun hc => ?_) (fun hc => ?_)
    · rw [if_pos hc] at hF
      refine V.iconst 0 dX5_keep_24 ?_
      exact v_X5_keep_25 hd hF hK
    · rw [if_neg hc] at hF
      refine V.iconst 1 dX5_keep_20 ?_
      refine V.goto (tgt := 25) dX5_keep_21 (by decide) ?_
      exact v_X5_keep_25 hd hF hK
  · rw [if_pos hc] at hF
    refine V.iconst (-1) dX5_keep_9 ?_
    cases Option.some.inj hF
    exact V.iret rfl dX5_keep_10 hK
theorem c_X5_keep {E : En} {d : Nat} {x1 : Int} {M : Mem} {zr : Int} {zM : Mem}  (hd : 3 ≤ d) (hF : f_X5_keep x1 M = some (zr, zM)) : Cn E mX5_keep d [rf E 0, vi x1] M (fun v N => v = some (vi zr) ∧ zM = N) := by
  refine V.entry (by decide +kernel) (Nat.le_of_ble_eq_true rfl) ?_
  exact v_X5_keep_0  hd hF ⟨rfl, rfl⟩
abbrev mX5_back : MI := (yX5_back, cX5_back, 2, (some .int))
theorem okX5_back : OKV mX5_back 1 := ⟨gw_810, gw_811, gw_58, gw_812, (by decide +kernel), (by decide)⟩
def f_X5_back (x1 : Int) (M : Mem) : Option (Int × Mem) :=
  (f_X5_within x1 0 1 M).bind fun v1 =>
  if wr v1 = 0 then
    some ((-1), M)
  else
    (rd M 26 2 x1).bind fun v2 =>
    if wr v2 = 0 then
      some ((-2), M)
    else
      (rx 28 5 2 x1).bind fun c3 =>
      (f_X2_copy 3 c3 M).bind fun M4 =>
      some (M4 3 15, M4)
set_option maxRecDepth 10000 in
theorem v_X5_back_0 {E : En} {d : Nat} {Q : Po} {x1 : Int} {M : Mem} {z : Int × Mem}  (hd : 3 ≤ d) (hF : f_X5_back x1 M = some z) (hK : Q (some (vi z.1)) z.2) : V E mX5_back d 0 [(0, rf E 0), (1, vi x1)] [] M Q := by
  unfold f_X5_back at hF
  refine V.iload_n 1 1 1 rfl dX5_back_0 rfl ?_
  refine V.iconst 0 dX5_back_1 ?_
  refine V.iconst 1 dX5_back_2 ?_
  replace hF := Option.bind_eq_some_iff.mp hF
  obtain ⟨v1, hv1, hF⟩ := hF
  refine V.callS (d' := d - 1) [vi x1, vi 0, vi 1] [] (c_X5_within (by omega) hv1) okX5_within gw_314 rfl rfl (Nat.le_of_ble_eq_true rfl) (by omega) dX5_back_3 ?_
  rintro _ _ ⟨rfl, rfl⟩
  show V E mX5_back d 6 [(0, rf E 0), (1, vi x1)] [vi v1] M _
  refine V.if_ne (tgt := 11) rfl dX5_back_6 (by decide) (fun hc => ?_) (fun hc => ?_)
  · rw [if_neg hc] at hF
    refine V.aload_n 0 0 0 rfl dX5_back_11 rfl ?_
    refine V.get (by decide) (hcX5 E _) rfl inX5 6 (by decide) rfl gw_288 dX5_back_12 ?_
    refine V.iload_n 1 1 1 rfl dX5_back_15 rfl ?_
    replace hF := Option.bind_eq_some_iff.mp hF
    obtain ⟨v2, hv2, hF⟩ := hF
    refine V.zald ar_26 hv2 dX5_back_16 ?_
    refine V.if_ne (tgt := 23) rfl dX5_back_17 (by decide) (fun hc => ?_) (fun hc => ?_)
    · rw [if_neg hc] at hF
      refine V.aload_n 0 0 0 rfl dX5_back_23 rfl ?_
      refine V.get (by decide) (hcX5 E _) rfl inX5 1 (by decide) rfl gw_283 dX5_back_24 ?_
      refine V.aload_n 0 0 0 rfl dX5_back_27 rfl ?_
      refine V.get (by decide) (hcX5 E _) rfl inX5 5 (by decide) rfl gw_287 dX5_back_28 ?_
      refine V.iload_n 1 1 1 rfl dX5_back_31 rfl ?_
      replace hF := Option.bind_eq_some_iff.mp hF
      obtain ⟨c3, hc3, hF⟩ := hF
      refine V.aald (j := c3) ar_25 rfl (rx_some hc3).1 (by rw [(rx_some hc3).2]) dX5_back_32 ?_
      replace hF := Option.bind_eq_some_iff.mp hF
      obtain ⟨M4, hM4, hF⟩ := hF
      refine V.callV (d' := d - 1) [rf E c3] [] (c_X2_copy is_3 (rx_k3 hc3) (by omega) hM4) okX2_copy gw_483 rfl rfl (ltX2 is_3) (hcX2 is_3 E _) rfl (Nat.le_of_ble_eq_true rfl) (by omega) dX5_back_33 ?_
      rintro _ _ ⟨rfl, rfl⟩
      show V E mX5_back d 36 [(0, rf E 0), (1, vi x1)] [] M4 _
      refine V.aload_n 0 0 0 rfl dX5_back_36 rfl ?_
      refine V.get (by decide) (hcX5 E _) rfl inX5 1 (by decide) rfl gw_283 dX5_back_37 ?_
      refine V.get (ltX2 is_3) (hcX2 is_3 E _) rfl inX2 15 (by decide) rfl gw_177 dX5_back_40 ?_
      cases Option.some.inj hF
      exact V.iret rfl dX5_back_43 hK
    · rw [if_pos hc] at hF
      refine V.bipush (-2) (-2) (by decide) dX5_back_20 ?_
      cases Option.some.inj hF
      exact V.iret rfl dX5_back_22 hK
  · rw [if_pos hc] at hF
    refine V.iconst (-1) dX5_back_9 ?_
    cases Option.some.inj hF
    exact V.iret rfl dX5_back_10 hK
theorem c_X5_back {E : En} {d : Nat} {x1 : Int} {M : Mem} {zr : Int} {zM : Mem}  (hd : 3 ≤ d) (hF : f_X5_back x1 M = some (zr, zM)) : Cn E mX5_back d [rf E 0, vi x1] M (fun v N => v = some (vi zr) ∧ zM = N) := by
  refine V.entry (by decide +kernel) (Nat.le_of_ble_eq_true rfl) ?_
  exact v_X5_back_0  hd hF ⟨rfl, rfl⟩
abbrev mX5_sheet : MI := (yX5_sheet, cX5_sheet, 4, (some .int))
theorem okX5_sheet : OKV mX5_sheet 3 := ⟨gw_814, gw_815, gw_58, gw_816, (by decide +kernel), (by decide)⟩
def f_X5_sheet (x1 : Int) (x2 : Int) (x3 : Int) (M : Mem) : Option (Int × Mem) :=
  (f_X5_isSheet x1 M).bind fun v1 =>
  if wr v1 = 0 then
    some ((-1), M)
  else
    (f_X5_isLane x2 M).bind fun v2 =>
    if wr v2 = 0 then
      some ((-1), M)
    else
      if wr x3 ≤ 40 then
        if 0 ≤ wr x3 then
          (rx 38 2 4 x1).bind fun c3 =>
          (f_X4_renew c3 x2 x3 M).bind fun M4 =>
          some (1, M4)
        else
          some ((-14), M)
      else
        some ((-1), M)
set_option maxRecDepth 10000 in
theorem v_X5_sheet_0 {E : En} {d : Nat} {Q : Po} {x1 : Int} {x2 : Int} {x3 : Int} {M : Mem} {z : Int × Mem}  (hd : 4 ≤ d) (hF : f_X5_sheet x1 x2 x3 M = some z) (hK : Q (some (vi z.1)) z.2) : V E mX5_sheet d 0 [(0, rf E 0), (1, vi x1), (2, vi x2), (3, vi x3)] [] M Q := by
  unfold f_X5_sheet at hF
  refine V.iload_n 1 1 1 rfl dX5_sheet_0 rfl ?_
  replace hF := Option.bind_eq_some_iff.mp hF
  obtain ⟨v1, hv1, hF⟩ := hF
  refine V.callS (d' := d - 1) [vi x1] [] (c_X5_isSheet (by omega) hv1) okX5_isSheet gw_817 rfl rfl (Nat.le_of_ble_eq_true rfl) (by omega) dX5_sheet_1 ?_
  rintro _ _ ⟨rfl, rfl⟩
  show V E mX5_sheet d 4 [(0, rf E 0), (1, vi x1), (2, vi x2), (3, vi x3)] [vi v1] M _
  refine V.if_eq (tgt := 20) rfl dX5_sheet_4 (by decide) (fun hc => ?_) (fun hc => ?_)
  · rw [if_pos hc] at hF
    refine V.iconst (-1) dX5_sheet_20 ?_
    cases Option.some.inj hF
    exact V.iret rfl dX5_sheet_21 hK
  · rw [if_neg hc] at hF
    refine V.iload_n 2 2 2 rfl dX5_sheet_7 rfl ?_
    replace hF := Option.bind_eq_some_iff.mp hF
    obtain ⟨v2, hv2, hF⟩ := hF
    refine V.callS (d' := d - 1) [vi x2] [] (c_X5_isLane (by omega) hv2) okX5_isLane gw_820 rfl rfl (Nat.le_of_ble_eq_true rfl) (by omega) dX5_sheet_8 ?_
    rintro _ _ ⟨rfl, rfl⟩
    show V E mX5_sheet d 11 [(0, rf E 0), (1, vi x1), (2, vi x2), (3, vi x3)] [vi v2] M _
    refine V.if_eq (tgt := 20) rfl dX5_sheet_11 (by decide) (fun hc => ?_) (fun hc => ?_)
    · rw [if_pos hc] at hF
      refine V.iconst (-1) dX5_sheet_20 ?_
      cases Option.some.inj hF
      exact V.iret rfl dX5_sheet_21 hK
    · rw [if_neg hc] at hF
      refine V.iload_n 3 3 3 rfl dX5_sheet_14 rfl ?_
      refine V.bipush 40 40 (by decide) dX5_sheet_15 ?_
      refine V.icmp_le (tgt := 22) rfl wr_40 dX5_sheet_17 (by decide) (fun hc => ?_) (fun hc => ?_)
      · rw [if_pos hc] at hF
        refine V.iload_n 3 3 3 rfl dX5_sheet_22 rfl ?_
        refine V.if_ge (tgt := 29) rfl dX5_sheet_23 (by decide) (fun hc => ?_) (fun hc => ?_)
        · rw [if_pos hc] at hF
          refine V.aload_n 0 0 0 rfl dX5_sheet_29 rfl ?_
          refine V.get (by decide) (hcX5 E _) rfl inX5 7 (by decide) rfl gw_289 dX5_sheet_30 ?_
          refine V.iload_n 1 1 1 rfl dX5_sheet_33 rfl ?_
          replace hF := Option.bind_eq_some_iff.mp hF
          obtain ⟨c3, hc3, hF⟩ := hF
          refine V.aald (j := c3) ar_27 rfl (rx_some hc3).1 (by rw [(rx_some hc3).2]) dX5_sheet_34 ?_
          refine V.iload_n 2 2 2 rfl dX5_sheet_35 rfl ?_
          refine V.iload_n 3 3 3 rfl dX5_sheet_36 rfl ?_
          replace hF := Option.bind_eq_some_iff.mp hF
          obtain ⟨M4, hM4, hF⟩ := hF
          refine V.callV (d' := d - 1) [vi x2, vi x3] [] (c_X4_renew (rx_k4 hc3) (by omega) hM4) okX4_renew gw_823 rfl rfl (ltX4 (rx_k4 hc3)) (hcX4 (rx_k4 hc3) E _) rfl (Nat.le_of_ble_eq_true rfl) (by omega) dX5_sheet_37 ?_
          rintro _ _ ⟨rfl, rfl⟩
          show V E mX5_sheet d 40 [(0, rf E 0), (1, vi x1), (2, vi x2), (3, vi x3)] [] M4 _
          refine V.iconst 1 dX5_sheet_40 ?_
          cases Option.some.inj hF
          exact V.iret rfl dX5_sheet_41 hK
        · rw [if_neg hc] at hF
          refine V.bipush (-14) (-14) (by decide) dX5_sheet_26 ?_
          cases Option.some.inj hF
          exact V.iret rfl dX5_sheet_28 hK
      · rw [if_neg hc] at hF
        refine V.iconst (-1) dX5_sheet_20 ?_
        cases Option.some.inj hF
        exact V.iret rfl dX5_sheet_21 hK
theorem c_X5_sheet {E : En} {d : Nat} {x1 : Int} {x2 : Int} {x3 : Int} {M : Mem} {zr : Int} {zM : Mem}  (hd : 4 ≤ d) (hF : f_X5_sheet x1 x2 x3 M = some (zr, zM)) : Cn E mX5_sheet d [rf E 0, vi x1, vi x2, vi x3] M (fun v N => v = some (vi zr) ∧ zM = N) := by
  refine V.entry (by decide +kernel) (Nat.le_of_ble_eq_true rfl) ?_
  exact v_X5_sheet_0  hd hF ⟨rfl, rfl⟩
abbrev mX5_lay : MI := (yX5_lay, cX5_lay, 5, (some .int))
theorem okX5_lay : OKV mX5_lay 3 := ⟨gw_829, gw_830, gw_58, gw_831, (by decide +kernel), (by decide)⟩
def f_X5_lay (x1 : Int) (x2 : Int) (x3 : Int) (M : Mem) : Option (Int × Mem) :=
  (f_X5_isSheet x1 M).bind fun v1 =>
  if wr v1 = 0 then
    some ((-1), M)
  else
    (rx 38 2 4 x1).bind fun c2 =>
    (f_X4_faultAt c2 x2 M).bind fun v3 =>
    if wr v3 = 0 then
      (rx 38 2 4 x1).bind fun c4 =>
      (f_X4_put c4 x2 x3 M).bind fun M5 =>
      some (1, M5)
    else
      some ((-10) - v3, M)
set_option maxRecDepth 10000 in
theorem v_X5_lay_0 {E : En} {d : Nat} {Q : Po} {x1 : Int} {x2 : Int} {x3 : Int} {M : Mem} {z : Int × Mem}  (hd : 3 ≤ d) (hF : f_X5_lay x1 x2 x3 M = some z) (hK : Q (some (vi z.1)) z.2) : V E mX5_lay d 0 [(0, rf E 0), (1, vi x1), (2, vi x2), (3, vi x3)] [] M Q := by
  unfold f_X5_lay at hF
  refine V.iload_n 1 1 1 rfl dX5_lay_0 rfl ?_
  replace hF := Option.bind_eq_some_iff.mp hF
  obtain ⟨v1, hv1, hF⟩ := hF
  refine V.callS (d' := d - 1) [vi x1] [] (c_X5_isSheet (by omega) hv1) okX5_isSheet gw_817 rfl rfl (Nat.le_of_ble_eq_true rfl) (by omega) dX5_lay_1 ?_
  rintro _ _ ⟨rfl, rfl⟩
  show V E mX5_lay d 4 [(0, rf E 0), (1, vi x1), (2, vi x2), (3, vi x3)] [vi v1] M _
  refine V.if_ne (tgt := 9) rfl dX5_lay_4 (by decide) (fun hc => ?_) (fun hc => ?_)
  · rw [if_neg hc] at hF
    refine V.aload_n 0 0 0 rfl dX5_lay_9 rfl ?_
    refine V.get (by decide) (hcX5 E _) rfl inX5 7 (by decide) rfl gw_289 dX5_lay_10 ?_
    refine V.iload_n 1 1 1 rfl dX5_lay_13 rfl ?_
    replace hF := Option.bind_eq_some_iff.mp hF
    obtain ⟨c2, hc2, hF⟩ := hF
    refine V.aald (j := c2) ar_27 rfl (rx_some hc2).1 (by rw [(rx_some hc2).2]) dX5_lay_14 ?_
    refine V.iload_n 2 2 2 rfl dX5_lay_15 rfl ?_
    replace hF := Option.bind_eq_some_iff.mp hF
    obtain ⟨v3, hv3, hF⟩ := hF
    refine V.callV (d' := d - 1) [vi x2] [] (c_X4_faultAt (rx_k4 hc2) (by omega) hv3) okX4_faultAt gw_832 rfl rfl (ltX4 (rx_k4 hc2)) (hcX4 (rx_k4 hc2) E _) rfl (Nat.le_of_ble_eq_true rfl) (by omega) dX5_lay_16 ?_
    rintro _ _ ⟨rfl, rfl⟩
    show V E mX5_lay d 19 [(0, rf E 0), (1, vi x1), (2, vi x2), (3, vi x3)] [vi v3] M _
    refine V.istore 4 [(4, vi v3), (0, rf E 0), (1, vi x1), (2, vi x2), (3, vi x3)] dX5_lay_19 (by decide) rfl ?_
    refine V.iload 4 0 dX5_lay_21 rfl ?_
    refine V.if_eq (tgt := 32) rfl dX5_lay_23 (by decide) (fun hc => ?_) (fun hc => ?_)
    · rw [if_pos hc] at hF
      refine V.aload_n 0 0 1 rfl dX5_lay_32 rfl ?_
      refine V.get (by decide) (hcX5 E _) rfl inX5 7 (by decide) rfl gw_289 dX5_lay_33 ?_
      refine V.iload_n 1 1 2 rfl dX5_lay_36 rfl ?_
      replace hF := Option.bind_eq_some_iff.mp hF
      obtain ⟨c4, hc4, hF⟩ := hF
      refine V.aald (j := c4) ar_27 rfl (rx_some hc4).1 (by rw [(rx_some hc4).2]) dX5_lay_37 ?_
      refine V.iload_n 2 2 3 rfl dX5_lay_38 rfl ?_
      refine V.iload_n 3 3 4 rfl dX5_lay_39 rfl ?_
      replace hF := Option.bind_eq_some_iff.mp hF
      obtain ⟨M5, hM5, hF⟩ := hF
      refine V.callV (d' := d - 1) [vi x2, vi x3] [] (c_X4_put (rx_k4 hc4) (by omega) hM5) okX4_put gw_841 rfl rfl (ltX4 (rx_k4 hc4)) (hcX4 (rx_k4 hc4) E _) rfl (Nat.le_of_ble_eq_true rfl) (by omega) dX5_lay_40 ?_
      rintro _ _ ⟨rfl, rfl⟩
      show V E mX5_lay d 43 [(4, vi v3), (0, rf E 0), (1, vi x1), (2, vi x2), (3, vi x3)] [] M5 _
      refine V.iconst 1 dX5_lay_43 ?_
      cases Option.some.inj hF
      exact V.iret rfl dX5_lay_44 hK
    · rw [if_neg hc] at hF
      refine V.bipush (-10) (-10) (by decide) dX5_lay_26 ?_
      refine V.iload 4 0 dX5_lay_28 rfl ?_
      refine V.isub dX5_lay_30 ?_
      cases Option.some.inj hF
      exact V.iret rfl dX5_lay_31 hK
  · rw [if_pos hc] at hF
    refine V.iconst (-1) dX5_lay_7 ?_
    cases Option.some.inj hF
    exact V.iret rfl dX5_lay_8 hK
theorem c_X5_lay {E : En} {d : Nat} {x1 : Int} {x2 : Int} {x3 : Int} {M : Mem} {zr : Int} {zM : Mem}  (hd : 3 ≤ d) (hF : f_X5_lay x1 x2 x3 M = some (zr, zM)) : Cn E mX5_lay d [rf E 0, vi x1, vi x2, vi x3] M (fun v N => v = some (vi zr) ∧ zM = N) := by
  refine V.entry (by decide +kernel) (Nat.le_of_ble_eq_true rfl) ?_
  exact v_X5_lay_0  hd hF ⟨rfl, rfl⟩
abbrev mX5_read : MI := (yX5_read, cX5_read, 10, (some .int))
theorem okX5_read : OKV mX5_read 4 := ⟨gw_846, gw_847, gw_58, gw_848, (by decide +kernel), (by decide)⟩
def f_X5_read_133 (n : Nat) (x6 : Int) (x7 : Int) (M : Mem) : Option (Int × Mem) :=
  (f_X2_copy 3 8 M).bind fun M1 =>
  (some (st M1 0 8 x6)).bind fun M2 =>
  some (x7, M2)
set_option maxRecDepth 10000 in
theorem v_X5_read_133 {E : En} {d : Nat} {Q : Po} {n : Nat} {x6 : Int} {x7 : Int} {M : Mem} {z : Int × Mem}  (hd : 5 ≤ d) (hF : f_X5_read_133 n x6 x7 M = some z) (hK : Q (some (vi z.1)) z.2) : V E mX5_read d 133 [(0, rf E 0), (6, vi x6), (7, vi x7)] [] M Q := by
  unfold f_X5_read_133 at hF
  refine V.aload_n 0 0 0 rfl dX5_read_133 rfl ?_
  refine V.get (by decide) (hcX5 E _) rfl inX5 1 (by decide) rfl gw_283 dX5_read_134 ?_
  refine V.aload_n 0 0 0 rfl dX5_read_137 rfl ?_
  refine V.get (by decide) (hcX5 E _) rfl inX5 2 (by decide) rfl gw_284 dX5_read_138 ?_
  replace hF := Option.bind_eq_some_iff.mp hF
  obtain ⟨M1, hM1, hF⟩ := hF
  refine V.callV (d' := d - 1) [rf E 8] [] (c_X2_copy is_3 is_8 (by omega) hM1) okX2_copy gw_483 rfl rfl (ltX2 is_3) (hcX2 is_3 E _) rfl (Nat.le_of_ble_eq_true rfl) (by omega) dX5_read_141 ?_
  rintro _ _ ⟨rfl, rfl⟩
  show V E mX5_read d 144 [(0, rf E 0), (6, vi x6), (7, vi x7)] [] M1 _
  refine V.aload_n 0 0 0 rfl dX5_read_144 rfl ?_
  refine V.iload 6 1 dX5_read_145 rfl ?_
  replace hF := Option.bind_eq_some_iff.mp hF
  obtain ⟨M2, hM2, hF⟩ := hF
  refine V.put (x := x6) (ty := .int) (Option.some.inj hM2) (by decide) (hcX5 E) rfl inX5 tyX5 tyX5_ok nmX5 (by decide) rfl (by decide +kernel) rfl rfl (Nat.le_of_ble_eq_true rfl) rfl gw_290 dX5_read_147 ?_
  refine V.iload 7 2 dX5_read_150 rfl ?_
  cases Option.some.inj hF
  exact V.iret rfl dX5_read_152 hK
def f_X5_read_127 (n : Nat) (x2 : Int) (x3 : Int) (x4 : Int) (q5 : Nat) (x6 : Int) (x7 : Int) (x8 : Int) (M : Mem) : Option ((Int × Int × Int × Mem) ⊕ (Int × Mem)) :=
  some (.inl (x6, x7, x8 + 1, M))
set_option maxRecDepth 10000 in
theorem v_X5_read_127 {E : En} {d : Nat} {Q : Po} {n : Nat} {x2 : Int} {x3 : Int} {x4 : Int} {q5 : Nat} {x6 : Int} {x7 : Int} {x8 : Int} {M : Mem} {z : (Int × Int × Int × Mem) ⊕ (Int × Mem)} (hq5 : isX4 q5) (hd : 5 ≤ d) (hF : f_X5_read_127 n x2 x3 x4 q5 x6 x7 x8 M = some z) (hC0 : ∀ s' : Int × Int × Int × Mem, z = (.inl s') → V E mX5_read d 55 [(0, rf E 0), (2, vi x2), (3, vi x3), (4, vi x4), (5, rf E q5), (6, vi (s'.1)), (7, vi (s'.2.1)), (8, vi (s'.2.2.1))] [] s'.2.2.2 Q) (hX : ∀ z0 : Int × Mem, z = (.inr z0) → Q (some (vi z0.1)) z0.2) : V E mX5_read d 127 [(0, rf E 0), (2, vi x2), (3, vi x3), (4, vi x4), (5, rf E q5), (6, vi x6), (7, vi x7), (8, vi x8)] [] M Q := by
  unfold f_X5_read_127 at hF
  refine V.iinc 8 7 1 [(8, vi (x8 + 1)), (0, rf E 0), (2, vi x2), (3, vi x3), (4, vi x4), (5, rf E q5), (6, vi x6), (7, vi x7)] dX5_read_127 rfl (by decide) rfl ?_
  refine V.goto (tgt := 55) dX5_read_130 (by decide) ?_
  cases Option.some.inj hF
  refine V.sub _ [1, 2, 3, 4, 5, 6, 7, 0] rfl ?_
  exact hC0 _ rfl
def f_X5_read_118 (n : Nat) (x8 : Int) (M : Mem) : Option (Int × Mem) :=
  some ((-20) - x8, M)
set_option maxRecDepth 10000 in
theorem v_X5_read_118 {E : En} {d : Nat} {Q : Po} {n : Nat} {x8 : Int} {M : Mem} {z : Int × Mem}  (hd : 5 ≤ d) (hF : f_X5_read_118 n x8 M = some z) (hK : Q (some (vi z.1)) z.2) : V E mX5_read d 118 [(8, vi x8)] [] M Q := by
  unfold f_X5_read_118 at hF
  refine V.bipush (-20) (-20) (by decide) dX5_read_118 ?_
  refine V.iload 8 0 dX5_read_120 rfl ?_
  refine V.isub dX5_read_122 ?_
  cases Option.some.inj hF
  exact V.iret rfl dX5_read_123 hK
def f_X5_read_55 (n : Nat) (x2 : Int) (x3 : Int) (x4 : Int) (q5 : Nat) (x6 : Int) (x7 : Int) (x8 : Int) (M : Mem) : Option ((Int × Int × Int × Mem) ⊕ (Int × Mem)) :=
  if wr x4 ≤ wr x8 then
    (f_X5_read_133 n x6 x7 M).map Sum.inr
  else
    if wr x6 = 0 then
      (f_X4_faultOfYear q5 x2 (x3 + (2 * x8)) M).bind fun v1 =>
      if wr v1 = 0 then
        (rd M (q5 + 1) 40 (x3 + (2 * x8))).bind fun v2 =>
        (rd M (q5 + 1) 40 ((x3 + (2 * x8)) + 1)).bind fun v3 =>
        (f_X2_passTold n 8 v2 v3 M).bind fun (v4, M5) =>
        if 0 ≤ wr v4 then
          f_X5_read_127 n x2 x3 x4 q5 v1 (x7 + 1) x8 M5
        else
          (f_X5_read_118 n x8 M5).map Sum.inr
      else
        f_X5_read_127 n x2 x3 x4 q5 v1 x7 x8 M
    else
      (f_X5_read_133 n x6 x7 M).map Sum.inr
set_option maxRecDepth 10000 in
theorem v_X5_read_55 {E : En} {d : Nat} {Q : Po} {n : Nat} {x2 : Int} {x3 : Int} {x4 : Int} {q5 : Nat} {x6 : Int} {x7 : Int} {x8 : Int} {M : Mem} {z : (Int × Int × Int × Mem) ⊕ (Int × Mem)} (hq5 : isX4 q5) (hd : 5 ≤ d) (hF : f_X5_read_55 n x2 x3 x4 q5 x6 x7 x8 M = some z) (hC0 : ∀ s' : Int × Int × Int × Mem, z = (.inl s') → V E mX5_read d 55 [(0, rf E 0), (2, vi x2), (3, vi x3), (4, vi x4), (5, rf E q5), (6, vi (s'.1)), (7, vi (s'.2.1)), (8, vi (s'.2.2.1))] [] s'.2.2.2 Q) (hX : ∀ z0 : Int × Mem, z = (.inr z0) → Q (some (vi z0.1)) z0.2) : V E mX5_read d 55 [(0, rf E 0), (2, vi x2), (3, vi x3), (4, vi x4), (5, rf E q5), (6, vi x6), (7, vi x7), (8, vi x8)] [] M Q := by
  unfold f_X5_read_55 at hF
  refine V.iload 8 7 dX5_read_55 rfl ?_
  refine V.iload 4 3 dX5_read_57 rfl ?_
  refine V.icmp_ge (tgt := 133) rfl rfl dX5_read_59 (by decide) (fun hc => ?_) (fun hc => ?_)
  · rw [if_pos hc] at hF
    replace hF := Option.map_eq_some_iff.mp hF
    obtain ⟨z0, hF, rfl⟩ := hF
    refine V.sub _ [0, 5, 6] rfl ?_
    exact v_X5_read_133 hd hF (hX _ rfl)
  · rw [if_neg hc] at hF
    refine V.iload 6 5 dX5_read_62 rfl ?_
    refine V.if_ne (tgt := 133) rfl dX5_read_64 (by decide) (fun hc => ?_) (fun hc => ?_)
    · rw [if_neg hc] at hF
      replace hF := Option.map_eq_some_iff.mp hF
      obtain ⟨z0, hF, rfl⟩ := hF
      refine V.sub _ [0, 5, 6] rfl ?_
      exact v_X5_read_133 hd hF (hX _ rfl)
    · rw [if_pos hc] at hF
      refine V.iload_n 3 3 2 rfl dX5_read_67 rfl ?_
      refine V.iconst 2 dX5_read_68 ?_
      refine V.iload 8 7 dX5_read_69 rfl ?_
      refine V.imul dX5_read_71 ?_
      refine V.iadd dX5_read_72 ?_
      refine V.istore 9 [(9, vi (x3 + (2 * x8))), (0, rf E 0), (2, vi x2), (3, vi x3), (4, vi x4), (5, rf E q5), (6, vi x6), (7, vi x7), (8, vi x8)] dX5_read_73 (by decide) rfl ?_
      refine V.aload 5 5 dX5_read_75 rfl ?_
      refine V.iload_n 2 2 2 rfl dX5_read_77 rfl ?_
      refine V.iload 9 0 dX5_read_78 rfl ?_
      replace hF := Option.bind_eq_some_iff.mp hF
      obtain ⟨v1, hv1, hF⟩ := hF
      refine V.callV (d' := d - 1) [vi x2, vi (x3 + (2 * x8))] [] (c_X4_faultOfYear hq5 (by omega) hv1) okX4_faultOfYear gw_849 rfl rfl (ltX4 hq5) (hcX4 hq5 E _) rfl (Nat.le_of_ble_eq_true rfl) (by omega) dX5_read_80 ?_
      rintro _ _ ⟨rfl, rfl⟩
      show V E mX5_read d 83 [(9, vi (x3 + (2 * x8))), (0, rf E 0), (2, vi x2), (3, vi x3), (4, vi x4), (5, rf E q5), (6, vi x6), (7, vi x7), (8, vi x8)] [vi v1] M _
      refine V.istore 6 [(6, vi v1), (9, vi (x3 + (2 * x8))), (0, rf E 0), (2, vi x2), (3, vi x3), (4, vi x4), (5, rf E q5), (7, vi x7), (8, vi x8)] dX5_read_83 (by decide) rfl ?_
      refine V.iload 6 0 dX5_read_85 rfl ?_
      refine V.if_ne (tgt := 127) rfl dX5_read_87 (by decide) (fun hc => ?_) (fun hc => ?_)
      · rw [if_neg hc] at hF
        refine V.sub _ [2, 3, 4, 5, 6, 0, 7, 8] rfl ?_
        exact v_X5_read_127 hq5 hd hF hC0 hX
      · rw [if_pos hc] at hF
        refine V.aload_n 0 0 2 rfl dX5_read_90 rfl ?_
        refine V.get (by decide) (hcX5 E _) rfl inX5 2 (by decide) rfl gw_284 dX5_read_91 ?_
        refine V.aload 5 6 dX5_read_94 rfl ?_
        refine V.get (ltX4 hq5) (hcX4 hq5 E _) rfl inX4 0 (by decide) rfl gw_270 dX5_read_96 ?_
        refine V.iload 9 1 dX5_read_99 rfl ?_
        replace hF := Option.bind_eq_some_iff.mp hF
        obtain ⟨v2, hv2, hF⟩ := hF
        refine V.iald (ar_X4_0 hq5) hv2 dX5_read_101 ?_
        refine V.aload 5 6 dX5_read_102 rfl ?_
        refine V.get (ltX4 hq5) (hcX4 hq5 E _) rfl inX4 0 (by decide) rfl gw_270 dX5_read_104 ?_
        refine V.iload 9 1 dX5_read_107 rfl ?_
        refine V.iconst 1 dX5_read_109 ?_
        refine V.iadd dX5_read_110 ?_
        replace hF := Option.bind_eq_some_iff.mp hF
        obtain ⟨v3, hv3, hF⟩ := hF
        refine V.iald (ar_X4_0 hq5) hv3 dX5_read_111 ?_
        replace hF := Option.bind_eq_some_iff.mp hF
        obtain ⟨⟨v4, M5⟩, hv4, hF⟩ := hF
        dsimp only at hF
        refine V.callV (d' := d - 1) [vi v2, vi v3] [] (c_X2_passTold is_8 (by omega) hv4) okX2_passTold gw_584 rfl rfl (ltX2 is_8) (hcX2 is_8 E _) rfl (Nat.le_of_ble_eq_true rfl) (by omega) dX5_read_112 ?_
        rintro _ _ ⟨rfl, rfl⟩
        show V E mX5_read d 115 [(6, vi v1), (9, vi (x3 + (2 * x8))), (0, rf E 0), (2, vi x2), (3, vi x3), (4, vi x4), (5, rf E q5), (7, vi x7), (8, vi x8)] [vi v4] M5 _
        refine V.if_ge (tgt := 124) rfl dX5_read_115 (by decide) (fun hc => ?_) (fun hc => ?_)
        · rw [if_pos hc] at hF
          refine V.iinc 7 7 1 [(7, vi (x7 + 1)), (6, vi v1), (9, vi (x3 + (2 * x8))), (0, rf E 0), (2, vi x2), (3, vi x3), (4, vi x4), (5, rf E q5), (8, vi x8)] dX5_read_124 rfl (by decide) rfl ?_
          refine V.sub _ [3, 4, 5, 6, 7, 1, 0, 8] rfl ?_
          exact v_X5_read_127 hq5 hd hF hC0 hX
        · rw [if_neg hc] at hF
          replace hF := Option.map_eq_some_iff.mp hF
          obtain ⟨z0, hF, rfl⟩ := hF
          refine V.sub _ [8] rfl ?_
          exact v_X5_read_118 hd hF (hX _ rfl)
theorem l_X5_read_55 {E : En} {d : Nat} {Q : Po} {n : Nat} {x2 : Int} {x3 : Int} {x4 : Int} {q5 : Nat} {k : Nat} {s : Int × Int × Int × Mem} {z : Int × Mem} (hq5 : isX4 q5) (hd : 5 ≤ d) (hF : lp (fun s => f_X5_read_55 n x2 x3 x4 q5 s.1 s.2.1 s.2.2.1 s.2.2.2) k s = some z) (hK : Q (some (vi z.1)) z.2) : V E mX5_read d 55 [(0, rf E 0), (2, vi x2), (3, vi x3), (4, vi x4), (5, rf E q5), (6, vi s.1), (7, vi s.2.1), (8, vi s.2.2.1)] [] s.2.2.2 Q := by
  refine lp_ind (P := fun s => V E mX5_read d 55 [(0, rf E 0), (2, vi x2), (3, vi x3), (4, vi x4), (5, rf E q5), (6, vi s.1), (7, vi s.2.1), (8, vi s.2.2.1)] [] s.2.2.2 Q) (z0 := z) ?_ k s hF
  intro s z' hF hc hx
  exact v_X5_read_55 hq5 hd hF (fun s' e => hc s' e) (fun z0 e => by rw [hx _ e]; exact hK)
def f_X5_read (n : Nat) (x1 : Int) (x2 : Int) (x3 : Int) (x4 : Int) (M : Mem) : Option (Int × Mem) :=
  (f_X5_isSheet x1 M).bind fun v1 =>
  if wr v1 = 0 then
    some ((-1), M)
  else
    (f_X5_isLane x2 M).bind fun v2 =>
    if wr v2 = 0 then
      some ((-1), M)
    else
      (f_X5_within x4 0 20 M).bind fun v3 =>
      if wr v3 = 0 then
        some ((-1), M)
      else
        (rx 38 2 4 x1).bind fun c4 =>
        (f_X2_copy 8 3 M).bind fun M5 =>
        lp (fun s => f_X5_read_55 n x2 x3 x4 c4 s.1 s.2.1 s.2.2.1 s.2.2.2) n (0, 0, 0, M5)
set_option maxRecDepth 10000 in
theorem v_X5_read_0 {E : En} {d : Nat} {Q : Po} {n : Nat} {x1 : Int} {x2 : Int} {x3 : Int} {x4 : Int} {M : Mem} {z : Int × Mem}  (hd : 5 ≤ d) (hF : f_X5_read n x1 x2 x3 x4 M = some z) (hK : Q (some (vi z.1)) z.2) : V E mX5_read d 0 [(0, rf E 0), (1, vi x1), (2, vi x2), (3, vi x3), (4, vi x4)] [] M Q := by
  unfold f_X5_read at hF
  refine V.iload_n 1 1 1 rfl dX5_read_0 rfl ?_
  replace hF := Option.bind_eq_some_iff.mp hF
  obtain ⟨v1, hv1, hF⟩ := hF
  refine V.callS (d' := d - 1) [vi x1] [] (c_X5_isSheet (by omega) hv1) okX5_isSheet gw_817 rfl rfl (Nat.le_of_ble_eq_true rfl) (by omega) dX5_read_1 ?_
  rintro _ _ ⟨rfl, rfl⟩
  show V E mX5_read d 4 [(0, rf E 0), (1, vi x1), (2, vi x2), (3, vi x3), (4, vi x4)] [vi v1] M _
  refine V.if_eq (tgt := 25) rfl dX5_read_4 (by decide) (fun hc => ?_) (fun hc => ?_)
  · rw [if_pos hc] at hF
    refine V.iconst (-1) dX5_read_25 ?_
    cases Option.some.inj hF
    exact V.iret rfl dX5_read_26 hK
  · rw [if_neg hc] at hF
    refine V.iload_n 2 2 2 rfl dX5_read_7 rfl ?_
    replace hF := Option.bind_eq_some_iff.mp hF
    obtain ⟨v2, hv2, hF⟩ := hF
    refine V.callS (d' := d - 1) [vi x2] [] (c_X5_isLane (by omega) hv2) okX5_isLane gw_820 rfl rfl (Nat.le_of_ble_eq_true rfl) (by omega) dX5_read_8 ?_
    rintro _ _ ⟨rfl, rfl⟩
    show V E mX5_read d 11 [(0, rf E 0), (1, vi x1), (2, vi x2), (3, vi x3), (4, vi x4)] [vi v2] M _
    refine V.if_eq (tgt := 25) rfl dX5_read_11 (by decide) (fun hc => ?_) (fun hc => ?_)
    · rw [if_pos hc] at hF
      refine V.iconst (-1) dX5_read_25 ?_
      cases Option.some.inj hF
      exact V.iret rfl dX5_read_26 hK
    · rw [if_neg hc] at hF
      refine V.iload 4 4 dX5_read_14 rfl ?_
      refine V.iconst 0 dX5_read_16 ?_
      refine V.bipush 20 20 (by decide) dX5_read_17 ?_
      replace hF := Option.bind_eq_some_iff.mp hF
      obtain ⟨v3, hv3, hF⟩ := hF
      refine V.callS (d' := d - 1) [vi x4, vi 0, vi 20] [] (c_X5_within (by omega) hv3) okX5_within gw_314 rfl rfl (Nat.le_of_ble_eq_true rfl) (by omega) dX5_read_19 ?_
      rintro _ _ ⟨rfl, rfl⟩
      show V E mX5_read d 22 [(0, rf E 0), (1, vi x1), (2, vi x2), (3, vi x3), (4, vi x4)] [vi v3] M _
      refine V.if_ne (tgt := 27) rfl dX5_read_22 (by decide) (fun hc => ?_) (fun hc => ?_)
      · rw [if_neg hc] at hF
        refine V.aload_n 0 0 0 rfl dX5_read_27 rfl ?_
        refine V.get (by decide) (hcX5 E _) rfl inX5 7 (by decide) rfl gw_289 dX5_read_28 ?_
        refine V.iload_n 1 1 1 rfl dX5_read_31 rfl ?_
        replace hF := Option.bind_eq_some_iff.mp hF
        obtain ⟨c4, hc4, hF⟩ := hF
        refine V.aald (j := c4) ar_27 rfl (rx_some hc4).1 (by rw [(rx_some hc4).2]) dX5_read_32 ?_
        refine V.astore 5 [(5, rf E c4), (0, rf E 0), (1, vi x1), (2, vi x2), (3, vi x3), (4, vi x4)] dX5_read_33 (by decide) rfl ?_
        refine V.iconst 0 dX5_read_35 ?_
        refine V.istore 6 [(6, vi 0), (5, rf E c4), (0, rf E 0), (1, vi x1), (2, vi x2), (3, vi x3), (4, vi x4)] dX5_read_36 (by decide) rfl ?_
        refine V.iconst 0 dX5_read_38 ?_
        refine V.istore 7 [(7, vi 0), (6, vi 0), (5, rf E c4), (0, rf E 0), (1, vi x1), (2, vi x2), (3, vi x3), (4, vi x4)] dX5_read_39 (by decide) rfl ?_
        refine V.aload_n 0 0 3 rfl dX5_read_41 rfl ?_
        refine V.get (by decide) (hcX5 E _) rfl inX5 2 (by decide) rfl gw_284 dX5_read_42 ?_
        refine V.aload_n 0 0 3 rfl dX5_read_45 rfl ?_
        refine V.get (by decide) (hcX5 E _) rfl inX5 1 (by decide) rfl gw_283 dX5_read_46 ?_
        replace hF := Option.bind_eq_some_iff.mp hF
        obtain ⟨M5, hM5, hF⟩ := hF
        refine V.callV (d' := d - 1) [rf E 3] [] (c_X2_copy is_8 is_3 (by omega) hM5) okX2_copy gw_483 rfl rfl (ltX2 is_8) (hcX2 is_8 E _) rfl (Nat.le_of_ble_eq_true rfl) (by omega) dX5_read_49 ?_
        rintro _ _ ⟨rfl, rfl⟩
        show V E mX5_read d 52 [(7, vi 0), (6, vi 0), (5, rf E c4), (0, rf E 0), (1, vi x1), (2, vi x2), (3, vi x3), (4, vi x4)] [] M5 _
        refine V.iconst 0 dX5_read_52 ?_
        refine V.istore 8 [(8, vi 0), (7, vi 0), (6, vi 0), (5, rf E c4), (0, rf E 0), (1, vi x1), (2, vi x2), (3, vi x3), (4, vi x4)] dX5_read_53 (by decide) rfl ?_
        refine V.sub _ [4, 6, 7, 8, 3, 2, 1, 0] rfl ?_
        exact l_X5_read_55 (rx_k4 hc4) hd hF hK
      · rw [if_pos hc] at hF
        refine V.iconst (-1) dX5_read_25 ?_
        cases Option.some.inj hF
        exact V.iret rfl dX5_read_26 hK
theorem c_X5_read {E : En} {d : Nat} {n : Nat} {x1 : Int} {x2 : Int} {x3 : Int} {x4 : Int} {M : Mem} {zr : Int} {zM : Mem}  (hd : 5 ≤ d) (hF : f_X5_read n x1 x2 x3 x4 M = some (zr, zM)) : Cn E mX5_read d [rf E 0, vi x1, vi x2, vi x3, vi x4] M (fun v N => v = some (vi zr) ∧ zM = N) := by
  refine V.entry (by decide +kernel) (Nat.le_of_ble_eq_true rfl) ?_
  exact v_X5_read_0  hd hF ⟨rfl, rfl⟩
abbrev mX5_count : MI := (yX5_count, cX5_count, 2, (some .int))
theorem okX5_count : OKV mX5_count 1 := ⟨gw_859, gw_860, gw_58, gw_861, (by decide +kernel), (by decide)⟩
def f_X5_count_76 (n : Nat) (s0 : Int) (s1 : Int) (M : Mem) : Option (Int) :=
  some (s1 + s0)
set_option maxRecDepth 10000 in
theorem v_X5_count_76 {E : En} {d : Nat} {Q : Po} {n : Nat} {s0 : Int} {s1 : Int} {M : Mem} {z : Int}  (hd : 3 ≤ d) (hF : f_X5_count_76 n s0 s1 M = some z) (hK : Q (some (vi z)) M) : V E mX5_count d 76 [] [vi s0, vi s1] M Q := by
  unfold f_X5_count_76 at hF
  refine V.iadd dX5_count_76 ?_
  cases Option.some.inj hF
  exact V.iret rfl dX5_count_77 hK
def f_X5_count_62 (n : Nat) (s0 : Int) (M : Mem) : Option (Int) :=
  if wr (M 26 1) = 0 then
    f_X5_count_76 n 0 s0 M
  else
    f_X5_count_76 n 1 s0 M
set_option maxRecDepth 10000 in
theorem v_X5_count_62 {E : En} {d : Nat} {Q : Po} {n : Nat} {s0 : Int} {M : Mem} {z : Int}  (hd : 3 ≤ d) (hF : f_X5_count_62 n s0 M = some z) (hK : Q (some (vi z)) M) : V E mX5_count d 62 [(0, rf E 0)] [vi s0] M Q := by
  unfold f_X5_count_62 at hF
  refine V.aload_n 0 0 0 rfl dX5_count_62 rfl ?_
  refine V.get (by decide) (hcX5 E _) rfl inX5 6 (by decide) rfl gw_288 dX5_count_63 ?_
  refine V.iconst 1 dX5_count_66 ?_
  refine V.zald ar_26 (rd_lit 1 1 wr_1 (by decide)) dX5_count_67 ?_
  refine V.if_eq (tgt := 75) rfl dX5_count_68 (by decide) (fun hc => ?_) (fun hc => ?_)
  · rw [if_pos hc] at hF
    refine V.iconst 0 dX5_count_75 ?_
    refine V.sub _ [] rfl ?_
    exact v_X5_count_76 hd hF hK
  · rw [if_neg hc] at hF
    refine V.iconst 1 dX5_count_71 ?_
    refine V.goto (tgt := 76) dX5_count_72 (by decide) ?_
    refine V.sub _ [] rfl ?_
    exact v_X5_count_76 hd hF hK
def f_X5_count (n : Nat) (x1 : Int) (M : Mem) : Option (Int) :=
  if wr x1 = 0 then
    some (M 22 2)
  else if wr x1 = 1 then
    if wr (M 26 0) = 0 then
      f_X5_count_62 n 0 M
    else
      f_X5_count_62 n 1 M
  else if wr x1 = 2 then
    some (M 1 1)
  else if wr x1 = 3 then
    (f_X4_isNothing 38 M).bind fun v1 =>
    if wr v1 = 0 then
      some (M 38 1)
    else
      some (-4)
  else if wr x1 = 4 then
    (f_X2_possible n 3 M).bind fun v2 =>
    (f_J6_bitCount_0f7a4 v2 M).bind fun v3 =>
    some v3
  else if wr x1 = 5 then
    (f_J6_bitCount_0f7a4 (M 3 16) M).bind fun v4 =>
    some v4
  else 
    some (-1)
set_option maxRecDepth 10000 in
theorem v_X5_count_0 {E : En} {d : Nat} {Q : Po} {n : Nat} {x1 : Int} {M : Mem} {z : Int}  (hd : 3 ≤ d) (hF : f_X5_count n x1 M = some z) (hK : Q (some (vi z)) M) : V E mX5_count d 0 [(0, rf E 0), (1, vi x1)] [] M Q := by
  unfold f_X5_count at hF
  refine V.iload_n 1 1 1 rfl dX5_count_0 rfl ?_
  by_cases hs0 : wr x1 = 0
  · rw [if_pos hs0] at hF
    refine V.tableIn (a := 0) (tgt := 40) (off := 39) hs0 dX5_count_1 (by decide) (by decide) rfl (by decide) ?_
    refine V.aload_n 0 0 0 rfl dX5_count_40 rfl ?_
    refine V.get (by decide) (hcX5 E _) rfl inX5 4 (by decide) rfl gw_286 dX5_count_41 ?_
    refine V.get (by decide) (hcX0 E _) rfl inX0 2 (by decide) rfl gw_253 dX5_count_44 ?_
    cases Option.some.inj hF
    exact V.iret rfl dX5_count_47 hK
  rw [if_neg hs0] at hF
  by_cases hs1 : wr x1 = 1
  · rw [if_pos hs1] at hF
    refine V.tableIn (a := 1) (tgt := 48) (off := 47) hs1 dX5_count_1 (by decide) (by decide) rfl (by decide) ?_
    refine V.aload_n 0 0 0 rfl dX5_count_48 rfl ?_
    refine V.get (by decide) (hcX5 E _) rfl inX5 6 (by decide) rfl gw_288 dX5_count_49 ?_
    refine V.iconst 0 dX5_count_52 ?_
    refine V.zald ar_26 (rd_lit 0 0 wr_0 (by decide)) dX5_count_53 ?_
    refine V.if_eq (tgt := 61) rfl dX5_count_54 (by decide) (fun hc => ?_) (fun hc => ?_)
    · rw [if_pos hc] at hF
      refine V.iconst 0 dX5_count_61 ?_
      refine V.sub _ [0] rfl ?_
      exact v_X5_count_62 hd hF hK
    · rw [if_neg hc] at hF
      refine V.iconst 1 dX5_count_57 ?_
      refine V.goto (tgt := 62) dX5_count_58 (by decide) ?_
      refine V.sub _ [0] rfl ?_
      exact v_X5_count_62 hd hF hK
  rw [if_neg hs1] at hF
  by_cases hs2 : wr x1 = 2
  · rw [if_pos hs2] at hF
    refine V.tableIn (a := 2) (tgt := 78) (off := 77) hs2 dX5_count_1 (by decide) (by decide) rfl (by decide) ?_
    refine V.aload_n 0 0 0 rfl dX5_count_78 rfl ?_
    refine V.get (by decide) (hcX5 E _) rfl inX5 0 (by decide) rfl gw_282 dX5_count_79 ?_
    refine V.get (by decide) (hcX3 E _) rfl inX3 1 (by decide) rfl gw_89 dX5_count_82 ?_
    cases Option.some.inj hF
    exact V.iret rfl dX5_count_85 hK
  rw [if_neg hs2] at hF
  by_cases hs3 : wr x1 = 3
  · rw [if_pos hs3] at hF
    refine V.tableIn (a := 3) (tgt := 86) (off := 85) hs3 dX5_count_1 (by decide) (by decide) rfl (by decide) ?_
    refine V.aload_n 0 0 0 rfl dX5_count_86 rfl ?_
    refine V.get (by decide) (hcX5 E _) rfl inX5 7 (by decide) rfl gw_289 dX5_count_87 ?_
    refine V.iconst 0 dX5_count_90 ?_
    refine V.aald (j := 38) ar_27 rfl (by rw [wr_0]; decide) (by rw [wr_0]; rfl) dX5_count_91 ?_
    replace hF := Option.bind_eq_some_iff.mp hF
    obtain ⟨v1, hv1, hF⟩ := hF
    refine V.callV (d' := d - 1) [] [] (c_X4_isNothing is_38 (by omega) hv1) okX4_isNothing gw_862 rfl rfl (ltX4 is_38) (hcX4 is_38 E _) rfl (Nat.le_of_ble_eq_true rfl) (by omega) dX5_count_92 ?_
    rintro _ _ ⟨rfl, rfl⟩
    show V E mX5_count d 95 [(0, rf E 0), (1, vi x1)] [vi v1] M _
    refine V.if_eq (tgt := 103) rfl dX5_count_95 (by decide) (fun hc => ?_) (fun hc => ?_)
    · rw [if_pos hc] at hF
      refine V.aload_n 0 0 0 rfl dX5_count_103 rfl ?_
      refine V.get (by decide) (hcX5 E _) rfl inX5 7 (by decide) rfl gw_289 dX5_count_104 ?_
      refine V.iconst 0 dX5_count_107 ?_
      refine V.aald (j := 38) ar_27 rfl (by rw [wr_0]; decide) (by rw [wr_0]; rfl) dX5_count_108 ?_
      refine V.get (ltX4 is_38) (hcX4 is_38 E _) rfl inX4 1 (by decide) rfl gw_272 dX5_count_109 ?_
      cases Option.some.inj hF
      exact V.iret rfl dX5_count_112 hK
    · rw [if_neg hc] at hF
      refine V.bipush (-4) (-4) (by decide) dX5_count_98 ?_
      refine V.goto (tgt := 112) dX5_count_100 (by decide) ?_
      cases Option.some.inj hF
      exact V.iret rfl dX5_count_112 hK
  rw [if_neg hs3] at hF
  by_cases hs4 : wr x1 = 4
  · rw [if_pos hs4] at hF
    refine V.tableIn (a := 4) (tgt := 113) (off := 112) hs4 dX5_count_1 (by decide) (by decide) rfl (by decide) ?_
    refine V.aload_n 0 0 0 rfl dX5_count_113 rfl ?_
    refine V.get (by decide) (hcX5 E _) rfl inX5 1 (by decide) rfl gw_283 dX5_count_114 ?_
    replace hF := Option.bind_eq_some_iff.mp hF
    obtain ⟨v2, hv2, hF⟩ := hF
    refine V.callV (d' := d - 1) [] [] (c_X2_possible is_3 (by omega) hv2) okX2_possible gw_666 rfl rfl (ltX2 is_3) (hcX2 is_3 E _) rfl (Nat.le_of_ble_eq_true rfl) (by omega) dX5_count_117 ?_
    rintro _ _ ⟨rfl, rfl⟩
    show V E mX5_count d 120 [(0, rf E 0), (1, vi x1)] [vi v2] M _
    replace hF := Option.bind_eq_some_iff.mp hF
    obtain ⟨v3, hv3, hF⟩ := hF
    refine V.callS (d' := d - 1) [vi v2] [] (c_J6_bitCount_0f7a4 (by omega) hv3) okJ6_bitCount_0f7a4 gw_863 rfl rfl (Nat.le_of_ble_eq_true rfl) (by omega) dX5_count_120 ?_
    rintro _ _ ⟨rfl, rfl⟩
    show V E mX5_count d 123 [(0, rf E 0), (1, vi x1)] [vi v3] M _
    cases Option.some.inj hF
    exact V.iret rfl dX5_count_123 hK
  rw [if_neg hs4] at hF
  by_cases hs5 : wr x1 = 5
  · rw [if_pos hs5] at hF
    refine V.tableIn (a := 5) (tgt := 124) (off := 123) hs5 dX5_count_1 (by decide) (by decide) rfl (by decide) ?_
    refine V.aload_n 0 0 0 rfl dX5_count_124 rfl ?_
    refine V.get (by decide) (hcX5 E _) rfl inX5 1 (by decide) rfl gw_283 dX5_count_125 ?_
    refine V.get (ltX2 is_3) (hcX2 is_3 E _) rfl inX2 16 (by decide) rfl gw_179 dX5_count_128 ?_
    replace hF := Option.bind_eq_some_iff.mp hF
    obtain ⟨v4, hv4, hF⟩ := hF
    refine V.callS (d' := d - 1) [vi (M 3 16)] [] (c_J6_bitCount_0f7a4 (by omega) hv4) okJ6_bitCount_0f7a4 gw_863 rfl rfl (Nat.le_of_ble_eq_true rfl) (by omega) dX5_count_131 ?_
    rintro _ _ ⟨rfl, rfl⟩
    show V E mX5_count d 134 [(0, rf E 0), (1, vi x1)] [vi v4] M _
    cases Option.some.inj hF
    exact V.iret rfl dX5_count_134 hK
  rw [if_neg hs5] at hF
  refine V.tableOut (tgt := 135) rfl dX5_count_1 (by omega) (by decide) ?_
  refine V.iconst (-1) dX5_count_135 ?_
  cases Option.some.inj hF
  exact V.iret rfl dX5_count_136 hK
theorem c_X5_count {E : En} {d : Nat} {n : Nat} {x1 : Int} {M : Mem} {z : Int}  (hd : 3 ≤ d) (hF : f_X5_count n x1 M = some z) : Cn E mX5_count d [rf E 0, vi x1] M (fun v N => v = some (vi z) ∧ M = N) := by
  refine V.entry (by decide +kernel) (Nat.le_of_ble_eq_true rfl) ?_
  exact v_X5_count_0  hd hF ⟨rfl, rfl⟩
