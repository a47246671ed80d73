abbrev mX3_write : MI := (yX3_write, cX3_write, 2, (some .boolean))
theorem okX3_write : OKV mX3_write 1 := ⟨gw_318, gw_319, gw_59, gw_320, (by decide +kernel), (by decide)⟩
def f_X3_write (x1 : Int) (M : Mem) : Option (Int × Mem) :=
  if wr (M 1 1) < 160 then
    (wt M 2 160 (M 1 1) x1).bind fun M1 =>
    (some (st M1 1 1 ((M1 1 1) + 1))).bind fun M2 =>
    some (1, M2)
  else
    some (0, M)
set_option maxRecDepth 10000 in
theorem v_X3_write_0 {E : En} {d : Nat} {Q : Po} {x1 : Int} {M : Mem} {z : Int × Mem}  (hd : 1 ≤ d) (hF : f_X3_write x1 M = some z) (hK : Q (some (vi z.1)) z.2) : V E mX3_write d 0 [(0, rf E 1), (1, vi x1)] [] M Q := by
  unfold f_X3_write at hF
  refine V.aload_n 0 0 0 rfl dX3_write_0 rfl ?_
  refine V.get (by decide) (hcX3 E _) rfl inX3 1 (by decide) rfl gw_88 dX3_write_1 ?_
  refine V.sipush 160 160 (by decide) dX3_write_4 ?_
  refine V.icmp_lt (tgt := 12) rfl wr_160 dX3_write_7 (by decide) (fun hc => ?_) (fun hc => ?_)
  · rw [if_pos hc] at hF
    refine V.aload_n 0 0 0 rfl dX3_write_12 rfl ?_
    refine V.get (by decide) (hcX3 E _) rfl inX3 0 (by decide) rfl gw_87 dX3_write_13 ?_
    refine V.aload_n 0 0 0 rfl dX3_write_16 rfl ?_
    refine V.get (by decide) (hcX3 E _) rfl inX3 1 (by decide) rfl gw_88 dX3_write_17 ?_
    refine V.iload_n 1 1 1 rfl dX3_write_20 rfl ?_
    replace hF := Option.bind_eq_some_iff.mp hF
    obtain ⟨M1, hM1, hF⟩ := hF
    refine V.iast ar_2 hM1 dX3_write_21 ?_
    refine V.aload_n 0 0 0 rfl dX3_write_22 rfl ?_
    refine V.dup rfl dX3_write_23 ?_
    refine V.get (by decide) (hcX3 E _) rfl inX3 1 (by decide) rfl gw_88 dX3_write_24 ?_
    refine V.iconst 1 dX3_write_27 ?_
    refine V.iadd dX3_write_28 ?_
    replace hF := Option.bind_eq_some_iff.mp hF
    obtain ⟨M2, hM2, hF⟩ := hF
    refine V.put (x := (M1 1 1) + 1) (ty := .int) (Option.some.inj hM2) (by decide) (hcX3 E) rfl inX3 tyX3 tyX3_ok nmX3 (by decide) rfl (by decide +kernel) rfl rfl (Nat.le_of_ble_eq_true rfl) rfl gw_88 dX3_write_29 ?_
    refine V.iconst 1 dX3_write_32 ?_
    cases Option.some.inj hF
    exact V.zret rfl (Or.inr rfl) dX3_write_33 hK
  · rw [if_neg hc] at hF
    refine V.iconst 0 dX3_write_10 ?_
    cases Option.some.inj hF
    exact V.zret rfl (Or.inl rfl) dX3_write_11 hK
theorem c_X3_write {E : En} {d : Nat} {x1 : Int} {M : Mem} {zr : Int} {zM : Mem}  (hd : 1 ≤ d) (hF : f_X3_write x1 M = some (zr, zM)) : Cn E mX3_write d [rf E 1, vi x1] M (fun v N => v = some (vi zr) ∧ zM = N) := by
  refine V.entry (by decide +kernel) (Nat.le_of_ble_eq_true rfl) ?_
  exact v_X3_write_0  hd hF ⟨rfl, rfl⟩
abbrev mX3_begin : MI := (yX3_begin, cX3_begin, 2, none)
theorem okX3_begin : OKV mX3_begin 1 := ⟨gw_330, gw_331, gw_59, gw_332, (by decide +kernel), (by decide)⟩
def f_X3_begin (q1 : Nat) (M : Mem) : Option (Mem) :=
  (some (st M 1 4 (q1 : Int))).bind fun M1 =>
  (ckX2 (M1 1 4)).bind fun c2 =>
  (f_X2_begin c2 M1).bind fun M3 =>
  (some (st M3 1 2 0)).bind fun M4 =>
  (some (st M4 1 3 0)).bind fun M5 =>
  (some (st M5 1 5 0)).bind fun M6 =>
  (some (st M6 1 8 0)).bind fun M7 =>
  some M7
set_option maxRecDepth 10000 in
theorem v_X3_begin_0 {E : En} {d : Nat} {Q : Po} {q1 : Nat} {M : Mem} {z : Mem} (hq1 : isX2 q1) (hd : 3 ≤ d) (hF : f_X3_begin q1 M = some z) (hK : Q none z) : V E mX3_begin d 0 [(0, rf E 1), (1, rf E q1)] [] M Q := by
  unfold f_X3_begin at hF
  refine V.aload_n 0 0 0 rfl dX3_begin_0 rfl ?_
  refine V.aload_n 1 1 1 rfl dX3_begin_1 rfl ?_
  replace hF := Option.bind_eq_some_iff.mp hF
  obtain ⟨M1, hM1, hF⟩ := hF
  refine V.put (x := (q1 : Int)) (ty := .object "FatLean$Court") (Option.some.inj hM1) (by decide) (hcX3 E) rfl inX3 tyX3 tyX3_ok nmX3 (by decide) rfl (by decide +kernel) rfl rfl (Nat.le_of_ble_eq_true rfl) (by rw [show Value.ref (eA E q1) = dr E (q1 : Int) from (dr_of hq1).symm]; rfl) gw_94 dX3_begin_2 ?_
  refine V.aload_n 0 0 0 rfl dX3_begin_5 rfl ?_
  replace hF := Option.bind_eq_some_iff.mp hF
  obtain ⟨c2, hc2, hF⟩ := hF
  refine V.getD hc2 (by decide) (hcX3 E _) rfl inX3 4 (by decide) rfl gw_94 dX3_begin_6 ?_
  replace hF := Option.bind_eq_some_iff.mp hF
  obtain ⟨M3, hM3, hF⟩ := hF
  refine V.callV (d' := d - 1) [] [] (c_X2_begin (ck_is hc2) (by omega) hM3) okX2_begin gw_333 rfl rfl (ltX2 (ck_is hc2)) (hcX2 (ck_is hc2) E _) rfl (Nat.le_of_ble_eq_true rfl) (by omega) dX3_begin_9 ?_
  rintro _ _ ⟨rfl, rfl⟩
  show V E mX3_begin d 12 [(0, rf E 1), (1, rf E q1)] [] M3 _
  refine V.aload_n 0 0 0 rfl dX3_begin_12 rfl ?_
  refine V.iconst 0 dX3_begin_13 ?_
  replace hF := Option.bind_eq_some_iff.mp hF
  obtain ⟨M4, hM4, hF⟩ := hF
  refine V.put (x := 0) (ty := .int) (Option.some.inj hM4) (by decide) (hcX3 E) rfl inX3 tyX3 tyX3_ok nmX3 (by decide) rfl (by decide +kernel) rfl rfl (Nat.le_of_ble_eq_true rfl) rfl gw_90 dX3_begin_14 ?_
  refine V.aload_n 0 0 0 rfl dX3_begin_17 rfl ?_
  refine V.iconst 0 dX3_begin_18 ?_
  replace hF := Option.bind_eq_some_iff.mp hF
  obtain ⟨M5, hM5, hF⟩ := hF
  refine V.put (x := 0) (ty := .int) (Option.some.inj hM5) (by decide) (hcX3 E) rfl inX3 tyX3 tyX3_ok nmX3 (by decide) rfl (by decide +kernel) rfl rfl (Nat.le_of_ble_eq_true rfl) rfl gw_92 dX3_begin_19 ?_
  refine V.aload_n 0 0 0 rfl dX3_begin_22 rfl ?_
  refine V.iconst 0 dX3_begin_23 ?_
  replace hF := Option.bind_eq_some_iff.mp hF
  obtain ⟨M6, hM6, hF⟩ := hF
  refine V.put (x := 0) (ty := .int) (Option.some.inj hM6) (by decide) (hcX3 E) rfl inX3 tyX3 tyX3_ok nmX3 (by decide) rfl (by decide +kernel) rfl rfl (Nat.le_of_ble_eq_true rfl) rfl gw_95 dX3_begin_24 ?_
  refine V.aload_n 0 0 0 rfl dX3_begin_27 rfl ?_
  refine V.iconst 0 dX3_begin_28 ?_
  replace hF := Option.bind_eq_some_iff.mp hF
  obtain ⟨M7, hM7, hF⟩ := hF
  refine V.put (x := 0) (ty := .int) (Option.some.inj hM7) (by decide) (hcX3 E) rfl inX3 tyX3 tyX3_ok nmX3 (by decide) rfl (by decide +kernel) rfl rfl (Nat.le_of_ble_eq_true rfl) rfl gw_98 dX3_begin_29 ?_
  cases Option.some.inj hF
  exact V.vret rfl dX3_begin_32 hK
theorem c_X3_begin {E : En} {d : Nat} {q1 : Nat} {M : Mem} {z : Mem} (hq1 : isX2 q1) (hd : 3 ≤ d) (hF : f_X3_begin q1 M = some z) : Cn E mX3_begin d [rf E 1, rf E q1] M (fun v N => v = none ∧ z = N) := by
  refine V.entry (by decide +kernel) (Nat.le_of_ble_eq_true rfl) ?_
  exact v_X3_begin_0 hq1 hd hF ⟨rfl, rfl⟩
abbrev mX3_isLetter : MI := (yX3_isLetter, cX3_isLetter, 1, (some .boolean))
theorem okX3_isLetter : OKS mX3_isLetter 1 := ⟨gw_343, gw_59, gw_344, (by decide +kernel), (by decide)⟩
def f_X3_isLetter (x0 : Int) (M : Mem) : Option (Int) :=
  if wr x0 < 97 then
    some 0
  else
    if 122 < wr x0 then
      some 0
    else
      some 1
set_option maxRecDepth 10000 in
theorem v_X3_isLetter_0 {E : En} {d : Nat} {Q : Po} {x0 : Int} {M : Mem} {z : Int}  (hd : 1 ≤ d) (hF : f_X3_isLetter x0 M = some z) (hK : Q (some (vi z)) M) : V E mX3_isLetter d 0 [(0, vi x0)] [] M Q := by
  unfold f_X3_isLetter at hF
  refine V.iload_n 0 0 0 rfl dX3_isLetter_0 rfl ?_
  refine V.bipush 97 97 (by decide) dX3_isLetter_1 ?_
  refine V.icmp_lt (tgt := 16) rfl wr_97 dX3_isLetter_3 (by decide) (fun hc => ?_) (fun hc => ?_)
  · rw [if_pos hc] at hF
    refine V.iconst 0 dX3_isLetter_16 ?_
    cases Option.some.inj hF
    exact V.zret rfl (Or.inl rfl) dX3_isLetter_17 hK
  · rw [if_neg hc] at hF
    refine V.iload_n 0 0 0 rfl dX3_isLetter_6 rfl ?_
    refine V.bipush 122 122 (by decide) dX3_isLetter_7 ?_
    refine V.icmp_gt (tgt := 16) rfl wr_122 dX3_isLetter_9 (by decide) (fun hc => ?_) (fun hc => ?_)
    · rw [if_pos hc] at hF
      refine V.iconst 0 dX3_isLetter_16 ?_
      cases Option.some.inj hF
      exact V.zret rfl (Or.inl rfl) dX3_isLetter_17 hK
    · rw [if_neg hc] at hF
      refine V.iconst 1 dX3_isLetter_12 ?_
      refine V.goto (tgt := 17) dX3_isLetter_13 (by decide) ?_
      cases Option.some.inj hF
      exact V.zret rfl (Or.inr rfl) dX3_isLetter_17 hK
theorem c_X3_isLetter {E : En} {d : Nat} {x0 : Int} {M : Mem} {z : Int}  (hd : 1 ≤ d) (hF : f_X3_isLetter x0 M = some z) : Cn E mX3_isLetter d [vi x0] M (fun v N => v = some (vi z) ∧ M = N) := by
  refine V.entry (by decide +kernel) (Nat.le_of_ble_eq_true rfl) ?_
  exact v_X3_isLetter_0  hd hF ⟨rfl, rfl⟩
abbrev mX3_takeWord : MI := (yX3_takeWord, cX3_takeWord, 1, none)
theorem okX3_takeWord : OKV mX3_takeWord 0 := ⟨gw_347, gw_1, gw_59, gw_348, (by decide +kernel), (by decide)⟩
def f_X3_takeWord_5 (n : Nat) (M : Mem) : Option ((Mem) ⊕ (Mem)) :=
  if wr (M 1 1) ≤ wr (M 1 8) then
    some (.inr M)
  else
    (rd M 2 160 (M 1 8)).bind fun v1 =>
    (f_X3_isLetter v1 M).bind fun v2 =>
    if wr v2 = 0 then
      some (.inr M)
    else
      (some (st M 1 8 ((M 1 8) + 1))).bind fun M3 =>
      some (.inl M3)
set_option maxRecDepth 10000 in
theorem v_X3_takeWord_5 {E : En} {d : Nat} {Q : Po} {n : Nat} {M : Mem} {z : (Mem) ⊕ (Mem)}  (hd : 2 ≤ d) (hF : f_X3_takeWord_5 n M = some z) (hC0 : ∀ s' : Mem, z = (.inl s') → V E mX3_takeWord d 5 [(0, rf E 1)] [] s' Q) (hX : ∀ z0 : Mem, z = (.inr z0) → Q none z0) : V E mX3_takeWord d 5 [(0, rf E 1)] [] M Q := by
  unfold f_X3_takeWord_5 at hF
  refine V.aload_n 0 0 0 rfl dX3_takeWord_5 rfl ?_
  refine V.get (by decide) (hcX3 E _) rfl inX3 8 (by decide) rfl gw_98 dX3_takeWord_6 ?_
  refine V.aload_n 0 0 0 rfl dX3_takeWord_9 rfl ?_
  refine V.get (by decide) (hcX3 E _) rfl inX3 1 (by decide) rfl gw_88 dX3_takeWord_10 ?_
  refine V.icmp_ge (tgt := 44) rfl rfl dX3_takeWord_13 (by decide) (fun hc => ?_) (fun hc => ?_)
  · rw [if_pos hc] at hF
    cases Option.some.inj hF
    exact V.vret rfl dX3_takeWord_44 (hX _ rfl)
  · rw [if_neg hc] at hF
    refine V.aload_n 0 0 0 rfl dX3_takeWord_16 rfl ?_
    refine V.get (by decide) (hcX3 E _) rfl inX3 0 (by decide) rfl gw_87 dX3_takeWord_17 ?_
    refine V.aload_n 0 0 0 rfl dX3_takeWord_20 rfl ?_
    refine V.get (by decide) (hcX3 E _) rfl inX3 8 (by decide) rfl gw_98 dX3_takeWord_21 ?_
    replace hF := Option.bind_eq_some_iff.mp hF
    obtain ⟨v1, hv1, hF⟩ := hF
    refine V.iald ar_2 hv1 dX3_takeWord_24 ?_
    replace hF := Option.bind_eq_some_iff.mp hF
    obtain ⟨v2, hv2, hF⟩ := hF
    refine V.callS (d' := d - 1) [vi v1] [] (c_X3_isLetter (by omega) hv2) okX3_isLetter gw_342 rfl rfl (Nat.le_of_ble_eq_true rfl) (by omega) dX3_takeWord_25 ?_
    rintro _ _ ⟨rfl, rfl⟩
    show V E mX3_takeWord d 28 [(0, rf E 1)] [vi v2] M _
    refine V.if_eq (tgt := 44) rfl dX3_takeWord_28 (by decide) (fun hc => ?_) (fun hc => ?_)
    · rw [if_pos hc] at hF
      cases Option.some.inj hF
      exact V.vret rfl dX3_takeWord_44 (hX _ rfl)
    · rw [if_neg hc] at hF
      refine V.aload_n 0 0 0 rfl dX3_takeWord_31 rfl ?_
      refine V.dup rfl dX3_takeWord_32 ?_
      refine V.get (by decide) (hcX3 E _) rfl inX3 8 (by decide) rfl gw_98 dX3_takeWord_33 ?_
      refine V.iconst 1 dX3_takeWord_36 ?_
      refine V.iadd dX3_takeWord_37 ?_
      replace hF := Option.bind_eq_some_iff.mp hF
      obtain ⟨M3, hM3, hF⟩ := hF
      refine V.put (x := (M 1 8) + 1) (ty := .int) (Option.some.inj hM3) (by decide) (hcX3 E) rfl inX3 tyX3 tyX3_ok nmX3 (by decide) rfl (by decide +kernel) rfl rfl (Nat.le_of_ble_eq_true rfl) rfl gw_98 dX3_takeWord_38 ?_
      refine V.goto (tgt := 5) dX3_takeWord_41 (by decide) ?_
      cases Option.some.inj hF
      exact hC0 _ rfl
theorem l_X3_takeWord_5 {E : En} {d : Nat} {Q : Po} {n : Nat} {k : Nat} {s : Mem} {z : Mem}  (hd : 2 ≤ d) (hF : lp (fun s => f_X3_takeWord_5 n s) k s = some z) (hK : Q none z) : V E mX3_takeWord d 5 [(0, rf E 1)] [] s Q := by
  refine lp_ind (P := fun s => V E mX3_takeWord d 5 [(0, rf E 1)] [] s Q) (z0 := z) ?_ k s hF
  intro s z' hF hc hx
  exact v_X3_takeWord_5 hd hF (fun s' e => hc s' e) (fun z0 e => by rw [hx _ e]; exact hK)
def f_X3_takeWord (n : Nat) (M : Mem) : Option (Mem) :=
  (some (st M 1 6 0)).bind fun M1 =>
  lp (fun s => f_X3_takeWord_5 n s) n M1
set_option maxRecDepth 10000 in
theorem v_X3_takeWord_0 {E : En} {d : Nat} {Q : Po} {n : Nat} {M : Mem} {z : Mem}  (hd : 2 ≤ d) (hF : f_X3_takeWord n M = some z) (hK : Q none z) : V E mX3_takeWord d 0 [(0, rf E 1)] [] M Q := by
  unfold f_X3_takeWord at hF
  refine V.aload_n 0 0 0 rfl dX3_takeWord_0 rfl ?_
  refine V.iconst 0 dX3_takeWord_1 ?_
  replace hF := Option.bind_eq_some_iff.mp hF
  obtain ⟨M1, hM1, hF⟩ := hF
  refine V.put (x := 0) (ty := .int) (Option.some.inj hM1) (by decide) (hcX3 E) rfl inX3 tyX3 tyX3_ok nmX3 (by decide) rfl (by decide +kernel) rfl rfl (Nat.le_of_ble_eq_true rfl) rfl gw_96 dX3_takeWord_2 ?_
  exact l_X3_takeWord_5 hd hF hK
theorem c_X3_takeWord {E : En} {d : Nat} {n : Nat} {M : Mem} {z : Mem}  (hd : 2 ≤ d) (hF : f_X3_takeWord n M = some z) : Cn E mX3_takeWord d [rf E 1] M (fun v N => v = none ∧ z = N) := by
  refine V.entry (by decide +kernel) (Nat.le_of_ble_eq_true rfl) ?_
  exact v_X3_takeWord_0  hd hF ⟨rfl, rfl⟩
abbrev mX3_isFigure : MI := (yX3_isFigure, cX3_isFigure, 1, (some .boolean))
theorem okX3_isFigure : OKS mX3_isFigure 1 := ⟨gw_350, gw_59, gw_351, (by decide +kernel), (by decide)⟩
def f_X3_isFigure (x0 : Int) (M : Mem) : Option (Int) :=
  if wr x0 < 48 then
    some 0
  else
    if 57 < wr x0 then
      some 0
    else
      some 1
set_option maxRecDepth 10000 in
theorem v_X3_isFigure_0 {E : En} {d : Nat} {Q : Po} {x0 : Int} {M : Mem} {z : Int}  (hd : 1 ≤ d) (hF : f_X3_isFigure x0 M = some z) (hK : Q (some (vi z)) M) : V E mX3_isFigure d 0 [(0, vi x0)] [] M Q := by
  unfold f_X3_isFigure at hF
  refine V.iload_n 0 0 0 rfl dX3_isFigure_0 rfl ?_
  refine V.bipush 48 48 (by decide) dX3_isFigure_1 ?_
  refine V.icmp_lt (tgt := 16) rfl wr_48 dX3_isFigure_3 (by decide) (fun hc => ?_) (fun hc => ?_)
  · rw [if_pos hc] at hF
    refine V.iconst 0 dX3_isFigure_16 ?_
    cases Option.some.inj hF
    exact V.zret rfl (Or.inl rfl) dX3_isFigure_17 hK
  · rw [if_neg hc] at hF
    refine V.iload_n 0 0 0 rfl dX3_isFigure_6 rfl ?_
    refine V.bipush 57 57 (by decide) dX3_isFigure_7 ?_
    refine V.icmp_gt (tgt := 16) rfl wr_57 dX3_isFigure_9 (by decide) (fun hc => ?_) (fun hc => ?_)
    · rw [if_pos hc] at hF
      refine V.iconst 0 dX3_isFigure_16 ?_
      cases Option.some.inj hF
      exact V.zret rfl (Or.inl rfl) dX3_isFigure_17 hK
    · rw [if_neg hc] at hF
      refine V.iconst 1 dX3_isFigure_12 ?_
      refine V.goto (tgt := 17) dX3_isFigure_13 (by decide) ?_
      cases Option.some.inj hF
      exact V.zret rfl (Or.inr rfl) dX3_isFigure_17 hK
theorem c_X3_isFigure {E : En} {d : Nat} {x0 : Int} {M : Mem} {z : Int}  (hd : 1 ≤ d) (hF : f_X3_isFigure x0 M = some z) : Cn E mX3_isFigure d [vi x0] M (fun v N => v = some (vi z) ∧ M = N) := by
  refine V.entry (by decide +kernel) (Nat.le_of_ble_eq_true rfl) ?_
  exact v_X3_isFigure_0  hd hF ⟨rfl, rfl⟩
abbrev mX3_fail : MI := (yX3_fail, cX3_fail, 2, none)
theorem okX3_fail : OKV mX3_fail 1 := ⟨gw_358, gw_3, gw_59, gw_359, (by decide +kernel), (by decide)⟩
def f_X3_fail (x1 : Int) (M : Mem) : Option (Mem) :=
  if wr (M 1 2) = 0 then
    (some (st M 1 2 x1)).bind fun M1 =>
    (some (st M1 1 3 (M1 1 7))).bind fun M2 =>
    some M2
  else
    some M
set_option maxRecDepth 10000 in
theorem v_X3_fail_0 {E : En} {d : Nat} {Q : Po} {x1 : Int} {M : Mem} {z : Mem}  (hd : 1 ≤ d) (hF : f_X3_fail x1 M = some z) (hK : Q none z) : V E mX3_fail d 0 [(0, rf E 1), (1, vi x1)] [] M Q := by
  unfold f_X3_fail at hF
  refine V.aload_n 0 0 0 rfl dX3_fail_0 rfl ?_
  refine V.get (by decide) (hcX3 E _) rfl inX3 2 (by decide) rfl gw_90 dX3_fail_1 ?_
  refine V.if_ne (tgt := 20) rfl dX3_fail_4 (by decide) (fun hc => ?_) (fun hc => ?_)
  · rw [if_neg hc] at hF
    cases Option.some.inj hF
    exact V.vret rfl dX3_fail_20 hK
  · rw [if_pos hc] at hF
    refine V.aload_n 0 0 0 rfl dX3_fail_7 rfl ?_
    refine V.iload_n 1 1 1 rfl dX3_fail_8 rfl ?_
    replace hF := Option.bind_eq_some_iff.mp hF
    obtain ⟨M1, hM1, hF⟩ := hF
    refine V.put (x := x1) (ty := .int) (Option.some.inj hM1) (by decide) (hcX3 E) rfl inX3 tyX3 tyX3_ok nmX3 (by decide) rfl (by decide +kernel) rfl rfl (Nat.le_of_ble_eq_true rfl) rfl gw_90 dX3_fail_9 ?_
    refine V.aload_n 0 0 0 rfl dX3_fail_12 rfl ?_
    refine V.aload_n 0 0 0 rfl dX3_fail_13 rfl ?_
    refine V.get (by decide) (hcX3 E _) rfl inX3 7 (by decide) rfl gw_97 dX3_fail_14 ?_
    replace hF := Option.bind_eq_some_iff.mp hF
    obtain ⟨M2, hM2, hF⟩ := hF
    refine V.put (x := M1 1 7) (ty := .int) (Option.some.inj hM2) (by decide) (hcX3 E) rfl inX3 tyX3 tyX3_ok nmX3 (by decide) rfl (by decide +kernel) rfl rfl (Nat.le_of_ble_eq_true rfl) rfl gw_92 dX3_fail_17 ?_
    cases Option.some.inj hF
    exact V.vret rfl dX3_fail_20 hK
theorem c_X3_fail {E : En} {d : Nat} {x1 : Int} {M : Mem} {z : Mem}  (hd : 1 ≤ d) (hF : f_X3_fail x1 M = some z) : Cn E mX3_fail d [rf E 1, vi x1] M (fun v N => v = none ∧ z = N) := by
  refine V.entry (by decide +kernel) (Nat.le_of_ble_eq_true rfl) ?_
  exact v_X3_fail_0  hd hF ⟨rfl, rfl⟩
abbrev mX3_takeNumber : MI := (yX3_takeNumber, cX3_takeNumber, 1, none)
theorem okX3_takeNumber : OKV mX3_takeNumber 0 := ⟨gw_354, gw_2, gw_59, gw_355, (by decide +kernel), (by decide)⟩
def f_X3_takeNumber_86 (n : Nat) (M : Mem) : Option (Mem) :=
  if wr ((M 1 8) - (M 1 7)) ≤ 2 then
    some M
  else
    (f_X3_fail 1 M).bind fun M1 =>
    some M1
set_option maxRecDepth 10000 in
theorem v_X3_takeNumber_86 {E : En} {d : Nat} {Q : Po} {n : Nat} {M : Mem} {z : Mem}  (hd : 2 ≤ d) (hF : f_X3_takeNumber_86 n M = some z) (hK : Q none z) : V E mX3_takeNumber d 86 [(0, rf E 1)] [] M Q := by
  unfold f_X3_takeNumber_86 at hF
  refine V.aload_n 0 0 0 rfl dX3_takeNumber_86 rfl ?_
  refine V.get (by decide) (hcX3 E _) rfl inX3 8 (by decide) rfl gw_98 dX3_takeNumber_87 ?_
  refine V.aload_n 0 0 0 rfl dX3_takeNumber_90 rfl ?_
  refine V.get (by decide) (hcX3 E _) rfl inX3 7 (by decide) rfl gw_97 dX3_takeNumber_91 ?_
  refine V.isub dX3_takeNumber_94 ?_
  refine V.iconst 2 dX3_takeNumber_95 ?_
  refine V.icmp_le (tgt := 104) rfl wr_2 dX3_takeNumber_96 (by decide) (fun hc => ?_) (fun hc => ?_)
  · rw [if_pos hc] at hF
    cases Option.some.inj hF
    exact V.vret rfl dX3_takeNumber_104 hK
  · rw [if_neg hc] at hF
    refine V.aload_n 0 0 0 rfl dX3_takeNumber_99 rfl ?_
    refine V.iconst 1 dX3_takeNumber_100 ?_
    replace hF := Option.bind_eq_some_iff.mp hF
    obtain ⟨M1, hM1, hF⟩ := hF
    refine V.callV (d' := d - 1) [vi 1] [] (c_X3_fail (by omega) hM1) okX3_fail gw_356 rfl rfl (by decide) (hcX3 E _) rfl (Nat.le_of_ble_eq_true rfl) (by omega) dX3_takeNumber_101 ?_
    rintro _ _ ⟨rfl, rfl⟩
    show V E mX3_takeNumber d 104 [(0, rf E 1)] [] M1 _
    cases Option.some.inj hF
    exact V.vret rfl dX3_takeNumber_104 hK
def f_X3_takeNumber_10 (n : Nat) (M : Mem) : Option ((Mem) ⊕ (Mem)) :=
  if wr (M 1 1) ≤ wr (M 1 8) then
    (f_X3_takeNumber_86 n M).map Sum.inr
  else
    if 2 < wr ((M 1 8) - (M 1 7)) then
      (f_X3_takeNumber_86 n M).map Sum.inr
    else
      (rd M 2 160 (M 1 8)).bind fun v1 =>
      (f_X3_isFigure v1 M).bind fun v2 =>
      if wr v2 = 0 then
        (f_X3_takeNumber_86 n M).map Sum.inr
      else
        (rd M 2 160 (M 1 8)).bind fun v3 =>
        (some (st M 1 9 ((((M 1 9) * 10) + v3) - 48))).bind fun M4 =>
        (some (st M4 1 8 ((M4 1 8) + 1))).bind fun M5 =>
        some (.inl M5)
set_option maxRecDepth 10000 in
theorem v_X3_takeNumber_10 {E : En} {d : Nat} {Q : Po} {n : Nat} {M : Mem} {z : (Mem) ⊕ (Mem)}  (hd : 2 ≤ d) (hF : f_X3_takeNumber_10 n M = some z) (hC0 : ∀ s' : Mem, z = (.inl s') → V E mX3_takeNumber d 10 [(0, rf E 1)] [] s' Q) (hX : ∀ z0 : Mem, z = (.inr z0) → Q none z0) : V E mX3_takeNumber d 10 [(0, rf E 1)] [] M Q := by
  unfold f_X3_takeNumber_10 at hF
  refine V.aload_n 0 0 0 rfl dX3_takeNumber_10 rfl ?_
  refine V.get (by decide) (hcX3 E _) rfl inX3 8 (by decide) rfl gw_98 dX3_takeNumber_11 ?_
  refine V.aload_n 0 0 0 rfl dX3_takeNumber_14 rfl ?_
  refine V.get (by decide) (hcX3 E _) rfl inX3 1 (by decide) rfl gw_88 dX3_takeNumber_15 ?_
  refine V.icmp_ge (tgt := 86) rfl rfl dX3_takeNumber_18 (by decide) (fun hc => ?_) (fun hc => ?_)
  · rw [if_pos hc] at hF
    replace hF := Option.map_eq_some_iff.mp hF
    obtain ⟨z0, hF, rfl⟩ := hF
    exact v_X3_takeNumber_86 hd hF (hX _ rfl)
  · rw [if_neg hc] at hF
    refine V.aload_n 0 0 0 rfl dX3_takeNumber_21 rfl ?_
    refine V.get (by decide) (hcX3 E _) rfl inX3 8 (by decide) rfl gw_98 dX3_takeNumber_22 ?_
    refine V.aload_n 0 0 0 rfl dX3_takeNumber_25 rfl ?_
    refine V.get (by decide) (hcX3 E _) rfl inX3 7 (by decide) rfl gw_97 dX3_takeNumber_26 ?_
    refine V.isub dX3_takeNumber_29 ?_
    refine V.iconst 2 dX3_takeNumber_30 ?_
    refine V.icmp_gt (tgt := 86) rfl wr_2 dX3_takeNumber_31 (by decide) (fun hc => ?_) (fun hc => ?_)
    · rw [if_pos hc] at hF
      replace hF := Option.map_eq_some_iff.mp hF
      obtain ⟨z0, hF, rfl⟩ := hF
      exact v_X3_takeNumber_86 hd hF (hX _ rfl)
    · rw [if_neg hc] at hF
      refine V.aload_n 0 0 0 rfl dX3_takeNumber_34 rfl ?_
      refine V.get (by decide) (hcX3 E _) rfl inX3 0 (by decide) rfl gw_87 dX3_takeNumber_35 ?_
      refine V.aload_n 0 0 0 rfl dX3_takeNumber_38 rfl ?_
      refine V.get (by decide) (hcX3 E _) rfl inX3 8 (by decide) rfl gw_98 dX3_takeNumber_39 ?_
      replace hF := Option.bind_eq_some_iff.mp hF
      obtain ⟨v1, hv1, hF⟩ := hF
      refine V.iald ar_2 hv1 dX3_takeNumber_42 ?_
      replace hF := Option.bind_eq_some_iff.mp hF
      obtain ⟨v2, hv2, hF⟩ := hF
      refine V.callS (d' := d - 1) [vi v1] [] (c_X3_isFigure (by omega) hv2) okX3_isFigure gw_349 rfl rfl (Nat.le_of_ble_eq_true rfl) (by omega) dX3_takeNumber_43 ?_
      rintro _ _ ⟨rfl, rfl⟩
      show V E mX3_takeNumber d 46 [(0, rf E 1)] [vi v2] M _
      refine V.if_eq (tgt := 86) rfl dX3_takeNumber_46 (by decide) (fun hc => ?_) (fun hc => ?_)
      · rw [if_pos hc] at hF
        replace hF := Option.map_eq_some_iff.mp hF
        obtain ⟨z0, hF, rfl⟩ := hF
        exact v_X3_takeNumber_86 hd hF (hX _ rfl)
      · rw [if_neg hc] at hF
        refine V.aload_n 0 0 0 rfl dX3_takeNumber_49 rfl ?_
        refine V.aload_n 0 0 0 rfl dX3_takeNumber_50 rfl ?_
        refine V.get (by decide) (hcX3 E _) rfl inX3 9 (by decide) rfl gw_99 dX3_takeNumber_51 ?_
        refine V.bipush 10 10 (by decide) dX3_takeNumber_54 ?_
        refine V.imul dX3_takeNumber_56 ?_
        refine V.aload_n 0 0 0 rfl dX3_takeNumber_57 rfl ?_
        refine V.get (by decide) (hcX3 E _) rfl inX3 0 (by decide) rfl gw_87 dX3_takeNumber_58 ?_
        refine V.aload_n 0 0 0 rfl dX3_takeNumber_61 rfl ?_
        refine V.get (by decide) (hcX3 E _) rfl inX3 8 (by decide) rfl gw_98 dX3_takeNumber_62 ?_
        replace hF := Option.bind_eq_some_iff.mp hF
        obtain ⟨v3, hv3, hF⟩ := hF
        refine V.iald ar_2 hv3 dX3_takeNumber_65 ?_
        refine V.iadd dX3_takeNumber_66 ?_
        refine V.bipush 48 48 (by decide) dX3_takeNumber_67 ?_
        refine V.isub dX3_takeNumber_69 ?_
        replace hF := Option.bind_eq_some_iff.mp hF
        obtain ⟨M4, hM4, hF⟩ := hF
        refine V.put (x := (((M 1 9) * 10) + v3) - 48) (ty := .int) (Option.some.inj hM4) (by decide) (hcX3 E) rfl inX3 tyX3 tyX3_ok nmX3 (by decide) rfl (by decide +kernel) rfl rfl (Nat.le_of_ble_eq_true rfl) rfl gw_99 dX3_takeNumber_70 ?_
        refine V.aload_n 0 0 0 rfl dX3_takeNumber_73 rfl ?_
        refine V.dup rfl dX3_takeNumber_74 ?_
        refine V.get (by decide) (hcX3 E _) rfl inX3 8 (by decide) rfl gw_98 dX3_takeNumber_75 ?_
        refine V.iconst 1 dX3_takeNumber_78 ?_
        refine V.iadd dX3_takeNumber_79 ?_
        replace hF := Option.bind_eq_some_iff.mp hF
        obtain ⟨M5, hM5, hF⟩ := hF
        refine V.put (x := (M4 1 8) + 1) (ty := .int) (Option.some.inj hM5) (by decide) (hcX3 E) rfl inX3 tyX3 tyX3_ok nmX3 (by decide) rfl (by decide +kernel) rfl rfl (Nat.le_of_ble_eq_true rfl) rfl gw_98 dX3_takeNumber_80 ?_
        refine V.goto (tgt := 10) dX3_takeNumber_83 (by decide) ?_
        cases Option.some.inj hF
        exact hC0 _ rfl
theorem l_X3_takeNumber_10 {E : En} {d : Nat} {Q : Po} {n : Nat} {k : Nat} {s : Mem} {z : Mem}  (hd : 2 ≤ d) (hF : lp (fun s => f_X3_takeNumber_10 n s) k s = some z) (hK : Q none z) : V E mX3_takeNumber d 10 [(0, rf E 1)] [] s Q := by
  refine lp_ind (P := fun s => V E mX3_takeNumber d 10 [(0, rf E 1)] [] s Q) (z0 := z) ?_ k s hF
  intro s z' hF hc hx
  exact v_X3_takeNumber_10 hd hF (fun s' e => hc s' e) (fun z0 e => by rw [hx _ e]; exact hK)
def f_X3_takeNumber (n : Nat) (M : Mem) : Option (Mem) :=
  (some (st M 1 6 1)).bind fun M1 =>
  (some (st M1 1 9 0)).bind fun M2 =>
  lp (fun s => f_X3_takeNumber_10 n s) n M2
set_option maxRecDepth 10000 in
theorem v_X3_takeNumber_0 {E : En} {d : Nat} {Q : Po} {n : Nat} {M : Mem} {z : Mem}  (hd : 2 ≤ d) (hF : f_X3_takeNumber n M = some z) (hK : Q none z) : V E mX3_takeNumber d 0 [(0, rf E 1)] [] M Q := by
  unfold f_X3_takeNumber at hF
  refine V.aload_n 0 0 0 rfl dX3_takeNumber_0 rfl ?_
  refine V.iconst 1 dX3_takeNumber_1 ?_
  replace hF := Option.bind_eq_some_iff.mp hF
  obtain ⟨M1, hM1, hF⟩ := hF
  refine V.put (x := 1) (ty := .int) (Option.some.inj hM1) (by decide) (hcX3 E) rfl inX3 tyX3 tyX3_ok nmX3 (by decide) rfl (by decide +kernel) rfl rfl (Nat.le_of_ble_eq_true rfl) rfl gw_96 dX3_takeNumber_2 ?_
  refine V.aload_n 0 0 0 rfl dX3_takeNumber_5 rfl ?_
  refine V.iconst 0 dX3_takeNumber_6 ?_
  replace hF := Option.bind_eq_some_iff.mp hF
  obtain ⟨M2, hM2, hF⟩ := hF
  refine V.put (x := 0) (ty := .int) (Option.some.inj hM2) (by decide) (hcX3 E) rfl inX3 tyX3 tyX3_ok nmX3 (by decide) rfl (by decide +kernel) rfl rfl (Nat.le_of_ble_eq_true rfl) rfl gw_99 dX3_takeNumber_7 ?_
  exact l_X3_takeNumber_10 hd hF hK
theorem c_X3_takeNumber {E : En} {d : Nat} {n : Nat} {M : Mem} {z : Mem}  (hd : 2 ≤ d) (hF : f_X3_takeNumber n M = some z) : Cn E mX3_takeNumber d [rf E 1] M (fun v N => v = none ∧ z = N) := by
  refine V.entry (by decide +kernel) (Nat.le_of_ble_eq_true rfl) ?_
  exact v_X3_takeNumber_0  hd hF ⟨rfl, rfl⟩
abbrev mX3_take : MI := (yX3_take, cX3_take, 1, none)
theorem okX3_take : OKV mX3_take 0 := ⟨gw_340, gw_0, gw_59, gw_341, (by decide +kernel), (by decide)⟩
def f_X3_take_46 (n : Nat) (M : Mem) : Option (Mem) :=
  (some (st M 1 7 (M 1 8))).bind fun M1 =>
  if wr (M1 1 8) < wr (M1 1 1) then
    (rd M1 2 160 (M1 1 8)).bind fun v2 =>
    if wr v2 = 59 then
      (some (st M1 1 6 2)).bind fun M10 =>
      (some (st M10 1 8 ((M10 1 8) + 1))).bind fun M11 =>
      some M11
    else
      (rd M1 2 160 (M1 1 8)).bind fun v3 =>
      (f_X3_isLetter v3 M1).bind fun v4 =>
      if wr v4 = 0 then
        (rd M1 2 160 (M1 1 8)).bind fun v5 =>
        (f_X3_isFigure v5 M1).bind fun v6 =>
        if wr v6 = 0 then
          (f_X3_fail 1 M1).bind fun M7 =>
          some M7
        else
          (f_X3_takeNumber n M1).bind fun M8 =>
          some M8
      else
        (f_X3_takeWord n M1).bind fun M9 =>
        some M9
  else
    (some (st M1 1 6 3)).bind fun M12 =>
    some M12
set_option maxRecDepth 10000 in
theorem v_X3_take_46 {E : En} {d : Nat} {Q : Po} {n : Nat} {M : Mem} {z : Mem}  (hd : 3 ≤ d) (hF : f_X3_take_46 n M = some z) (hK : Q none z) : V E mX3_take d 46 [(0, rf E 1)] [] M Q := by
  unfold f_X3_take_46 at hF
  refine V.aload_n 0 0 0 rfl dX3_take_46 rfl ?_
  refine V.aload_n 0 0 0 rfl dX3_take_47 rfl ?_
  refine V.get (by decide) (hcX3 E _) rfl inX3 8 (by decide) rfl gw_98 dX3_take_48 ?_
  replace hF := Option.bind_eq_some_iff.mp hF
  obtain ⟨M1, hM1, hF⟩ := hF
  refine V.put (x := M 1 8) (ty := .int) (Option.some.inj hM1) (by decide) (hcX3 E) rfl inX3 tyX3 tyX3_ok nmX3 (by decide) rfl (by decide +kernel) rfl rfl (Nat.le_of_ble_eq_true rfl) rfl gw_97 dX3_take_51 ?_
  refine V.aload_n 0 0 0 rfl dX3_take_54 rfl ?_
  refine V.get (by decide) (hcX3 E _) rfl inX3 8 (by decide) rfl gw_98 dX3_take_55 ?_
  refine V.aload_n 0 0 0 rfl dX3_take_58 rfl ?_
  refine V.get (by decide) (hcX3 E _) rfl inX3 1 (by decide) rfl gw_88 dX3_take_59 ?_
  refine V.icmp_lt (tgt := 73) rfl rfl dX3_take_62 (by decide) (fun hc => ?_) (fun hc => ?_)
  · rw [if_pos hc] at hF
    refine V.aload_n 0 0 0 rfl dX3_take_73 rfl ?_
    refine V.get (by decide) (hcX3 E _) rfl inX3 0 (by decide) rfl gw_87 dX3_take_74 ?_
    refine V.aload_n 0 0 0 rfl dX3_take_77 rfl ?_
    refine V.get (by decide) (hcX3 E _) rfl inX3 8 (by decide) rfl gw_98 dX3_take_78 ?_
    replace hF := Option.bind_eq_some_iff.mp hF
    obtain ⟨v2, hv2, hF⟩ := hF
    refine V.iald ar_2 hv2 dX3_take_81 ?_
    refine V.bipush 59 59 (by decide) dX3_take_82 ?_
    refine V.icmp_ne (tgt := 105) rfl wr_59 dX3_take_84 (by decide) (fun hc => ?_) (fun hc => ?_)
    · rw [if_neg hc] at hF
      refine V.aload_n 0 0 0 rfl dX3_take_105 rfl ?_
      refine V.get (by decide) (hcX3 E _) rfl inX3 0 (by decide) rfl gw_87 dX3_take_106 ?_
      refine V.aload_n 0 0 0 rfl dX3_take_109 rfl ?_
      refine V.get (by decide) (hcX3 E _) rfl inX3 8 (by decide) rfl gw_98 dX3_take_110 ?_
      replace hF := Option.bind_eq_some_iff.mp hF
      obtain ⟨v3, hv3, hF⟩ := hF
      refine V.iald ar_2 hv3 dX3_take_113 ?_
      replace hF := Option.bind_eq_some_iff.mp hF
      obtain ⟨v4, hv4, hF⟩ := hF
      refine V.callS (d' := d - 1) [vi v3] [] (c_X3_isLetter (by omega) hv4) okX3_isLetter gw_342 rfl rfl (Nat.le_of_ble_eq_true rfl) (by omega) dX3_take_114 ?_
      rintro _ _ ⟨rfl, rfl⟩
      show V E mX3_take d 117 [(0, rf E 1)] [vi v4] M1 _
      refine V.if_eq (tgt := 127) rfl dX3_take_117 (by decide) (fun hc => ?_) (fun hc => ?_)
      · rw [if_pos hc] at hF
        refine V.aload_n 0 0 0 rfl dX3_take_127 rfl ?_
        refine V.get (by decide) (hcX3 E _) rfl inX3 0 (by decide) rfl gw_87 dX3_take_128 ?_
        refine V.aload_n 0 0 0 rfl dX3_take_131 rfl ?_
        refine V.get (by decide) (hcX3 E _) rfl inX3 8 (by decide) rfl gw_98 dX3_take_132 ?_
        replace hF := Option.bind_eq_some_iff.mp hF
        obtain ⟨v5, hv5, hF⟩ := hF
        refine V.iald ar_2 hv5 dX3_take_135 ?_
        replace hF := Option.bind_eq_some_iff.mp hF
        obtain ⟨v6, hv6, hF⟩ := hF
        refine V.callS (d' := d - 1) [vi v5] [] (c_X3_isFigure (by omega) hv6) okX3_isFigure gw_349 rfl rfl (Nat.le_of_ble_eq_true rfl) (by omega) dX3_take_136 ?_
        rintro _ _ ⟨rfl, rfl⟩
        show V E mX3_take d 139 [(0, rf E 1)] [vi v6] M1 _
        refine V.if_eq (tgt := 149) rfl dX3_take_139 (by decide) (fun hc => ?_) (fun hc => ?_)
        · rw [if_pos hc] at hF
          refine V.aload_n 0 0 0 rfl dX3_take_149 rfl ?_
          refine V.iconst 1 dX3_take_150 ?_
          replace hF := Option.bind_eq_some_iff.mp hF
          obtain ⟨M7, hM7, hF⟩ := hF
          refine V.callV (d' := d - 1) [vi 1] [] (c_X3_fail (by omega) hM7) okX3_fail gw_356 rfl rfl (by decide) (hcX3 E _) rfl (Nat.le_of_ble_eq_true rfl) (by omega) dX3_take_151 ?_
          rintro _ _ ⟨rfl, rfl⟩
          show V E mX3_take d 154 [(0, rf E 1)] [] M7 _
          cases Option.some.inj hF
          exact V.vret rfl dX3_take_154 hK
        · rw [if_neg hc] at hF
          refine V.aload_n 0 0 0 rfl dX3_take_142 rfl ?_
          replace hF := Option.bind_eq_some_iff.mp hF
          obtain ⟨M8, hM8, hF⟩ := hF
          refine V.callV (d' := d - 1) [] [] (c_X3_takeNumber (by omega) hM8) okX3_takeNumber gw_352 rfl rfl (by decide) (hcX3 E _) rfl (Nat.le_of_ble_eq_true rfl) (by omega) dX3_take_143 ?_
          rintro _ _ ⟨rfl, rfl⟩
          show V E mX3_take d 146 [(0, rf E 1)] [] M8 _
          refine V.goto (tgt := 154) dX3_take_146 (by decide) ?_
          cases Option.some.inj hF
          exact V.vret rfl dX3_take_154 hK
      · rw [if_neg hc] at hF
        refine V.aload_n 0 0 0 rfl dX3_take_120 rfl ?_
        replace hF := Option.bind_eq_some_iff.mp hF
        obtain ⟨M9, hM9, hF⟩ := hF
        refine V.callV (d' := d - 1) [] [] (c_X3_takeWord (by omega) hM9) okX3_takeWord gw_345 rfl rfl (by decide) (hcX3 E _) rfl (Nat.le_of_ble_eq_true rfl) (by omega) dX3_take_121 ?_
        rintro _ _ ⟨rfl, rfl⟩
        show V E mX3_take d 124 [(0, rf E 1)] [] M9 _
        refine V.goto (tgt := 154) dX3_take_124 (by decide) ?_
        cases Option.some.inj hF
        exact V.vret rfl dX3_take_154 hK
    · rw [if_pos hc] at hF
      refine V.aload_n 0 0 0 rfl dX3_take_87 rfl ?_
      refine V.iconst 2 dX3_take_88 ?_
      replace hF := Option.bind_eq_some_iff.mp hF
      obtain ⟨M10, hM10, hF⟩ := hF
      refine V.put (x := 2) (ty := .int) (Option.some.inj hM10) (by decide) (hcX3 E) rfl inX3 tyX3 tyX3_ok nmX3 (by decide) rfl (by decide +kernel) rfl rfl (Nat.le_of_ble_eq_true rfl) rfl gw_96 dX3_take_89 ?_
      refine V.aload_n 0 0 0 rfl dX3_take_92 rfl ?_
      refine V.dup rfl dX3_take_93 ?_
      refine V.get (by decide) (hcX3 E _) rfl inX3 8 (by decide) rfl gw_98 dX3_take_94 ?_
      refine V.iconst 1 dX3_take_97 ?_
      refine V.iadd dX3_take_98 ?_
      replace hF := Option.bind_eq_some_iff.mp hF
      obtain ⟨M11, hM11, hF⟩ := hF
      refine V.put (x := (M10 1 8) + 1) (ty := .int) (Option.some.inj hM11) (by decide) (hcX3 E) rfl inX3 tyX3 tyX3_ok nmX3 (by decide) rfl (by decide +kernel) rfl rfl (Nat.le_of_ble_eq_true rfl) rfl gw_98 dX3_take_99 ?_
      refine V.goto (tgt := 154) dX3_take_102 (by decide) ?_
      cases Option.some.inj hF
      exact V.vret rfl dX3_take_154 hK
  · rw [if_neg hc] at hF
    refine V.aload_n 0 0 0 rfl dX3_take_65 rfl ?_
    refine V.iconst 3 dX3_take_66 ?_
    replace hF := Option.bind_eq_some_iff.mp hF
    obtain ⟨M12, hM12, hF⟩ := hF
    refine V.put (x := 3) (ty := .int) (Option.some.inj hM12) (by decide) (hcX3 E) rfl inX3 tyX3 tyX3_ok nmX3 (by decide) rfl (by decide +kernel) rfl rfl (Nat.le_of_ble_eq_true rfl) rfl gw_96 dX3_take_67 ?_
    refine V.goto (tgt := 154) dX3_take_70 (by decide) ?_
    cases Option.some.inj hF
    exact V.vret rfl dX3_take_154 hK
def f_X3_take_8 (n : Nat) (M : Mem) : Option ((Mem) ⊕ (Mem)) :=
  if wr (M 1 1) ≤ wr (M 1 8) then
    (f_X3_take_46 n M).map Sum.inr
  else
    (rd M 2 160 (M 1 8)).bind fun v1 =>
    if wr v1 = 32 then
      (some (st M 1 8 ((M 1 8) + 1))).bind fun M2 =>
      some (.inl M2)
    else
      (f_X3_take_46 n M).map Sum.inr
set_option maxRecDepth 10000 in
theorem v_X3_take_8 {E : En} {d : Nat} {Q : Po} {n : Nat} {M : Mem} {z : (Mem) ⊕ (Mem)}  (hd : 3 ≤ d) (hF : f_X3_take_8 n M = some z) (hC0 : ∀ s' : Mem, z = (.inl s') → V E mX3_take d 8 [(0, rf E 1)] [] s' Q) (hX : ∀ z0 : Mem, z = (.inr z0) → Q none z0) : V E mX3_take d 8 [(0, rf E 1)] [] M Q := by
  unfold f_X3_take_8 at hF
  refine V.aload_n 0 0 0 rfl dX3_take_8 rfl ?_
  refine V.get (by decide) (hcX3 E _) rfl inX3 8 (by decide) rfl gw_98 dX3_take_9 ?_
  refine V.aload_n 0 0 0 rfl dX3_take_12 rfl ?_
  refine V.get (by decide) (hcX3 E _) rfl inX3 1 (by decide) rfl gw_88 dX3_take_13 ?_
  refine V.icmp_ge (tgt := 46) rfl rfl dX3_take_16 (by decide) (fun hc => ?_) (fun hc => ?_)
  · rw [if_pos hc] at hF
    replace hF := Option.map_eq_some_iff.mp hF
    obtain ⟨z0, hF, rfl⟩ := hF
    exact v_X3_take_46 hd hF (hX _ rfl)
  · rw [if_neg hc] at hF
    refine V.aload_n 0 0 0 rfl dX3_take_19 rfl ?_
    refine V.get (by decide) (hcX3 E _) rfl inX3 0 (by decide) rfl gw_87 dX3_take_20 ?_
    refine V.aload_n 0 0 0 rfl dX3_take_23 rfl ?_
    refine V.get (by decide) (hcX3 E _) rfl inX3 8 (by decide) rfl gw_98 dX3_take_24 ?_
    replace hF := Option.bind_eq_some_iff.mp hF
    obtain ⟨v1, hv1, hF⟩ := hF
    refine V.iald ar_2 hv1 dX3_take_27 ?_
    refine V.bipush 32 32 (by decide) dX3_take_28 ?_
    refine V.icmp_ne (tgt := 46) rfl wr_32 dX3_take_30 (by decide) (fun hc => ?_) (fun hc => ?_)
    · rw [if_neg hc] at hF
      replace hF := Option.map_eq_some_iff.mp hF
      obtain ⟨z0, hF, rfl⟩ := hF
      exact v_X3_take_46 hd hF (hX _ rfl)
    · rw [if_pos hc] at hF
      refine V.aload_n 0 0 0 rfl dX3_take_33 rfl ?_
      refine V.dup rfl dX3_take_34 ?_
      refine V.get (by decide) (hcX3 E _) rfl inX3 8 (by decide) rfl gw_98 dX3_take_35 ?_
      refine V.iconst 1 dX3_take_38 ?_
      refine V.iadd dX3_take_39 ?_
      replace hF := Option.bind_eq_some_iff.mp hF
      obtain ⟨M2, hM2, hF⟩ := hF
      refine V.put (x := (M 1 8) + 1) (ty := .int) (Option.some.inj hM2) (by decide) (hcX3 E) rfl inX3 tyX3 tyX3_ok nmX3 (by decide) rfl (by decide +kernel) rfl rfl (Nat.le_of_ble_eq_true rfl) rfl gw_98 dX3_take_40 ?_
      refine V.goto (tgt := 8) dX3_take_43 (by decide) ?_
      cases Option.some.inj hF
      exact hC0 _ rfl
theorem l_X3_take_8 {E : En} {d : Nat} {Q : Po} {n : Nat} {k : Nat} {s : Mem} {z : Mem}  (hd : 3 ≤ d) (hF : lp (fun s => f_X3_take_8 n s) k s = some z) (hK : Q none z) : V E mX3_take d 8 [(0, rf E 1)] [] s Q := by
  refine lp_ind (P := fun s => V E mX3_take d 8 [(0, rf E 1)] [] s Q) (z0 := z) ?_ k s hF
  intro s z' hF hc hx
  exact v_X3_take_8 hd hF (fun s' e => hc s' e) (fun z0 e => by rw [hx _ e]; exact hK)
def f_X3_take (n : Nat) (M : Mem) : Option (Mem) :=
  if wr (M 1 2) = 0 then
    lp (fun s => f_X3_take_8 n s) n M
  else
    some M
set_option maxRecDepth 10000 in
theorem v_X3_take_0 {E : En} {d : Nat} {Q : Po} {n : Nat} {M : Mem} {z : Mem}  (hd : 3 ≤ d) (hF : f_X3_take n M = some z) (hK : Q none z) : V E mX3_take d 0 [(0, rf E 1)] [] M Q := by
  unfold f_X3_take at hF
  refine V.aload_n 0 0 0 rfl dX3_take_0 rfl ?_
  refine V.get (by decide) (hcX3 E _) rfl inX3 2 (by decide) rfl gw_90 dX3_take_1 ?_
  refine V.if_eq (tgt := 8) rfl dX3_take_4 (by decide) (fun hc => ?_) (fun hc => ?_)
  · rw [if_pos hc] at hF
    exact l_X3_take_8 hd hF hK
  · rw [if_neg hc] at hF
    cases Option.some.inj hF
    exact V.vret rfl dX3_take_7 hK
theorem c_X3_take {E : En} {d : Nat} {n : Nat} {M : Mem} {z : Mem}  (hd : 3 ≤ d) (hF : f_X3_take n M = some z) : Cn E mX3_take d [rf E 1] M (fun v N => v = none ∧ z = N) := by
  refine V.entry (by decide +kernel) (Nat.le_of_ble_eq_true rfl) ?_
  exact v_X3_take_0  hd hF ⟨rfl, rfl⟩
abbrev mX3_findsLine : MI := (yX3_findsLine, cX3_findsLine, 1, (some .boolean))
theorem okX3_findsLine : OKV mX3_findsLine 0 := ⟨gw_335, gw_336, gw_59, gw_337, (by decide +kernel), (by decide)⟩
def f_X3_findsLine (n : Nat) (M : Mem) : Option (Int × Mem) :=
  (f_X3_take n M).bind fun M1 =>
  if wr (M1 1 2) = 0 then
    if wr (M1 1 6) = 3 then
      some (0, M1)
    else
      some (1, M1)
  else
    some (0, M1)
set_option maxRecDepth 10000 in
theorem v_X3_findsLine_0 {E : En} {d : Nat} {Q : Po} {n : Nat} {M : Mem} {z : Int × Mem}  (hd : 4 ≤ d) (hF : f_X3_findsLine n M = some z) (hK : Q (some (vi z.1)) z.2) : V E mX3_findsLine d 0 [(0, rf E 1)] [] M Q := by
  unfold f_X3_findsLine at hF
  refine V.aload_n 0 0 0 rfl dX3_findsLine_0 rfl ?_
  replace hF := Option.bind_eq_some_iff.mp hF
  obtain ⟨M1, hM1, hF⟩ := hF
  refine V.callV (d' := d - 1) [] [] (c_X3_take (by omega) hM1) okX3_take gw_338 rfl rfl (by decide) (hcX3 E _) rfl (Nat.le_of_ble_eq_true rfl) (by omega) dX3_findsLine_1 ?_
  rintro _ _ ⟨rfl, rfl⟩
  show V E mX3_findsLine d 4 [(0, rf E 1)] [] M1 _
  refine V.aload_n 0 0 0 rfl dX3_findsLine_4 rfl ?_
  refine V.get (by decide) (hcX3 E _) rfl inX3 2 (by decide) rfl gw_90 dX3_findsLine_5 ?_
  refine V.if_ne (tgt := 23) rfl dX3_findsLine_8 (by decide) (fun hc => ?_) (fun hc => ?_)
  · rw [if_neg hc] at hF
    refine V.iconst 0 dX3_findsLine_23 ?_
    cases Option.some.inj hF
    exact V.zret rfl (Or.inl rfl) dX3_findsLine_24 hK
  · rw [if_pos hc] at hF
    refine V.aload_n 0 0 0 rfl dX3_findsLine_11 rfl ?_
    refine V.get (by decide) (hcX3 E _) rfl inX3 6 (by decide) rfl gw_96 dX3_findsLine_12 ?_
    refine V.iconst 3 dX3_findsLine_15 ?_
    refine V.icmp_eq (tgt := 23) rfl wr_3 dX3_findsLine_16 (by decide) (fun hc => ?_) (fun hc => ?_)
    · rw [if_pos hc] at hF
      refine V.iconst 0 dX3_findsLine_23 ?_
      cases Option.some.inj hF
      exact V.zret rfl (Or.inl rfl) dX3_findsLine_24 hK
    · rw [if_neg hc] at hF
      refine V.iconst 1 dX3_findsLine_19 ?_
      refine V.goto (tgt := 24) dX3_findsLine_20 (by decide) ?_
      cases Option.some.inj hF
      exact V.zret rfl (Or.inr rfl) dX3_findsLine_24 hK
theorem c_X3_findsLine {E : En} {d : Nat} {n : Nat} {M : Mem} {zr : Int} {zM : Mem}  (hd : 4 ≤ d) (hF : f_X3_findsLine n M = some (zr, zM)) : Cn E mX3_findsLine d [rf E 1] M (fun v N => v = some (vi zr) ∧ zM = N) := by
  refine V.entry (by decide +kernel) (Nat.le_of_ble_eq_true rfl) ?_
  exact v_X3_findsLine_0  hd hF ⟨rfl, rfl⟩
abbrev mX3_isWord : MI := (yX3_isWord, cX3_isWord, 3, (some .boolean))
theorem okX3_isWord : OKV mX3_isWord 1 := ⟨gw_367, gw_4, gw_59, gw_368, (by decide +kernel), (by decide)⟩
def f_X3_isWord_27 (n : Nat) (q1 : Nat) (x2 : Int) (M : Mem) : Option ((Int) ⊕ (Int)) :=
  if wr (slen q1) ≤ wr x2 then
    some (.inr 1)
  else
    (rd M 2 160 ((M 1 7) + x2)).bind fun v1 =>
    (schr q1 x2).bind fun v2 =>
    if wr v1 = wr v2 then
      some (.inl (x2 + 1))
    else
      some (.inr 0)
set_option maxRecDepth 10000 in
theorem v_X3_isWord_27 {E : En} {d : Nat} {Q : Po} {n : Nat} {q1 : Nat} {x2 : Int} {M : Mem} {z : (Int) ⊕ (Int)} (hq1 : q1 < 11) (hd : 7 ≤ d) (hF : f_X3_isWord_27 n q1 x2 M = some z) (hC0 : ∀ s' : Int, z = (.inl s') → V E mX3_isWord d 27 [(0, rf E 1), (1, Value.ref (eK E q1)), (2, vi (s'))] [] M Q) (hX : ∀ z0 : Int, z = (.inr z0) → Q (some (vi z0)) M) : V E mX3_isWord d 27 [(0, rf E 1), (1, Value.ref (eK E q1)), (2, vi x2)] [] M Q := by
  unfold f_X3_isWord_27 at hF
  refine V.iload_n 2 2 2 rfl dX3_isWord_27 rfl ?_
  refine V.aload_n 1 1 1 rfl dX3_isWord_28 rfl ?_
  refine V.callString (d' := d - 1) [] [vi x2] (c_J0_length_8abf5 hq1 (by omega)) okJ0_length_8abf5 gw_369 rfl rfl rfl hq1 (Nat.le_of_ble_eq_true rfl) (by omega) dX3_isWord_29 ?_
  rintro _ _ ⟨rfl, rfl⟩
  show V E mX3_isWord d 32 [(0, rf E 1), (1, Value.ref (eK E q1)), (2, vi x2)] [vi (slen q1), vi x2] M _
  refine V.icmp_ge (tgt := 62) rfl rfl dX3_isWord_32 (by decide) (fun hc => ?_) (fun hc => ?_)
  · rw [if_pos hc] at hF
    refine V.iconst 1 dX3_isWord_62 ?_
    cases Option.some.inj hF
    exact V.zret rfl (Or.inr rfl) dX3_isWord_63 (hX _ rfl)
  · rw [if_neg hc] at hF
    refine V.aload_n 0 0 0 rfl dX3_isWord_35 rfl ?_
    refine V.get (by decide) (hcX3 E _) rfl inX3 0 (by decide) rfl gw_87 dX3_isWord_36 ?_
    refine V.aload_n 0 0 0 rfl dX3_isWord_39 rfl ?_
    refine V.get (by decide) (hcX3 E _) rfl inX3 7 (by decide) rfl gw_97 dX3_isWord_40 ?_
    refine V.iload_n 2 2 2 rfl dX3_isWord_43 rfl ?_
    refine V.iadd dX3_isWord_44 ?_
    replace hF := Option.bind_eq_some_iff.mp hF
    obtain ⟨v1, hv1, hF⟩ := hF
    refine V.iald ar_2 hv1 dX3_isWord_45 ?_
    refine V.aload_n 1 1 1 rfl dX3_isWord_46 rfl ?_
    refine V.iload_n 2 2 2 rfl dX3_isWord_47 rfl ?_
    replace hF := Option.bind_eq_some_iff.mp hF
    obtain ⟨v2, hv2, hF⟩ := hF
    refine V.callString (d' := d - 1) [vi x2] [vi v1] (c_J0_charAt_5068e hq1 (by omega) hv2) okJ0_charAt_5068e gw_379 rfl rfl rfl hq1 (Nat.le_of_ble_eq_true rfl) (by omega) dX3_isWord_48 ?_
    rintro _ _ ⟨rfl, rfl⟩
    show V E mX3_isWord d 51 [(0, rf E 1), (1, Value.ref (eK E q1)), (2, vi x2)] [vi v2, vi v1] M _
    refine V.icmp_eq (tgt := 56) rfl rfl dX3_isWord_51 (by decide) (fun hc => ?_) (fun hc => ?_)
    · rw [if_pos hc] at hF
      refine V.iinc 2 2 1 [(2, vi (x2 + 1)), (0, rf E 1), (1, Value.ref (eK E q1))] dX3_isWord_56 rfl (by decide) rfl ?_
      refine V.goto (tgt := 27) dX3_isWord_59 (by decide) ?_
      cases Option.some.inj hF
      refine V.sub _ [1, 2, 0] rfl ?_
      exact hC0 _ rfl
    · rw [if_neg hc] at hF
      refine V.iconst 0 dX3_isWord_54 ?_
      cases Option.some.inj hF
      exact V.zret rfl (Or.inl rfl) dX3_isWord_55 (hX _ rfl)
theorem l_X3_isWord_27 {E : En} {d : Nat} {Q : Po} {n : Nat} {q1 : Nat} {M : Mem} {k : Nat} {s : Int} {z : Int} (hq1 : q1 < 11) (hd : 7 ≤ d) (hF : lp (fun s => f_X3_isWord_27 n q1 s M) k s = some z) (hK : Q (some (vi z)) M) : V E mX3_isWord d 27 [(0, rf E 1), (1, Value.ref (eK E q1)), (2, vi s)] [] M Q := by
  refine lp_ind (P := fun s => V E mX3_isWord d 27 [(0, rf E 1), (1, Value.ref (eK E q1)), (2, vi s)] [] M Q) (z0 := z) ?_ k s hF
  intro s z' hF hc hx
  exact v_X3_isWord_27 hq1 hd hF (fun s' e => hc s' e) (fun z0 e => by rw [hx _ e]; exact hK)
def f_X3_isWord (n : Nat) (q1 : Nat) (M : Mem) : Option (Int) :=
  if wr (M 1 6) = 0 then
    if wr ((M 1 8) - (M 1 7)) = wr (slen q1) then
      lp (fun s => f_X3_isWord_27 n q1 s M) n 0
    else
      some 0
  else
    some 0
set_option maxRecDepth 10000 in
theorem v_X3_isWord_0 {E : En} {d : Nat} {Q : Po} {n : Nat} {q1 : Nat} {M : Mem} {z : Int} (hq1 : q1 < 11) (hd : 7 ≤ d) (hF : f_X3_isWord n q1 M = some z) (hK : Q (some (vi z)) M) : V E mX3_isWord d 0 [(0, rf E 1), (1, Value.ref (eK E q1))] [] M Q := by
  unfold f_X3_isWord at hF
  refine V.aload_n 0 0 0 rfl dX3_isWord_0 rfl ?_
  refine V.get (by decide) (hcX3 E _) rfl inX3 6 (by decide) rfl gw_96 dX3_isWord_1 ?_
  refine V.if_ne (tgt := 23) rfl dX3_isWord_4 (by decide) (fun hc => ?_) (fun hc => ?_)
  · rw [if_neg hc] at hF
    refine V.iconst 0 dX3_isWord_23 ?_
    cases Option.some.inj hF
    exact V.zret rfl (Or.inl rfl) dX3_isWord_24 hK
  · rw [if_pos hc] at hF
    refine V.aload_n 0 0 0 rfl dX3_isWord_7 rfl ?_
    refine V.get (by decide) (hcX3 E _) rfl inX3 8 (by decide) rfl gw_98 dX3_isWord_8 ?_
    refine V.aload_n 0 0 0 rfl dX3_isWord_11 rfl ?_
    refine V.get (by decide) (hcX3 E _) rfl inX3 7 (by decide) rfl gw_97 dX3_isWord_12 ?_
    refine V.isub dX3_isWord_15 ?_
    refine V.aload_n 1 1 1 rfl dX3_isWord_16 rfl ?_
    refine V.callString (d' := d - 1) [] [vi ((M 1 8) - (M 1 7))] (c_J0_length_8abf5 hq1 (by omega)) okJ0_length_8abf5 gw_369 rfl rfl rfl hq1 (Nat.le_of_ble_eq_true rfl) (by omega) dX3_isWord_17 ?_
    rintro _ _ ⟨rfl, rfl⟩
    show V E mX3_isWord d 20 [(0, rf E 1), (1, Value.ref (eK E q1))] [vi (slen q1), vi ((M 1 8) - (M 1 7))] M _
    refine V.icmp_eq (tgt := 25) rfl rfl dX3_isWord_20 (by decide) (fun hc => ?_) (fun hc => ?_)
    · rw [if_pos hc] at hF
      refine V.iconst 0 dX3_isWord_25 ?_
      refine V.istore_n 2 2 [(2, vi 0), (0, rf E 1), (1, Value.ref (eK E q1))] rfl dX3_isWord_26 (by decide) rfl ?_
      refine V.sub _ [1, 2, 0] rfl ?_
      exact l_X3_isWord_27 hq1 hd hF hK
    · rw [if_neg hc] at hF
      refine V.iconst 0 dX3_isWord_23 ?_
      cases Option.some.inj hF
      exact V.zret rfl (Or.inl rfl) dX3_isWord_24 hK
theorem c_X3_isWord {E : En} {d : Nat} {n : Nat} {q1 : Nat} {M : Mem} {z : Int} (hq1 : q1 < 11) (hd : 7 ≤ d) (hF : f_X3_isWord n q1 M = some z) : Cn E mX3_isWord d [rf E 1, Value.ref (eK E q1)] M (fun v N => v = some (vi z) ∧ M = N) := by
  refine V.entry (by decide +kernel) (Nat.le_of_ble_eq_true rfl) ?_
  exact v_X3_isWord_0 hq1 hd hF ⟨rfl, rfl⟩
abbrev mX3_takeWithin : MI := (yX3_takeWithin, cX3_takeWithin, 3, (some .int))
theorem okX3_takeWithin : OKV mX3_takeWithin 2 := ⟨gw_423, gw_6, gw_59, gw_424, (by decide +kernel), (by decide)⟩
def f_X3_takeWithin (n : Nat) (x1 : Int) (x2 : Int) (M : Mem) : Option (Int × Mem) :=
  (f_X3_take n M).bind fun M1 =>
  if wr (M1 1 2) = 0 then
    if wr (M1 1 6) = 1 then
      (f_X5_within (M1 1 9) x1 x2 M1).bind fun v2 =>
      if wr v2 = 0 then
        (f_X3_fail 3 M1).bind fun M3 =>
        some (0, M3)
      else
        some (M1 1 9, M1)
    else
      (f_X3_fail 2 M1).bind fun M4 =>
      some (0, M4)
  else
    some (0, M1)
set_option maxRecDepth 10000 in
theorem v_X3_takeWithin_0 {E : En} {d : Nat} {Q : Po} {n : Nat} {x1 : Int} {x2 : Int} {M : Mem} {z : Int × Mem}  (hd : 4 ≤ d) (hF : f_X3_takeWithin n x1 x2 M = some z) (hK : Q (some (vi z.1)) z.2) : V E mX3_takeWithin d 0 [(0, rf E 1), (1, vi x1), (2, vi x2)] [] M Q := by
  unfold f_X3_takeWithin at hF
  refine V.aload_n 0 0 0 rfl dX3_takeWithin_0 rfl ?_
  replace hF := Option.bind_eq_some_iff.mp hF
  obtain ⟨M1, hM1, hF⟩ := hF
  refine V.callV (d' := d - 1) [] [] (c_X3_take (by omega) hM1) okX3_take gw_338 rfl rfl (by decide) (hcX3 E _) rfl (Nat.le_of_ble_eq_true rfl) (by omega) dX3_takeWithin_1 ?_
  rintro _ _ ⟨rfl, rfl⟩
  show V E mX3_takeWithin d 4 [(0, rf E 1), (1, vi x1), (2, vi x2)] [] M1 _
  refine V.aload_n 0 0 0 rfl dX3_takeWithin_4 rfl ?_
  refine V.get (by decide) (hcX3 E _) rfl inX3 2 (by decide) rfl gw_90 dX3_takeWithin_5 ?_
  refine V.if_eq (tgt := 13) rfl dX3_takeWithin_8 (by decide) (fun hc => ?_) (fun hc => ?_)
  · rw [if_pos hc] at hF
    refine V.aload_n 0 0 0 rfl dX3_takeWithin_13 rfl ?_
    refine V.get (by decide) (hcX3 E _) rfl inX3 6 (by decide) rfl gw_96 dX3_takeWithin_14 ?_
    refine V.iconst 1 dX3_takeWithin_17 ?_
    refine V.icmp_eq (tgt := 28) rfl wr_1 dX3_takeWithin_18 (by decide) (fun hc => ?_) (fun hc => ?_)
    · rw [if_pos hc] at hF
      refine V.aload_n 0 0 0 rfl dX3_takeWithin_28 rfl ?_
      refine V.get (by decide) (hcX3 E _) rfl inX3 9 (by decide) rfl gw_99 dX3_takeWithin_29 ?_
      refine V.iload_n 1 1 1 rfl dX3_takeWithin_32 rfl ?_
      refine V.iload_n 2 2 2 rfl dX3_takeWithin_33 rfl ?_
      replace hF := Option.bind_eq_some_iff.mp hF
      obtain ⟨v2, hv2, hF⟩ := hF
      refine V.callSN (d' := d - 1) (host := "FatLean") [vi (M1 1 9), vi x1, vi x2] [] (c_X5_within (by omega) hv2) okX5_within (nw_4) rfl rfl (Nat.le_of_ble_eq_true rfl) (by omega) dX3_takeWithin_34 ?_
      rintro _ _ ⟨rfl, rfl⟩
      show V E mX3_takeWithin d 37 [(0, rf E 1), (1, vi x1), (2, vi x2)] [vi v2] M1 _
      refine V.if_ne (tgt := 47) rfl dX3_takeWithin_37 (by decide) (fun hc => ?_) (fun hc => ?_)
      · rw [if_neg hc] at hF
        refine V.aload_n 0 0 0 rfl dX3_takeWithin_47 rfl ?_
        refine V.get (by decide) (hcX3 E _) rfl inX3 9 (by decide) rfl gw_99 dX3_takeWithin_48 ?_
        cases Option.some.inj hF
        exact V.iret rfl dX3_takeWithin_51 hK
      · rw [if_pos hc] at hF
        refine V.aload_n 0 0 0 rfl dX3_takeWithin_40 rfl ?_
        refine V.iconst 3 dX3_takeWithin_41 ?_
        replace hF := Option.bind_eq_some_iff.mp hF
        obtain ⟨M3, hM3, hF⟩ := hF
        refine V.callV (d' := d - 1) [vi 3] [] (c_X3_fail (by omega) hM3) okX3_fail gw_356 rfl rfl (by decide) (hcX3 E _) rfl (Nat.le_of_ble_eq_true rfl) (by omega) dX3_takeWithin_42 ?_
        rintro _ _ ⟨rfl, rfl⟩
        show V E mX3_takeWithin d 45 [(0, rf E 1), (1, vi x1), (2, vi x2)] [] M3 _
        refine V.iconst 0 dX3_takeWithin_45 ?_
        cases Option.some.inj hF
        exact V.iret rfl dX3_takeWithin_46 hK
    · rw [if_neg hc] at hF
      refine V.aload_n 0 0 0 rfl dX3_takeWithin_21 rfl ?_
      refine V.iconst 2 dX3_takeWithin_22 ?_
      replace hF := Option.bind_eq_some_iff.mp hF
      obtain ⟨M4, hM4, hF⟩ := hF
      refine V.callV (d' := d - 1) [vi 2] [] (c_X3_fail (by omega) hM4) okX3_fail gw_356 rfl rfl (by decide) (hcX3 E _) rfl (Nat.le_of_ble_eq_true rfl) (by omega) dX3_takeWithin_23 ?_
      rintro _ _ ⟨rfl, rfl⟩
      show V E mX3_takeWithin d 26 [(0, rf E 1), (1, vi x1), (2, vi x2)] [] M4 _
      refine V.iconst 0 dX3_takeWithin_26 ?_
      cases Option.some.inj hF
      exact V.iret rfl dX3_takeWithin_27 hK
  · rw [if_neg hc] at hF
    refine V.iconst 0 dX3_takeWithin_11 ?_
    cases Option.some.inj hF
    exact V.iret rfl dX3_takeWithin_12 hK
theorem c_X3_takeWithin {E : En} {d : Nat} {n : Nat} {x1 : Int} {x2 : Int} {M : Mem} {zr : Int} {zM : Mem}  (hd : 4 ≤ d) (hF : f_X3_takeWithin n x1 x2 M = some (zr, zM)) : Cn E mX3_takeWithin d [rf E 1, vi x1, vi x2] M (fun v N => v = some (vi zr) ∧ zM = N) := by
  refine V.entry (by decide +kernel) (Nat.le_of_ble_eq_true rfl) ?_
  exact v_X3_takeWithin_0  hd hF ⟨rfl, rfl⟩
abbrev mX3_takeLand : MI := (yX3_takeLand, cX3_takeLand, 3, none)
theorem okX3_takeLand : OKV mX3_takeLand 0 := ⟨gw_419, gw_5, gw_59, gw_420, (by decide +kernel), (by decide)⟩
def f_X3_takeLand_16 (n : Nat) (M : Mem) : Option (Mem) :=
  (f_X3_takeWithin n 0 9 M).bind fun (v1, M2) =>
  (f_X3_takeWithin n 0 9 M2).bind fun (v3, M4) =>
  if wr (M4 1 2) = 0 then
    (ckX2 (M4 1 4)).bind fun c5 =>
    (f_X2_addLand c5 v1 v3 M4).bind fun M6 =>
    some M6
  else
    some M4
set_option maxRecDepth 10000 in
theorem v_X3_takeLand_16 {E : En} {d : Nat} {Q : Po} {n : Nat} {M : Mem} {z : Mem}  (hd : 5 ≤ d) (hF : f_X3_takeLand_16 n M = some z) (hK : Q none z) : V E mX3_takeLand d 16 [(0, rf E 1)] [] M Q := by
  unfold f_X3_takeLand_16 at hF
  refine V.aload_n 0 0 0 rfl dX3_takeLand_16 rfl ?_
  refine V.iconst 0 dX3_takeLand_17 ?_
  refine V.bipush 9 9 (by decide) dX3_takeLand_18 ?_
  replace hF := Option.bind_eq_some_iff.mp hF
  obtain ⟨⟨v1, M2⟩, hv1, hF⟩ := hF
  dsimp only at hF
  refine V.callV (d' := d - 1) [vi 0, vi 9] [] (c_X3_takeWithin (by omega) hv1) okX3_takeWithin gw_421 rfl rfl (by decide) (hcX3 E _) rfl (Nat.le_of_ble_eq_true rfl) (by omega) dX3_takeLand_20 ?_
  rintro _ _ ⟨rfl, rfl⟩
  show V E mX3_takeLand d 23 [(0, rf E 1)] [vi v1] M2 _
  refine V.istore_n 1 1 [(1, vi v1), (0, rf E 1)] rfl dX3_takeLand_23 (by decide) rfl ?_
  refine V.aload_n 0 0 1 rfl dX3_takeLand_24 rfl ?_
  refine V.iconst 0 dX3_takeLand_25 ?_
  refine V.bipush 9 9 (by decide) dX3_takeLand_26 ?_
  replace hF := Option.bind_eq_some_iff.mp hF
  obtain ⟨⟨v3, M4⟩, hv3, hF⟩ := hF
  dsimp only at hF
  refine V.callV (d' := d - 1) [vi 0, vi 9] [] (c_X3_takeWithin (by omega) hv3) okX3_takeWithin gw_421 rfl rfl (by decide) (hcX3 E _) rfl (Nat.le_of_ble_eq_true rfl) (by omega) dX3_takeLand_28 ?_
  rintro _ _ ⟨rfl, rfl⟩
  show V E mX3_takeLand d 31 [(1, vi v1), (0, rf E 1)] [vi v3] M4 _
  refine V.istore_n 2 2 [(2, vi v3), (1, vi v1), (0, rf E 1)] rfl dX3_takeLand_31 (by decide) rfl ?_
  refine V.aload_n 0 0 2 rfl dX3_takeLand_32 rfl ?_
  refine V.get (by decide) (hcX3 E _) rfl inX3 2 (by decide) rfl gw_90 dX3_takeLand_33 ?_
  refine V.if_ne (tgt := 48) rfl dX3_takeLand_36 (by decide) (fun hc => ?_) (fun hc => ?_)
  · rw [if_neg hc] at hF
    cases Option.some.inj hF
    exact V.vret rfl dX3_takeLand_48 hK
  · rw [if_pos hc] at hF
    refine V.aload_n 0 0 2 rfl dX3_takeLand_39 rfl ?_
    replace hF := Option.bind_eq_some_iff.mp hF
    obtain ⟨c5, hc5, hF⟩ := hF
    refine V.getD hc5 (by decide) (hcX3 E _) rfl inX3 4 (by decide) rfl gw_94 dX3_takeLand_40 ?_
    refine V.iload_n 1 1 1 rfl dX3_takeLand_43 rfl ?_
    refine V.iload_n 2 2 0 rfl dX3_takeLand_44 rfl ?_
    replace hF := Option.bind_eq_some_iff.mp hF
    obtain ⟨M6, hM6, hF⟩ := hF
    refine V.callV (d' := d - 1) [vi v1, vi v3] [] (c_X2_addLand (ck_is hc5) (by omega) hM6) okX2_addLand gw_426 rfl rfl (ltX2 (ck_is hc5)) (hcX2 (ck_is hc5) E _) rfl (Nat.le_of_ble_eq_true rfl) (by omega) dX3_takeLand_45 ?_
    rintro _ _ ⟨rfl, rfl⟩
    show V E mX3_takeLand d 48 [(2, vi v3), (1, vi v1), (0, rf E 1)] [] M6 _
    cases Option.some.inj hF
    exact V.vret rfl dX3_takeLand_48 hK
def f_X3_takeLand (n : Nat) (M : Mem) : Option (Mem) :=
  (ckX2 (M 1 4)).bind fun c1 =>
  if wr (M c1 4) < 4 then
    f_X3_takeLand_16 n M
  else
    (f_X3_fail 5 M).bind fun M2 =>
    f_X3_takeLand_16 n M2
set_option maxRecDepth 10000 in
theorem v_X3_takeLand_0 {E : En} {d : Nat} {Q : Po} {n : Nat} {M : Mem} {z : Mem}  (hd : 5 ≤ d) (hF : f_X3_takeLand n M = some z) (hK : Q none z) : V E mX3_takeLand d 0 [(0, rf E 1)] [] M Q := by
  unfold f_X3_takeLand at hF
  refine V.aload_n 0 0 0 rfl dX3_takeLand_0 rfl ?_
  replace hF := Option.bind_eq_some_iff.mp hF
  obtain ⟨c1, hc1, hF⟩ := hF
  refine V.getD hc1 (by decide) (hcX3 E _) rfl inX3 4 (by decide) rfl gw_94 dX3_takeLand_1 ?_
  refine V.get (ltX2 (ck_is hc1)) (hcX2 (ck_is hc1) E _) rfl inX2 4 (by decide) rfl gw_143 dX3_takeLand_4 ?_
  refine V.iconst 4 dX3_takeLand_7 ?_
  refine V.icmp_lt (tgt := 16) rfl wr_4 dX3_takeLand_8 (by decide) (fun hc => ?_) (fun hc => ?_)
  · rw [if_pos hc] at hF
    exact v_X3_takeLand_16 hd hF hK
  · rw [if_neg hc] at hF
    refine V.aload_n 0 0 0 rfl dX3_takeLand_11 rfl ?_
    refine V.iconst 5 dX3_takeLand_12 ?_
    replace hF := Option.bind_eq_some_iff.mp hF
    obtain ⟨M2, hM2, hF⟩ := hF
    refine V.callV (d' := d - 1) [vi 5] [] (c_X3_fail (by omega) hM2) okX3_fail gw_356 rfl rfl (by decide) (hcX3 E _) rfl (Nat.le_of_ble_eq_true rfl) (by omega) dX3_takeLand_13 ?_
    rintro _ _ ⟨rfl, rfl⟩
    show V E mX3_takeLand d 16 [(0, rf E 1)] [] M2 _
    exact v_X3_takeLand_16 hd hF hK
theorem c_X3_takeLand {E : En} {d : Nat} {n : Nat} {M : Mem} {z : Mem}  (hd : 5 ≤ d) (hF : f_X3_takeLand n M = some z) : Cn E mX3_takeLand d [rf E 1] M (fun v N => v = none ∧ z = N) := by
  refine V.entry (by decide +kernel) (Nat.le_of_ble_eq_true rfl) ?_
  exact v_X3_takeLand_0  hd hF ⟨rfl, rfl⟩
abbrev mX3_takeRow : MI := (yX3_takeRow, cX3_takeRow, 4, (some .int))
theorem okX3_takeRow : OKV mX3_takeRow 0 := ⟨gw_437, gw_8, gw_59, gw_438, (by decide +kernel), (by decide)⟩
def f_X3_takeRow_105 (n : Nat) (x1 : Int) (x2 : Int) (M : Mem) : Option ((Int × Int) ⊕ (Int × Mem)) :=
  some (.inl (x1, x2 + 1))
set_option maxRecDepth 10000 in
theorem v_X3_takeRow_105 {E : En} {d : Nat} {Q : Po} {n : Nat} {x1 : Int} {x2 : Int} {M : Mem} {z : (Int × Int) ⊕ (Int × Mem)}  (hd : 4 ≤ d) (hF : f_X3_takeRow_105 n x1 x2 M = some z) (hC0 : ∀ s' : Int × Int, z = (.inl s') → V E mX3_takeRow d 52 [(0, rf E 1), (1, vi (s'.1)), (2, vi (s'.2))] [] M Q) (hX : ∀ z0 : Int × Mem, z = (.inr z0) → Q (some (vi z0.1)) z0.2) : V E mX3_takeRow d 105 [(0, rf E 1), (1, vi x1), (2, vi x2)] [] M Q := by
  unfold f_X3_takeRow_105 at hF
  refine V.iinc 2 2 1 [(2, vi (x2 + 1)), (0, rf E 1), (1, vi x1)] dX3_takeRow_105 rfl (by decide) rfl ?_
  refine V.goto (tgt := 52) dX3_takeRow_108 (by decide) ?_
  cases Option.some.inj hF
  refine V.sub _ [1, 2, 0] rfl ?_
  exact hC0 _ rfl
def f_X3_takeRow_98 (n : Nat) (M : Mem) : Option (Int × Mem) :=
  (f_X3_fail 3 M).bind fun M1 =>
  some (0, M1)
set_option maxRecDepth 10000 in
theorem v_X3_takeRow_98 {E : En} {d : Nat} {Q : Po} {n : Nat} {M : Mem} {z : Int × Mem}  (hd : 4 ≤ d) (hF : f_X3_takeRow_98 n M = some z) (hK : Q (some (vi z.1)) z.2) : V E mX3_takeRow d 98 [(0, rf E 1)] [] M Q := by
  unfold f_X3_takeRow_98 at hF
  refine V.aload_n 0 0 0 rfl dX3_takeRow_98 rfl ?_
  refine V.iconst 3 dX3_takeRow_99 ?_
  replace hF := Option.bind_eq_some_iff.mp hF
  obtain ⟨M1, hM1, hF⟩ := hF
  refine V.callV (d' := d - 1) [vi 3] [] (c_X3_fail (by omega) hM1) okX3_fail gw_356 rfl rfl (by decide) (hcX3 E _) rfl (Nat.le_of_ble_eq_true rfl) (by omega) dX3_takeRow_100 ?_
  rintro _ _ ⟨rfl, rfl⟩
  show V E mX3_takeRow d 103 [(0, rf E 1)] [] M1 _
  refine V.iconst 0 dX3_takeRow_103 ?_
  cases Option.some.inj hF
  exact V.iret rfl dX3_takeRow_104 hK
def f_X3_takeRow_52 (n : Nat) (x1 : Int) (x2 : Int) (M : Mem) : Option ((Int × Int) ⊕ (Int × Mem)) :=
  if wr ((M 1 8) - (M 1 7)) ≤ wr x2 then
    some (.inr (x1, M))
  else
    (rd M 2 160 ((M 1 7) + x2)).bind fun v1 =>
    if wr v1 = 102 then
      f_X3_takeRow_105 n (bOr x1 (bShl 1 x2)) x2 M
    else
      if wr v1 = 108 then
        f_X3_takeRow_105 n x1 x2 M
      else
        (f_X3_takeRow_98 n M).map Sum.inr
set_option maxRecDepth 10000 in
theorem v_X3_takeRow_52 {E : En} {d : Nat} {Q : Po} {n : Nat} {x1 : Int} {x2 : Int} {M : Mem} {z : (Int × Int) ⊕ (Int × Mem)}  (hd : 4 ≤ d) (hF : f_X3_takeRow_52 n x1 x2 M = some z) (hC0 : ∀ s' : Int × Int, z = (.inl s') → V E mX3_takeRow d 52 [(0, rf E 1), (1, vi (s'.1)), (2, vi (s'.2))] [] M Q) (hX : ∀ z0 : Int × Mem, z = (.inr z0) → Q (some (vi z0.1)) z0.2) : V E mX3_takeRow d 52 [(0, rf E 1), (1, vi x1), (2, vi x2)] [] M Q := by
  unfold f_X3_takeRow_52 at hF
  refine V.iload_n 2 2 2 rfl dX3_takeRow_52 rfl ?_
  refine V.aload_n 0 0 0 rfl dX3_takeRow_53 rfl ?_
  refine V.get (by decide) (hcX3 E _) rfl inX3 8 (by decide) rfl gw_98 dX3_takeRow_54 ?_
  refine V.aload_n 0 0 0 rfl dX3_takeRow_57 rfl ?_
  refine V.get (by decide) (hcX3 E _) rfl inX3 7 (by decide) rfl gw_97 dX3_takeRow_58 ?_
  refine V.isub dX3_takeRow_61 ?_
  refine V.icmp_ge (tgt := 111) rfl rfl dX3_takeRow_62 (by decide) (fun hc => ?_) (fun hc => ?_)
  · rw [if_pos hc] at hF
    refine V.iload_n 1 1 1 rfl dX3_takeRow_111 rfl ?_
    cases Option.some.inj hF
    exact V.iret rfl dX3_takeRow_112 (hX _ rfl)
  · rw [if_neg hc] at hF
    refine V.aload_n 0 0 0 rfl dX3_takeRow_65 rfl ?_
    refine V.get (by decide) (hcX3 E _) rfl inX3 0 (by decide) rfl gw_87 dX3_takeRow_66 ?_
    refine V.aload_n 0 0 0 rfl dX3_takeRow_69 rfl ?_
    refine V.get (by decide) (hcX3 E _) rfl inX3 7 (by decide) rfl gw_97 dX3_takeRow_70 ?_
    refine V.iload_n 2 2 2 rfl dX3_takeRow_73 rfl ?_
    refine V.iadd dX3_takeRow_74 ?_
    replace hF := Option.bind_eq_some_iff.mp hF
    obtain ⟨v1, hv1, hF⟩ := hF
    refine V.iald ar_2 hv1 dX3_takeRow_75 ?_
    refine V.istore_n 3 3 [(3, vi v1), (0, rf E 1), (1, vi x1), (2, vi x2)] rfl dX3_takeRow_76 (by decide) rfl ?_
    refine V.iload_n 3 3 0 rfl dX3_takeRow_77 rfl ?_
    refine V.bipush 102 102 (by decide) dX3_takeRow_78 ?_
    refine V.icmp_ne (tgt := 92) rfl wr_102 dX3_takeRow_80 (by decide) (fun hc => ?_) (fun hc => ?_)
    · rw [if_neg hc] at hF
      refine V.iload_n 3 3 0 rfl dX3_takeRow_92 rfl ?_
      refine V.bipush 108 108 (by decide) dX3_takeRow_93 ?_
      refine V.icmp_eq (tgt := 105) rfl wr_108 dX3_takeRow_95 (by decide) (fun hc => ?_) (fun hc => ?_)
      · rw [if_pos hc] at hF
        refine V.sub _ [1, 2, 3] rfl ?_
        exact v_X3_takeRow_105 hd hF hC0 hX
      · rw [if_neg hc] at hF
        replace hF := Option.map_eq_some_iff.mp hF
        obtain ⟨z0, hF, rfl⟩ := hF
        refine V.sub _ [1] rfl ?_
        exact v_X3_takeRow_98 hd hF (hX _ rfl)
    · rw [if_pos hc] at hF
      refine V.iload_n 1 1 2 rfl dX3_takeRow_83 rfl ?_
      refine V.iconst 1 dX3_takeRow_84 ?_
      refine V.iload_n 2 2 3 rfl dX3_takeRow_85 rfl ?_
      refine V.ishl dX3_takeRow_86 ?_
      refine V.ior dX3_takeRow_87 ?_
      refine V.istore_n 1 1 [(1, vi (bOr x1 (bShl 1 x2))), (3, vi v1), (0, rf E 1), (2, vi x2)] rfl dX3_takeRow_88 (by decide) rfl ?_
      refine V.goto (tgt := 105) dX3_takeRow_89 (by decide) ?_
      refine V.sub _ [2, 0, 3] rfl ?_
      exact v_X3_takeRow_105 hd hF hC0 hX
theorem l_X3_takeRow_52 {E : En} {d : Nat} {Q : Po} {n : Nat} {M : Mem} {k : Nat} {s : Int × Int} {z : Int × Mem}  (hd : 4 ≤ d) (hF : lp (fun s => f_X3_takeRow_52 n s.1 s.2 M) k s = some z) (hK : Q (some (vi z.1)) z.2) : V E mX3_takeRow d 52 [(0, rf E 1), (1, vi s.1), (2, vi s.2)] [] M Q := by
  refine lp_ind (P := fun s => V E mX3_takeRow d 52 [(0, rf E 1), (1, vi s.1), (2, vi s.2)] [] M Q) (z0 := z) ?_ k s hF
  intro s z' hF hc hx
  exact v_X3_takeRow_52 hd hF (fun s' e => hc s' e) (fun z0 e => by rw [hx _ e]; exact hK)
def f_X3_takeRow (n : Nat) (M : Mem) : Option (Int × Mem) :=
  (f_X3_take n M).bind fun M1 =>
  if wr (M1 1 2) = 0 then
    if wr (M1 1 6) = 0 then
      if wr ((M1 1 8) - (M1 1 7)) ≤ 8 then
        lp (fun s => f_X3_takeRow_52 n s.1 s.2 M1) n (0, 0)
      else
        (f_X3_fail 3 M1).bind fun M2 =>
        some (0, M2)
    else
      (f_X3_fail 2 M1).bind fun M3 =>
      some (0, M3)
  else
    some (0, M1)
set_option maxRecDepth 10000 in
theorem v_X3_takeRow_0 {E : En} {d : Nat} {Q : Po} {n : Nat} {M : Mem} {z : Int × Mem}  (hd : 4 ≤ d) (hF : f_X3_takeRow n M = some z) (hK : Q (some (vi z.1)) z.2) : V E mX3_takeRow d 0 [(0, rf E 1)] [] M Q := by
  unfold f_X3_takeRow at hF
  refine V.aload_n 0 0 0 rfl dX3_takeRow_0 rfl ?_
  replace hF := Option.bind_eq_some_iff.mp hF
  obtain ⟨M1, hM1, hF⟩ := hF
  refine V.callV (d' := d - 1) [] [] (c_X3_take (by omega) hM1) okX3_take gw_338 rfl rfl (by decide) (hcX3 E _) rfl (Nat.le_of_ble_eq_true rfl) (by omega) dX3_takeRow_1 ?_
  rintro _ _ ⟨rfl, rfl⟩
  show V E mX3_takeRow d 4 [(0, rf E 1)] [] M1 _
  refine V.aload_n 0 0 0 rfl dX3_takeRow_4 rfl ?_
  refine V.get (by decide) (hcX3 E _) rfl inX3 2 (by decide) rfl gw_90 dX3_takeRow_5 ?_
  refine V.if_eq (tgt := 13) rfl dX3_takeRow_8 (by decide) (fun hc => ?_) (fun hc => ?_)
  · rw [if_pos hc] at hF
    refine V.aload_n 0 0 0 rfl dX3_takeRow_13 rfl ?_
    refine V.get (by decide) (hcX3 E _) rfl inX3 6 (by decide) rfl gw_96 dX3_takeRow_14 ?_
    refine V.if_eq (tgt := 27) rfl dX3_takeRow_17 (by decide) (fun hc => ?_) (fun hc => ?_)
    · rw [if_pos hc] at hF
      refine V.aload_n 0 0 0 rfl dX3_takeRow_27 rfl ?_
      refine V.get (by decide) (hcX3 E _) rfl inX3 8 (by decide) rfl gw_98 dX3_takeRow_28 ?_
      refine V.aload_n 0 0 0 rfl dX3_takeRow_31 rfl ?_
      refine V.get (by decide) (hcX3 E _) rfl inX3 7 (by decide) rfl gw_97 dX3_takeRow_32 ?_
      refine V.isub dX3_takeRow_35 ?_
      refine V.bipush 8 8 (by decide) dX3_takeRow_36 ?_
      refine V.icmp_le (tgt := 48) rfl wr_8 dX3_takeRow_38 (by decide) (fun hc => ?_) (fun hc => ?_)
      · rw [if_pos hc] at hF
        refine V.iconst 0 dX3_takeRow_48 ?_
        refine V.istore_n 1 1 [(1, vi 0), (0, rf E 1)] rfl dX3_takeRow_49 (by decide) rfl ?_
        refine V.iconst 0 dX3_takeRow_50 ?_
        refine V.istore_n 2 2 [(2, vi 0), (1, vi 0), (0, rf E 1)] rfl dX3_takeRow_51 (by decide) rfl ?_
        refine V.sub _ [2, 1, 0] rfl ?_
        exact l_X3_takeRow_52 hd hF hK
      · rw [if_neg hc] at hF
        refine V.aload_n 0 0 0 rfl dX3_takeRow_41 rfl ?_
        refine V.iconst 3 dX3_takeRow_42 ?_
        replace hF := Option.bind_eq_some_iff.mp hF
        obtain ⟨M2, hM2, hF⟩ := hF
        refine V.callV (d' := d - 1) [vi 3] [] (c_X3_fail (by omega) hM2) okX3_fail gw_356 rfl rfl (by decide) (hcX3 E _) rfl (Nat.le_of_ble_eq_true rfl) (by omega) dX3_takeRow_43 ?_
        rintro _ _ ⟨rfl, rfl⟩
        show V E mX3_takeRow d 46 [(0, rf E 1)] [] M2 _
        refine V.iconst 0 dX3_takeRow_46 ?_
        cases Option.some.inj hF
        exact V.iret rfl dX3_takeRow_47 hK
    · rw [if_neg hc] at hF
      refine V.aload_n 0 0 0 rfl dX3_takeRow_20 rfl ?_
      refine V.iconst 2 dX3_takeRow_21 ?_
      replace hF := Option.bind_eq_some_iff.mp hF
      obtain ⟨M3, hM3, hF⟩ := hF
      refine V.callV (d' := d - 1) [vi 2] [] (c_X3_fail (by omega) hM3) okX3_fail gw_356 rfl rfl (by decide) (hcX3 E _) rfl (Nat.le_of_ble_eq_true rfl) (by omega) dX3_takeRow_22 ?_
      rintro _ _ ⟨rfl, rfl⟩
      show V E mX3_takeRow d 25 [(0, rf E 1)] [] M3 _
      refine V.iconst 0 dX3_takeRow_25 ?_
      cases Option.some.inj hF
      exact V.iret rfl dX3_takeRow_26 hK
  · rw [if_neg hc] at hF
    refine V.iconst 0 dX3_takeRow_11 ?_
    cases Option.some.inj hF
    exact V.iret rfl dX3_takeRow_12 hK
theorem c_X3_takeRow {E : En} {d : Nat} {n : Nat} {M : Mem} {zr : Int} {zM : Mem}  (hd : 4 ≤ d) (hF : f_X3_takeRow n M = some (zr, zM)) : Cn E mX3_takeRow d [rf E 1] M (fun v N => v = some (vi zr) ∧ zM = N) := by
  refine V.entry (by decide +kernel) (Nat.le_of_ble_eq_true rfl) ?_
  exact v_X3_takeRow_0  hd hF ⟨rfl, rfl⟩
abbrev mX3_takeDream : MI := (yX3_takeDream, cX3_takeDream, 3, none)
theorem okX3_takeDream : OKV mX3_takeDream 0 := ⟨gw_433, gw_7, gw_59, gw_434, (by decide +kernel), (by decide)⟩
def f_X3_takeDream_16 (n : Nat) (M : Mem) : Option (Mem) :=
  (f_X3_takeRow n M).bind fun (v1, M2) =>
  (f_X3_takeWithin n 1 9 M2).bind fun (v3, M4) =>
  if wr (M4 1 2) = 0 then
    (ckX2 (M4 1 4)).bind fun c5 =>
    (f_X2_addReading c5 v1 v3 M4).bind fun M6 =>
    some M6
  else
    some M4
set_option maxRecDepth 10000 in
theorem v_X3_takeDream_16 {E : En} {d : Nat} {Q : Po} {n : Nat} {M : Mem} {z : Mem}  (hd : 5 ≤ d) (hF : f_X3_takeDream_16 n M = some z) (hK : Q none z) : V E mX3_takeDream d 16 [(0, rf E 1)] [] M Q := by
  unfold f_X3_takeDream_16 at hF
  refine V.aload_n 0 0 0 rfl dX3_takeDream_16 rfl ?_
  replace hF := Option.bind_eq_some_iff.mp hF
  obtain ⟨⟨v1, M2⟩, hv1, hF⟩ := hF
  dsimp only at hF
  refine V.callV (d' := d - 1) [] [] (c_X3_takeRow (by omega) hv1) okX3_takeRow gw_435 rfl rfl (by decide) (hcX3 E _) rfl (Nat.le_of_ble_eq_true rfl) (by omega) dX3_takeDream_17 ?_
  rintro _ _ ⟨rfl, rfl⟩
  show V E mX3_takeDream d 20 [(0, rf E 1)] [vi v1] M2 _
  refine V.istore_n 1 1 [(1, vi v1), (0, rf E 1)] rfl dX3_takeDream_20 (by decide) rfl ?_
  refine V.aload_n 0 0 1 rfl dX3_takeDream_21 rfl ?_
  refine V.iconst 1 dX3_takeDream_22 ?_
  refine V.bipush 9 9 (by decide) dX3_takeDream_23 ?_
  replace hF := Option.bind_eq_some_iff.mp hF
  obtain ⟨⟨v3, M4⟩, hv3, hF⟩ := hF
  dsimp only at hF
  refine V.callV (d' := d - 1) [vi 1, vi 9] [] (c_X3_takeWithin (by omega) hv3) okX3_takeWithin gw_421 rfl rfl (by decide) (hcX3 E _) rfl (Nat.le_of_ble_eq_true rfl) (by omega) dX3_takeDream_25 ?_
  rintro _ _ ⟨rfl, rfl⟩
  show V E mX3_takeDream d 28 [(1, vi v1), (0, rf E 1)] [vi v3] M4 _
  refine V.istore_n 2 2 [(2, vi v3), (1, vi v1), (0, rf E 1)] rfl dX3_takeDream_28 (by decide) rfl ?_
  refine V.aload_n 0 0 2 rfl dX3_takeDream_29 rfl ?_
  refine V.get (by decide) (hcX3 E _) rfl inX3 2 (by decide) rfl gw_90 dX3_takeDream_30 ?_
  refine V.if_ne (tgt := 45) rfl dX3_takeDream_33 (by decide) (fun hc => ?_) (fun hc => ?_)
  · rw [if_neg hc] at hF
    cases Option.some.inj hF
    exact V.vret rfl dX3_takeDream_45 hK
  · rw [if_pos hc] at hF
    refine V.aload_n 0 0 2 rfl dX3_takeDream_36 rfl ?_
    replace hF := Option.bind_eq_some_iff.mp hF
    obtain ⟨c5, hc5, hF⟩ := hF
    refine V.getD hc5 (by decide) (hcX3 E _) rfl inX3 4 (by decide) rfl gw_94 dX3_takeDream_37 ?_
    refine V.iload_n 1 1 1 rfl dX3_takeDream_40 rfl ?_
    refine V.iload_n 2 2 0 rfl dX3_takeDream_41 rfl ?_
    replace hF := Option.bind_eq_some_iff.mp hF
    obtain ⟨M6, hM6, hF⟩ := hF
    refine V.callV (d' := d - 1) [vi v1, vi v3] [] (c_X2_addReading (ck_is hc5) (by omega) hM6) okX2_addReading gw_439 rfl rfl (ltX2 (ck_is hc5)) (hcX2 (ck_is hc5) E _) rfl (Nat.le_of_ble_eq_true rfl) (by omega) dX3_takeDream_42 ?_
    rintro _ _ ⟨rfl, rfl⟩
    show V E mX3_takeDream d 45 [(2, vi v3), (1, vi v1), (0, rf E 1)] [] M6 _
    cases Option.some.inj hF
    exact V.vret rfl dX3_takeDream_45 hK
def f_X3_takeDream (n : Nat) (M : Mem) : Option (Mem) :=
  (ckX2 (M 1 4)).bind fun c1 =>
  if wr (M c1 5) < 4 then
    f_X3_takeDream_16 n M
  else
    (f_X3_fail 5 M).bind fun M2 =>
    f_X3_takeDream_16 n M2
set_option maxRecDepth 10000 in
theorem v_X3_takeDream_0 {E : En} {d : Nat} {Q : Po} {n : Nat} {M : Mem} {z : Mem}  (hd : 5 ≤ d) (hF : f_X3_takeDream n M = some z) (hK : Q none z) : V E mX3_takeDream d 0 [(0, rf E 1)] [] M Q := by
  unfold f_X3_takeDream at hF
  refine V.aload_n 0 0 0 rfl dX3_takeDream_0 rfl ?_
  replace hF := Option.bind_eq_some_iff.mp hF
  obtain ⟨c1, hc1, hF⟩ := hF
  refine V.getD hc1 (by decide) (hcX3 E _) rfl inX3 4 (by decide) rfl gw_94 dX3_takeDream_1 ?_
  refine V.get (ltX2 (ck_is hc1)) (hcX2 (ck_is hc1) E _) rfl inX2 5 (by decide) rfl gw_146 dX3_takeDream_4 ?_
  refine V.iconst 4 dX3_takeDream_7 ?_
  refine V.icmp_lt (tgt := 16) rfl wr_4 dX3_takeDream_8 (by decide) (fun hc => ?_) (fun hc => ?_)
  · rw [if_pos hc] at hF
    exact v_X3_takeDream_16 hd hF hK
  · rw [if_neg hc] at hF
    refine V.aload_n 0 0 0 rfl dX3_takeDream_11 rfl ?_
    refine V.iconst 5 dX3_takeDream_12 ?_
    replace hF := Option.bind_eq_some_iff.mp hF
    obtain ⟨M2, hM2, hF⟩ := hF
    refine V.callV (d' := d - 1) [vi 5] [] (c_X3_fail (by omega) hM2) okX3_fail gw_356 rfl rfl (by decide) (hcX3 E _) rfl (Nat.le_of_ble_eq_true rfl) (by omega) dX3_takeDream_13 ?_
    rintro _ _ ⟨rfl, rfl⟩
    show V E mX3_takeDream d 16 [(0, rf E 1)] [] M2 _
    exact v_X3_takeDream_16 hd hF hK
theorem c_X3_takeDream {E : En} {d : Nat} {n : Nat} {M : Mem} {z : Mem}  (hd : 5 ≤ d) (hF : f_X3_takeDream n M = some z) : Cn E mX3_takeDream d [rf E 1] M (fun v N => v = none ∧ z = N) := by
  refine V.entry (by decide +kernel) (Nat.le_of_ble_eq_true rfl) ?_
  exact v_X3_takeDream_0  hd hF ⟨rfl, rfl⟩
abbrev mX3_markOnce : MI := (yX3_markOnce, cX3_markOnce, 2, none)
theorem okX3_markOnce : OKV mX3_markOnce 1 := ⟨gw_450, gw_10, gw_59, gw_451, (by decide +kernel), (by decide)⟩
def f_X3_markOnce_16 (x1 : Int) (M : Mem) : Option (Mem) :=
  (some (st M 1 5 (bOr (M 1 5) (bShl 1 x1)))).bind fun M1 =>
  some M1
set_option maxRecDepth 10000 in
theorem v_X3_markOnce_16 {E : En} {d : Nat} {Q : Po} {x1 : Int} {M : Mem} {z : Mem}  (hd : 2 ≤ d) (hF : f_X3_markOnce_16 x1 M = some z) (hK : Q none z) : V E mX3_markOnce d 16 [(0, rf E 1), (1, vi x1)] [] M Q := by
  unfold f_X3_markOnce_16 at hF
  refine V.aload_n 0 0 0 rfl dX3_markOnce_16 rfl ?_
  refine V.dup rfl dX3_markOnce_17 ?_
  refine V.get (by decide) (hcX3 E _) rfl inX3 5 (by decide) rfl gw_95 dX3_markOnce_18 ?_
  refine V.iconst 1 dX3_markOnce_21 ?_
  refine V.iload_n 1 1 1 rfl dX3_markOnce_22 rfl ?_
  refine V.ishl dX3_markOnce_23 ?_
  refine V.ior dX3_markOnce_24 ?_
  replace hF := Option.bind_eq_some_iff.mp hF
  obtain ⟨M1, hM1, hF⟩ := hF
  refine V.put (x := bOr (M 1 5) (bShl 1 x1)) (ty := .int) (Option.some.inj hM1) (by decide) (hcX3 E) rfl inX3 tyX3 tyX3_ok nmX3 (by decide) rfl (by decide +kernel) rfl rfl (Nat.le_of_ble_eq_true rfl) rfl gw_95 dX3_markOnce_25 ?_
  cases Option.some.inj hF
  exact V.vret rfl dX3_markOnce_28 hK
def f_X3_markOnce (x1 : Int) (M : Mem) : Option (Mem) :=
  (f_X5_has (M 1 5) x1 M).bind fun v1 =>
  if wr v1 = 0 then
    f_X3_markOnce_16 x1 M
  else
    (f_X3_fail 4 M).bind fun M2 =>
    f_X3_markOnce_16 x1 M2
set_option maxRecDepth 10000 in
theorem v_X3_markOnce_0 {E : En} {d : Nat} {Q : Po} {x1 : Int} {M : Mem} {z : Mem}  (hd : 2 ≤ d) (hF : f_X3_markOnce x1 M = some z) (hK : Q none z) : V E mX3_markOnce d 0 [(0, rf E 1), (1, vi x1)] [] M Q := by
  unfold f_X3_markOnce at hF
  refine V.aload_n 0 0 0 rfl dX3_markOnce_0 rfl ?_
  refine V.get (by decide) (hcX3 E _) rfl inX3 5 (by decide) rfl gw_95 dX3_markOnce_1 ?_
  refine V.iload_n 1 1 1 rfl dX3_markOnce_4 rfl ?_
  replace hF := Option.bind_eq_some_iff.mp hF
  obtain ⟨v1, hv1, hF⟩ := hF
  refine V.callSN (d' := d - 1) (host := "FatLean") [vi (M 1 5), vi x1] [] (c_X5_has (by omega) hv1) okX5_has (nw_5) rfl rfl (Nat.le_of_ble_eq_true rfl) (by omega) dX3_markOnce_5 ?_
  rintro _ _ ⟨rfl, rfl⟩
  show V E mX3_markOnce d 8 [(0, rf E 1), (1, vi x1)] [vi v1] M _
  refine V.if_eq (tgt := 16) rfl dX3_markOnce_8 (by decide) (fun hc => ?_) (fun hc => ?_)
  · rw [if_pos hc] at hF
    exact v_X3_markOnce_16 hd hF hK
  · rw [if_neg hc] at hF
    refine V.aload_n 0 0 0 rfl dX3_markOnce_11 rfl ?_
    refine V.iconst 4 dX3_markOnce_12 ?_
    replace hF := Option.bind_eq_some_iff.mp hF
    obtain ⟨M2, hM2, hF⟩ := hF
    refine V.callV (d' := d - 1) [vi 4] [] (c_X3_fail (by omega) hM2) okX3_fail gw_356 rfl rfl (by decide) (hcX3 E _) rfl (Nat.le_of_ble_eq_true rfl) (by omega) dX3_markOnce_13 ?_
    rintro _ _ ⟨rfl, rfl⟩
    show V E mX3_markOnce d 16 [(0, rf E 1), (1, vi x1)] [] M2 _
    exact v_X3_markOnce_16 hd hF hK
theorem c_X3_markOnce {E : En} {d : Nat} {x1 : Int} {M : Mem} {z : Mem}  (hd : 2 ≤ d) (hF : f_X3_markOnce x1 M = some z) : Cn E mX3_markOnce d [rf E 1, vi x1] M (fun v N => v = none ∧ z = N) := by
  refine V.entry (by decide +kernel) (Nat.le_of_ble_eq_true rfl) ?_
  exact v_X3_markOnce_0  hd hF ⟨rfl, rfl⟩
abbrev mX3_takePeople : MI := (yX3_takePeople, cX3_takePeople, 1, none)
theorem okX3_takePeople : OKV mX3_takePeople 0 := ⟨gw_446, gw_9, gw_59, gw_447, (by decide +kernel), (by decide)⟩
def f_X3_takePeople (n : Nat) (M : Mem) : Option (Mem) :=
  (f_X3_markOnce 0 M).bind fun M1 =>
  (ckX2 (M1 1 4)).bind fun c2 =>
  (f_X3_takeWithin n 0 40 M1).bind fun (v3, M4) =>
  (some (st M4 c2 6 v3)).bind fun M5 =>
  (ckX2 (M5 1 4)).bind fun c6 =>
  (f_X3_takeWithin n 0 20 M5).bind fun (v7, M8) =>
  (some (st M8 c6 7 v7)).bind fun M9 =>
  some M9
set_option maxRecDepth 10000 in
theorem v_X3_takePeople_0 {E : En} {d : Nat} {Q : Po} {n : Nat} {M : Mem} {z : Mem}  (hd : 5 ≤ d) (hF : f_X3_takePeople n M = some z) (hK : Q none z) : V E mX3_takePeople d 0 [(0, rf E 1)] [] M Q := by
  unfold f_X3_takePeople at hF
  refine V.aload_n 0 0 0 rfl dX3_takePeople_0 rfl ?_
  refine V.iconst 0 dX3_takePeople_1 ?_
  replace hF := Option.bind_eq_some_iff.mp hF
  obtain ⟨M1, hM1, hF⟩ := hF
  refine V.callV (d' := d - 1) [vi 0] [] (c_X3_markOnce (by omega) hM1) okX3_markOnce gw_448 rfl rfl (by decide) (hcX3 E _) rfl (Nat.le_of_ble_eq_true rfl) (by omega) dX3_takePeople_2 ?_
  rintro _ _ ⟨rfl, rfl⟩
  show V E mX3_takePeople d 5 [(0, rf E 1)] [] M1 _
  refine V.aload_n 0 0 0 rfl dX3_takePeople_5 rfl ?_
  replace hF := Option.bind_eq_some_iff.mp hF
  obtain ⟨c2, hc2, hF⟩ := hF
  refine V.getD hc2 (by decide) (hcX3 E _) rfl inX3 4 (by decide) rfl gw_94 dX3_takePeople_6 ?_
  refine V.aload_n 0 0 0 rfl dX3_takePeople_9 rfl ?_
  refine V.iconst 0 dX3_takePeople_10 ?_
  refine V.bipush 40 40 (by decide) dX3_takePeople_11 ?_
  replace hF := Option.bind_eq_some_iff.mp hF
  obtain ⟨⟨v3, M4⟩, hv3, hF⟩ := hF
  dsimp only at hF
  refine V.callV (d' := d - 1) [vi 0, vi 40] [rf E c2] (c_X3_takeWithin (by omega) hv3) okX3_takeWithin gw_421 rfl rfl (by decide) (hcX3 E _) rfl (Nat.le_of_ble_eq_true rfl) (by omega) dX3_takePeople_13 ?_
  rintro _ _ ⟨rfl, rfl⟩
  show V E mX3_takePeople d 16 [(0, rf E 1)] [vi v3, rf E c2] M4 _
  replace hF := Option.bind_eq_some_iff.mp hF
  obtain ⟨M5, hM5, hF⟩ := hF
  refine V.put (x := v3) (ty := .int) (Option.some.inj hM5) (ltX2 (ck_is hc2)) (hcX2 (ck_is hc2) E) rfl inX2 tyX2 tyX2_ok nmX2 (by decide) rfl (by decide +kernel) rfl rfl (Nat.le_of_ble_eq_true rfl) rfl gw_149 dX3_takePeople_16 ?_
  refine V.aload_n 0 0 0 rfl dX3_takePeople_19 rfl ?_
  replace hF := Option.bind_eq_some_iff.mp hF
  obtain ⟨c6, hc6, hF⟩ := hF
  refine V.getD hc6 (by decide) (hcX3 E _) rfl inX3 4 (by decide) rfl gw_94 dX3_takePeople_20 ?_
  refine V.aload_n 0 0 0 rfl dX3_takePeople_23 rfl ?_
  refine V.iconst 0 dX3_takePeople_24 ?_
  refine V.bipush 20 20 (by decide) dX3_takePeople_25 ?_
  replace hF := Option.bind_eq_some_iff.mp hF
  obtain ⟨⟨v7, M8⟩, hv7, hF⟩ := hF
  dsimp only at hF
  refine V.callV (d' := d - 1) [vi 0, vi 20] [rf E c6] (c_X3_takeWithin (by omega) hv7) okX3_takeWithin gw_421 rfl rfl (by decide) (hcX3 E _) rfl (Nat.le_of_ble_eq_true rfl) (by omega) dX3_takePeople_27 ?_
  rintro _ _ ⟨rfl, rfl⟩
  show V E mX3_takePeople d 30 [(0, rf E 1)] [vi v7, rf E c6] M8 _
  replace hF := Option.bind_eq_some_iff.mp hF
  obtain ⟨M9, hM9, hF⟩ := hF
  refine V.put (x := v7) (ty := .int) (Option.some.inj hM9) (ltX2 (ck_is hc6)) (hcX2 (ck_is hc6) E) rfl inX2 tyX2 tyX2_ok nmX2 (by decide) rfl (by decide +kernel) rfl rfl (Nat.le_of_ble_eq_true rfl) rfl gw_153 dX3_takePeople_30 ?_
  cases Option.some.inj hF
  exact V.vret rfl dX3_takePeople_33 hK
theorem c_X3_takePeople {E : En} {d : Nat} {n : Nat} {M : Mem} {z : Mem}  (hd : 5 ≤ d) (hF : f_X3_takePeople n M = some z) : Cn E mX3_takePeople d [rf E 1] M (fun v N => v = none ∧ z = N) := by
  refine V.entry (by decide +kernel) (Nat.le_of_ble_eq_true rfl) ?_
  exact v_X3_takePeople_0  hd hF ⟨rfl, rfl⟩
abbrev mX3_takeGranary : MI := (yX3_takeGranary, cX3_takeGranary, 1, none)
theorem okX3_takeGranary : OKV mX3_takeGranary 0 := ⟨gw_458, gw_11, gw_59, gw_459, (by decide +kernel), (by decide)⟩
def f_X3_takeGranary_51 (n : Nat) (M : Mem) : Option (Mem) :=
  (ckX2 (M 1 4)).bind fun c1 =>
  (ckX2 (M 1 4)).bind fun c2 =>
  (f_X3_takeWithin n 0 (M c2 8) M).bind fun (v3, M4) =>
  (some (st M4 c1 10 v3)).bind fun M5 =>
  some M5
set_option maxRecDepth 10000 in
theorem v_X3_takeGranary_51 {E : En} {d : Nat} {Q : Po} {n : Nat} {M : Mem} {z : Mem}  (hd : 5 ≤ d) (hF : f_X3_takeGranary_51 n M = some z) (hK : Q none z) : V E mX3_takeGranary d 51 [(0, rf E 1)] [] M Q := by
  unfold f_X3_takeGranary_51 at hF
  refine V.aload_n 0 0 0 rfl dX3_takeGranary_51 rfl ?_
  replace hF := Option.bind_eq_some_iff.mp hF
  obtain ⟨c1, hc1, hF⟩ := hF
  refine V.getD hc1 (by decide) (hcX3 E _) rfl inX3 4 (by decide) rfl gw_94 dX3_takeGranary_52 ?_
  refine V.aload_n 0 0 0 rfl dX3_takeGranary_55 rfl ?_
  refine V.iconst 0 dX3_takeGranary_56 ?_
  refine V.aload_n 0 0 0 rfl dX3_takeGranary_57 rfl ?_
  replace hF := Option.bind_eq_some_iff.mp hF
  obtain ⟨c2, hc2, hF⟩ := hF
  refine V.getD hc2 (by decide) (hcX3 E _) rfl inX3 4 (by decide) rfl gw_94 dX3_takeGranary_58 ?_
  refine V.get (ltX2 (ck_is hc2)) (hcX2 (ck_is hc2) E _) rfl inX2 8 (by decide) rfl gw_157 dX3_takeGranary_61 ?_
  replace hF := Option.bind_eq_some_iff.mp hF
  obtain ⟨⟨v3, M4⟩, hv3, hF⟩ := hF
  dsimp only at hF
  refine V.callV (d' := d - 1) [vi 0, vi (M c2 8)] [rf E c1] (c_X3_takeWithin (by omega) hv3) okX3_takeWithin gw_421 rfl rfl (by decide) (hcX3 E _) rfl (Nat.le_of_ble_eq_true rfl) (by omega) dX3_takeGranary_64 ?_
  rintro _ _ ⟨rfl, rfl⟩
  show V E mX3_takeGranary d 67 [(0, rf E 1)] [vi v3, rf E c1] M4 _
  replace hF := Option.bind_eq_some_iff.mp hF
  obtain ⟨M5, hM5, hF⟩ := hF
  refine V.put (x := v3) (ty := .int) (Option.some.inj hM5) (ltX2 (ck_is hc1)) (hcX2 (ck_is hc1) E) rfl inX2 tyX2 tyX2_ok nmX2 (by decide) rfl (by decide +kernel) rfl rfl (Nat.le_of_ble_eq_true rfl) rfl gw_164 dX3_takeGranary_67 ?_
  cases Option.some.inj hF
  exact V.vret rfl dX3_takeGranary_70 hK
def f_X3_takeGranary (n : Nat) (M : Mem) : Option (Mem) :=
  (f_X3_markOnce 1 M).bind fun M1 =>
  (ckX2 (M1 1 4)).bind fun c2 =>
  (f_X3_takeWithin n 0 40 M1).bind fun (v3, M4) =>
  (some (st M4 c2 8 v3)).bind fun M5 =>
  (ckX2 (M5 1 4)).bind fun c6 =>
  (f_X3_takeWithin n 0 9 M5).bind fun (v7, M8) =>
  (some (st M8 c6 9 v7)).bind fun M9 =>
  (ckX2 (M9 1 4)).bind fun c10 =>
  (f_X5_isRot (M9 c10 9) M9).bind fun v11 =>
  if wr v11 = 0 then
    (f_X3_fail 3 M9).bind fun M12 =>
    f_X3_takeGranary_51 n M12
  else
    f_X3_takeGranary_51 n M9
set_option maxRecDepth 10000 in
theorem v_X3_takeGranary_0 {E : En} {d : Nat} {Q : Po} {n : Nat} {M : Mem} {z : Mem}  (hd : 5 ≤ d) (hF : f_X3_takeGranary n M = some z) (hK : Q none z) : V E mX3_takeGranary d 0 [(0, rf E 1)] [] M Q := by
  unfold f_X3_takeGranary at hF
  refine V.aload_n 0 0 0 rfl dX3_takeGranary_0 rfl ?_
  refine V.iconst 1 dX3_takeGranary_1 ?_
  replace hF := Option.bind_eq_some_iff.mp hF
  obtain ⟨M1, hM1, hF⟩ := hF
  refine V.callV (d' := d - 1) [vi 1] [] (c_X3_markOnce (by omega) hM1) okX3_markOnce gw_448 rfl rfl (by decide) (hcX3 E _) rfl (Nat.le_of_ble_eq_true rfl) (by omega) dX3_takeGranary_2 ?_
  rintro _ _ ⟨rfl, rfl⟩
  show V E mX3_takeGranary d 5 [(0, rf E 1)] [] M1 _
  refine V.aload_n 0 0 0 rfl dX3_takeGranary_5 rfl ?_
  replace hF := Option.bind_eq_some_iff.mp hF
  obtain ⟨c2, hc2, hF⟩ := hF
  refine V.getD hc2 (by decide) (hcX3 E _) rfl inX3 4 (by decide) rfl gw_94 dX3_takeGranary_6 ?_
  refine V.aload_n 0 0 0 rfl dX3_takeGranary_9 rfl ?_
  refine V.iconst 0 dX3_takeGranary_10 ?_
  refine V.bipush 40 40 (by decide) dX3_takeGranary_11 ?_
  replace hF := Option.bind_eq_some_iff.mp hF
  obtain ⟨⟨v3, M4⟩, hv3, hF⟩ := hF
  dsimp only at hF
  refine V.callV (d' := d - 1) [vi 0, vi 40] [rf E c2] (c_X3_takeWithin (by omega) hv3) okX3_takeWithin gw_421 rfl rfl (by decide) (hcX3 E _) rfl (Nat.le_of_ble_eq_true rfl) (by omega) dX3_takeGranary_13 ?_
  rintro _ _ ⟨rfl, rfl⟩
  show V E mX3_takeGranary d 16 [(0, rf E 1)] [vi v3, rf E c2] M4 _
  replace hF := Option.bind_eq_some_iff.mp hF
  obtain ⟨M5, hM5, hF⟩ := hF
  refine V.put (x := v3) (ty := .int) (Option.some.inj hM5) (ltX2 (ck_is hc2)) (hcX2 (ck_is hc2) E) rfl inX2 tyX2 tyX2_ok nmX2 (by decide) rfl (by decide +kernel) rfl rfl (Nat.le_of_ble_eq_true rfl) rfl gw_157 dX3_takeGranary_16 ?_
  refine V.aload_n 0 0 0 rfl dX3_takeGranary_19 rfl ?_
  replace hF := Option.bind_eq_some_iff.mp hF
  obtain ⟨c6, hc6, hF⟩ := hF
  refine V.getD hc6 (by decide) (hcX3 E _) rfl inX3 4 (by decide) rfl gw_94 dX3_takeGranary_20 ?_
  refine V.aload_n 0 0 0 rfl dX3_takeGranary_23 rfl ?_
  refine V.iconst 0 dX3_takeGranary_24 ?_
  refine V.bipush 9 9 (by decide) dX3_takeGranary_25 ?_
  replace hF := Option.bind_eq_some_iff.mp hF
  obtain ⟨⟨v7, M8⟩, hv7, hF⟩ := hF
  dsimp only at hF
  refine V.callV (d' := d - 1) [vi 0, vi 9] [rf E c6] (c_X3_takeWithin (by omega) hv7) okX3_takeWithin gw_421 rfl rfl (by decide) (hcX3 E _) rfl (Nat.le_of_ble_eq_true rfl) (by omega) dX3_takeGranary_27 ?_
  rintro _ _ ⟨rfl, rfl⟩
  show V E mX3_takeGranary d 30 [(0, rf E 1)] [vi v7, rf E c6] M8 _
  replace hF := Option.bind_eq_some_iff.mp hF
  obtain ⟨M9, hM9, hF⟩ := hF
  refine V.put (x := v7) (ty := .int) (Option.some.inj hM9) (ltX2 (ck_is hc6)) (hcX2 (ck_is hc6) E) rfl inX2 tyX2 tyX2_ok nmX2 (by decide) rfl (by decide +kernel) rfl rfl (Nat.le_of_ble_eq_true rfl) rfl gw_160 dX3_takeGranary_30 ?_
  refine V.aload_n 0 0 0 rfl dX3_takeGranary_33 rfl ?_
  replace hF := Option.bind_eq_some_iff.mp hF
  obtain ⟨c10, hc10, hF⟩ := hF
  refine V.getD hc10 (by decide) (hcX3 E _) rfl inX3 4 (by decide) rfl gw_94 dX3_takeGranary_34 ?_
  refine V.get (ltX2 (ck_is hc10)) (hcX2 (ck_is hc10) E _) rfl inX2 9 (by decide) rfl gw_160 dX3_takeGranary_37 ?_
  replace hF := Option.bind_eq_some_iff.mp hF
  obtain ⟨v11, hv11, hF⟩ := hF
  refine V.callSN (d' := d - 1) (host := "FatLean") [vi (M9 c10 9)] [] (c_X5_isRot (by omega) hv11) okX5_isRot (nw_6) rfl rfl (Nat.le_of_ble_eq_true rfl) (by omega) dX3_takeGranary_40 ?_
  rintro _ _ ⟨rfl, rfl⟩
  show V E mX3_takeGranary d 43 [(0, rf E 1)] [vi v11] M9 _
  refine V.if_ne (tgt := 51) rfl dX3_takeGranary_43 (by decide) (fun hc => ?_) (fun hc => ?_)
  · rw [if_neg hc] at hF
    exact v_X3_takeGranary_51 hd hF hK
  · rw [if_pos hc] at hF
    refine V.aload_n 0 0 0 rfl dX3_takeGranary_46 rfl ?_
    refine V.iconst 3 dX3_takeGranary_47 ?_
    replace hF := Option.bind_eq_some_iff.mp hF
    obtain ⟨M12, hM12, hF⟩ := hF
    refine V.callV (d' := d - 1) [vi 3] [] (c_X3_fail (by omega) hM12) okX3_fail gw_356 rfl rfl (by decide) (hcX3 E _) rfl (Nat.le_of_ble_eq_true rfl) (by omega) dX3_takeGranary_48 ?_
    rintro _ _ ⟨rfl, rfl⟩
    show V E mX3_takeGranary d 51 [(0, rf E 1)] [] M12 _
    exact v_X3_takeGranary_51 hd hF hK
theorem c_X3_takeGranary {E : En} {d : Nat} {n : Nat} {M : Mem} {z : Mem}  (hd : 5 ≤ d) (hF : f_X3_takeGranary n M = some z) : Cn E mX3_takeGranary d [rf E 1] M (fun v N => v = none ∧ z = N) := by
  refine V.entry (by decide +kernel) (Nat.le_of_ble_eq_true rfl) ?_
  exact v_X3_takeGranary_0  hd hF ⟨rfl, rfl⟩
abbrev mX3_takePrice : MI := (yX3_takePrice, cX3_takePrice, 1, none)
theorem okX3_takePrice : OKV mX3_takePrice 0 := ⟨gw_466, gw_12, gw_59, gw_467, (by decide +kernel), (by decide)⟩
def f_X3_takePrice (n : Nat) (M : Mem) : Option (Mem) :=
  (f_X3_markOnce 2 M).bind fun M1 =>
  (ckX2 (M1 1 4)).bind fun c2 =>
  (f_X3_takeWithin n 0 9 M1).bind fun (v3, M4) =>
  (some (st M4 c2 11 v3)).bind fun M5 =>
  (ckX2 (M5 1 4)).bind fun c6 =>
  (f_X3_takeWithin n 0 9 M5).bind fun (v7, M8) =>
  (some (st M8 c6 12 v7)).bind fun M9 =>
  some M9
set_option maxRecDepth 10000 in
theorem v_X3_takePrice_0 {E : En} {d : Nat} {Q : Po} {n : Nat} {M : Mem} {z : Mem}  (hd : 5 ≤ d) (hF : f_X3_takePrice n M = some z) (hK : Q none z) : V E mX3_takePrice d 0 [(0, rf E 1)] [] M Q := by
  unfold f_X3_takePrice at hF
  refine V.aload_n 0 0 0 rfl dX3_takePrice_0 rfl ?_
  refine V.iconst 2 dX3_takePrice_1 ?_
  replace hF := Option.bind_eq_some_iff.mp hF
  obtain ⟨M1, hM1, hF⟩ := hF
  refine V.callV (d' := d - 1) [vi 2] [] (c_X3_markOnce (by omega) hM1) okX3_markOnce gw_448 rfl rfl (by decide) (hcX3 E _) rfl (Nat.le_of_ble_eq_true rfl) (by omega) dX3_takePrice_2 ?_
  rintro _ _ ⟨rfl, rfl⟩
  show V E mX3_takePrice d 5 [(0, rf E 1)] [] M1 _
  refine V.aload_n 0 0 0 rfl dX3_takePrice_5 rfl ?_
  replace hF := Option.bind_eq_some_iff.mp hF
  obtain ⟨c2, hc2, hF⟩ := hF
  refine V.getD hc2 (by decide) (hcX3 E _) rfl inX3 4 (by decide) rfl gw_94 dX3_takePrice_6 ?_
  refine V.aload_n 0 0 0 rfl dX3_takePrice_9 rfl ?_
  refine V.iconst 0 dX3_takePrice_10 ?_
  refine V.bipush 9 9 (by decide) dX3_takePrice_11 ?_
  replace hF := Option.bind_eq_some_iff.mp hF
  obtain ⟨⟨v3, M4⟩, hv3, hF⟩ := hF
  dsimp only at hF
  refine V.callV (d' := d - 1) [vi 0, vi 9] [rf E c2] (c_X3_takeWithin (by omega) hv3) okX3_takeWithin gw_421 rfl rfl (by decide) (hcX3 E _) rfl (Nat.le_of_ble_eq_true rfl) (by omega) dX3_takePrice_13 ?_
  rintro _ _ ⟨rfl, rfl⟩
  show V E mX3_takePrice d 16 [(0, rf E 1)] [vi v3, rf E c2] M4 _
  replace hF := Option.bind_eq_some_iff.mp hF
  obtain ⟨M5, hM5, hF⟩ := hF
  refine V.put (x := v3) (ty := .int) (Option.some.inj hM5) (ltX2 (ck_is hc2)) (hcX2 (ck_is hc2) E) rfl inX2 tyX2 tyX2_ok nmX2 (by decide) rfl (by decide +kernel) rfl rfl (Nat.le_of_ble_eq_true rfl) rfl gw_167 dX3_takePrice_16 ?_
  refine V.aload_n 0 0 0 rfl dX3_takePrice_19 rfl ?_
  replace hF := Option.bind_eq_some_iff.mp hF
  obtain ⟨c6, hc6, hF⟩ := hF
  refine V.getD hc6 (by decide) (hcX3 E _) rfl inX3 4 (by decide) rfl gw_94 dX3_takePrice_20 ?_
  refine V.aload_n 0 0 0 rfl dX3_takePrice_23 rfl ?_
  refine V.iconst 0 dX3_takePrice_24 ?_
  refine V.bipush 9 9 (by decide) dX3_takePrice_25 ?_
  replace hF := Option.bind_eq_some_iff.mp hF
  obtain ⟨⟨v7, M8⟩, hv7, hF⟩ := hF
  dsimp only at hF
  refine V.callV (d' := d - 1) [vi 0, vi 9] [rf E c6] (c_X3_takeWithin (by omega) hv7) okX3_takeWithin gw_421 rfl rfl (by decide) (hcX3 E _) rfl (Nat.le_of_ble_eq_true rfl) (by omega) dX3_takePrice_27 ?_
  rintro _ _ ⟨rfl, rfl⟩
  show V E mX3_takePrice d 30 [(0, rf E 1)] [vi v7, rf E c6] M8 _
  replace hF := Option.bind_eq_some_iff.mp hF
  obtain ⟨M9, hM9, hF⟩ := hF
  refine V.put (x := v7) (ty := .int) (Option.some.inj hM9) (ltX2 (ck_is hc6)) (hcX2 (ck_is hc6) E) rfl inX2 tyX2 tyX2_ok nmX2 (by decide) rfl (by decide +kernel) rfl rfl (Nat.le_of_ble_eq_true rfl) rfl gw_170 dX3_takePrice_30 ?_
  cases Option.some.inj hF
  exact V.vret rfl dX3_takePrice_33 hK
theorem c_X3_takePrice {E : En} {d : Nat} {n : Nat} {M : Mem} {z : Mem}  (hd : 5 ≤ d) (hF : f_X3_takePrice n M = some z) : Cn E mX3_takePrice d [rf E 1] M (fun v N => v = none ∧ z = N) := by
  refine V.entry (by decide +kernel) (Nat.le_of_ble_eq_true rfl) ?_
  exact v_X3_takePrice_0  hd hF ⟨rfl, rfl⟩
abbrev mX3_takeKind : MI := (yX3_takeKind, cX3_takeKind, 1, (some .int))
theorem okX3_takeKind : OKV mX3_takeKind 0 := ⟨gw_475, gw_14, gw_59, gw_476, (by decide +kernel), (by decide)⟩
def f_X3_takeKind (n : Nat) (M : Mem) : Option (Int × Mem) :=
  (f_X3_take n M).bind fun M1 =>
  (f_X3_isWord n 6 M1).bind fun v2 =>
  if wr v2 = 0 then
    (f_X3_isWord n 7 M1).bind fun v3 =>
    if wr v3 = 0 then
      (f_X3_isWord n 8 M1).bind fun v4 =>
      if wr v4 = 0 then
        (f_X3_isWord n 9 M1).bind fun v5 =>
        if wr v5 = 0 then
          (f_X3_isWord n 10 M1).bind fun v6 =>
          if wr v6 = 0 then
            (f_X3_fail 2 M1).bind fun M7 =>
            some (0, M7)
          else
            some (4, M1)
        else
          some (3, M1)
      else
        some (2, M1)
    else
      some (1, M1)
  else
    some (0, M1)
set_option maxRecDepth 10000 in
theorem v_X3_takeKind_0 {E : En} {d : Nat} {Q : Po} {n : Nat} {M : Mem} {z : Int × Mem}  (hd : 8 ≤ d) (hF : f_X3_takeKind n M = some z) (hK : Q (some (vi z.1)) z.2) : V E mX3_takeKind d 0 [(0, rf E 1)] [] M Q := by
  unfold f_X3_takeKind at hF
  refine V.aload_n 0 0 0 rfl dX3_takeKind_0 rfl ?_
  replace hF := Option.bind_eq_some_iff.mp hF
  obtain ⟨M1, hM1, hF⟩ := hF
  refine V.callV (d' := d - 1) [] [] (c_X3_take (by omega) hM1) okX3_take gw_338 rfl rfl (by decide) (hcX3 E _) rfl (Nat.le_of_ble_eq_true rfl) (by omega) dX3_takeKind_1 ?_
  rintro _ _ ⟨rfl, rfl⟩
  show V E mX3_takeKind d 4 [(0, rf E 1)] [] M1 _
  refine V.aload_n 0 0 0 rfl dX3_takeKind_4 rfl ?_
  refine V.ldcS 6 173 "all" rfl rfl dX3_takeKind_5 ?_
  replace hF := Option.bind_eq_some_iff.mp hF
  obtain ⟨v2, hv2, hF⟩ := hF
  refine V.callV (d' := d - 1) [Value.ref (eK E 6)] [] (c_X3_isWord (by decide) (by omega) hv2) okX3_isWord gw_365 rfl rfl (by decide) (hcX3 E _) rfl (Nat.le_of_ble_eq_true rfl) (by omega) dX3_takeKind_7 ?_
  rintro _ _ ⟨rfl, rfl⟩
  show V E mX3_takeKind d 10 [(0, rf E 1)] [vi v2] M1 _
  refine V.if_eq (tgt := 15) rfl dX3_takeKind_10 (by decide) (fun hc => ?_) (fun hc => ?_)
  · rw [if_pos hc] at hF
    refine V.aload_n 0 0 0 rfl dX3_takeKind_15 rfl ?_
    refine V.ldcS 7 175 "part" rfl rfl dX3_takeKind_16 ?_
    replace hF := Option.bind_eq_some_iff.mp hF
    obtain ⟨v3, hv3, hF⟩ := hF
    refine V.callV (d' := d - 1) [Value.ref (eK E 7)] [] (c_X3_isWord (by decide) (by omega) hv3) okX3_isWord gw_365 rfl rfl (by decide) (hcX3 E _) rfl (Nat.le_of_ble_eq_true rfl) (by omega) dX3_takeKind_18 ?_
    rintro _ _ ⟨rfl, rfl⟩
    show V E mX3_takeKind d 21 [(0, rf E 1)] [vi v3] M1 _
    refine V.if_eq (tgt := 26) rfl dX3_takeKind_21 (by decide) (fun hc => ?_) (fun hc => ?_)
    · rw [if_pos hc] at hF
      refine V.aload_n 0 0 0 rfl dX3_takeKind_26 rfl ?_
      refine V.ldcS 8 177 "level" rfl rfl dX3_takeKind_27 ?_
      replace hF := Option.bind_eq_some_iff.mp hF
      obtain ⟨v4, hv4, hF⟩ := hF
      refine V.callV (d' := d - 1) [Value.ref (eK E 8)] [] (c_X3_isWord (by decide) (by omega) hv4) okX3_isWord gw_365 rfl rfl (by decide) (hcX3 E _) rfl (Nat.le_of_ble_eq_true rfl) (by omega) dX3_takeKind_29 ?_
      rintro _ _ ⟨rfl, rfl⟩
      show V E mX3_takeKind d 32 [(0, rf E 1)] [vi v4] M1 _
      refine V.if_eq (tgt := 37) rfl dX3_takeKind_32 (by decide) (fun hc => ?_) (fun hc => ?_)
      · rw [if_pos hc] at hF
        refine V.aload_n 0 0 0 rfl dX3_takeKind_37 rfl ?_
        refine V.ldcS 9 179 "none" rfl rfl dX3_takeKind_38 ?_
        replace hF := Option.bind_eq_some_iff.mp hF
        obtain ⟨v5, hv5, hF⟩ := hF
        refine V.callV (d' := d - 1) [Value.ref (eK E 9)] [] (c_X3_isWord (by decide) (by omega) hv5) okX3_isWord gw_365 rfl rfl (by decide) (hcX3 E _) rfl (Nat.le_of_ble_eq_true rfl) (by omega) dX3_takeKind_40 ?_
        rintro _ _ ⟨rfl, rfl⟩
        show V E mX3_takeKind d 43 [(0, rf E 1)] [vi v5] M1 _
        refine V.if_eq (tgt := 48) rfl dX3_takeKind_43 (by decide) (fun hc => ?_) (fun hc => ?_)
        · rw [if_pos hc] at hF
          refine V.aload_n 0 0 0 rfl dX3_takeKind_48 rfl ?_
          refine V.ldcS 10 181 "need" rfl rfl dX3_takeKind_49 ?_
          replace hF := Option.bind_eq_some_iff.mp hF
          obtain ⟨v6, hv6, hF⟩ := hF
          refine V.callV (d' := d - 1) [Value.ref (eK E 10)] [] (c_X3_isWord (by decide) (by omega) hv6) okX3_isWord gw_365 rfl rfl (by decide) (hcX3 E _) rfl (Nat.le_of_ble_eq_true rfl) (by omega) dX3_takeKind_51 ?_
          rintro _ _ ⟨rfl, rfl⟩
          show V E mX3_takeKind d 54 [(0, rf E 1)] [vi v6] M1 _
          refine V.if_eq (tgt := 59) rfl dX3_takeKind_54 (by decide) (fun hc => ?_) (fun hc => ?_)
          · rw [if_pos hc] at hF
            refine V.aload_n 0 0 0 rfl dX3_takeKind_59 rfl ?_
            refine V.iconst 2 dX3_takeKind_60 ?_
            replace hF := Option.bind_eq_some_iff.mp hF
            obtain ⟨M7, hM7, hF⟩ := hF
            refine V.callV (d' := d - 1) [vi 2] [] (c_X3_fail (by omega) hM7) okX3_fail gw_356 rfl rfl (by decide) (hcX3 E _) rfl (Nat.le_of_ble_eq_true rfl) (by omega) dX3_takeKind_61 ?_
            rintro _ _ ⟨rfl, rfl⟩
            show V E mX3_takeKind d 64 [(0, rf E 1)] [] M7 _
            refine V.iconst 0 dX3_takeKind_64 ?_
            cases Option.some.inj hF
            exact V.iret rfl dX3_takeKind_65 hK
          · rw [if_neg hc] at hF
            refine V.iconst 4 dX3_takeKind_57 ?_
            cases Option.some.inj hF
            exact V.iret rfl dX3_takeKind_58 hK
        · rw [if_neg hc] at hF
          refine V.iconst 3 dX3_takeKind_46 ?_
          cases Option.some.inj hF
          exact V.iret rfl dX3_takeKind_47 hK
      · rw [if_neg hc] at hF
        refine V.iconst 2 dX3_takeKind_35 ?_
        cases Option.some.inj hF
        exact V.iret rfl dX3_takeKind_36 hK
    · rw [if_neg hc] at hF
      refine V.iconst 1 dX3_takeKind_24 ?_
      cases Option.some.inj hF
      exact V.iret rfl dX3_takeKind_25 hK
  · rw [if_neg hc] at hF
    refine V.iconst 0 dX3_takeKind_13 ?_
    cases Option.some.inj hF
    exact V.iret rfl dX3_takeKind_14 hK
theorem c_X3_takeKind {E : En} {d : Nat} {n : Nat} {M : Mem} {zr : Int} {zM : Mem}  (hd : 8 ≤ d) (hF : f_X3_takeKind n M = some (zr, zM)) : Cn E mX3_takeKind d [rf E 1] M (fun v N => v = some (vi zr) ∧ zM = N) := by
  refine V.entry (by decide +kernel) (Nat.le_of_ble_eq_true rfl) ?_
  exact v_X3_takeKind_0  hd hF ⟨rfl, rfl⟩
abbrev mX3_takeSteward : MI := (yX3_takeSteward, cX3_takeSteward, 3, none)
theorem okX3_takeSteward : OKV mX3_takeSteward 0 := ⟨gw_471, gw_13, gw_59, gw_472, (by decide +kernel), (by decide)⟩
def f_X3_takeSteward (n : Nat) (M : Mem) : Option (Mem) :=
  (f_X3_markOnce 3 M).bind fun M1 =>
  (f_X3_takeKind n M1).bind fun (v2, M3) =>
  (f_X3_takeWithin n 0 9 M3).bind fun (v4, M5) =>
  (ckX2 (M5 1 4)).bind fun c6 =>
  (f_X2_appoint c6 v2 v4 M5).bind fun M7 =>
  some M7
set_option maxRecDepth 10000 in
theorem v_X3_takeSteward_0 {E : En} {d : Nat} {Q : Po} {n : Nat} {M : Mem} {z : Mem}  (hd : 9 ≤ d) (hF : f_X3_takeSteward n M = some z) (hK : Q none z) : V E mX3_takeSteward d 0 [(0, rf E 1)] [] M Q := by
  unfold f_X3_takeSteward at hF
  refine V.aload_n 0 0 0 rfl dX3_takeSteward_0 rfl ?_
  refine V.iconst 3 dX3_takeSteward_1 ?_
  replace hF := Option.bind_eq_some_iff.mp hF
  obtain ⟨M1, hM1, hF⟩ := hF
  refine V.callV (d' := d - 1) [vi 3] [] (c_X3_markOnce (by omega) hM1) okX3_markOnce gw_448 rfl rfl (by decide) (hcX3 E _) rfl (Nat.le_of_ble_eq_true rfl) (by omega) dX3_takeSteward_2 ?_
  rintro _ _ ⟨rfl, rfl⟩
  show V E mX3_takeSteward d 5 [(0, rf E 1)] [] M1 _
  refine V.aload_n 0 0 0 rfl dX3_takeSteward_5 rfl ?_
  replace hF := Option.bind_eq_some_iff.mp hF
  obtain ⟨⟨v2, M3⟩, hv2, hF⟩ := hF
  dsimp only at hF
  refine V.callV (d' := d - 1) [] [] (c_X3_takeKind (by omega) hv2) okX3_takeKind gw_473 rfl rfl (by decide) (hcX3 E _) rfl (Nat.le_of_ble_eq_true rfl) (by omega) dX3_takeSteward_6 ?_
  rintro _ _ ⟨rfl, rfl⟩
  show V E mX3_takeSteward d 9 [(0, rf E 1)] [vi v2] M3 _
  refine V.istore_n 1 1 [(1, vi v2), (0, rf E 1)] rfl dX3_takeSteward_9 (by decide) rfl ?_
  refine V.aload_n 0 0 1 rfl dX3_takeSteward_10 rfl ?_
  refine V.iconst 0 dX3_takeSteward_11 ?_
  refine V.bipush 9 9 (by decide) dX3_takeSteward_12 ?_
  replace hF := Option.bind_eq_some_iff.mp hF
  obtain ⟨⟨v4, M5⟩, hv4, hF⟩ := hF
  dsimp only at hF
  refine V.callV (d' := d - 1) [vi 0, vi 9] [] (c_X3_takeWithin (by omega) hv4) okX3_takeWithin gw_421 rfl rfl (by decide) (hcX3 E _) rfl (Nat.le_of_ble_eq_true rfl) (by omega) dX3_takeSteward_14 ?_
  rintro _ _ ⟨rfl, rfl⟩
  show V E mX3_takeSteward d 17 [(1, vi v2), (0, rf E 1)] [vi v4] M5 _
  refine V.istore_n 2 2 [(2, vi v4), (1, vi v2), (0, rf E 1)] rfl dX3_takeSteward_17 (by decide) rfl ?_
  refine V.aload_n 0 0 2 rfl dX3_takeSteward_18 rfl ?_
  replace hF := Option.bind_eq_some_iff.mp hF
  obtain ⟨c6, hc6, hF⟩ := hF
  refine V.getD hc6 (by decide) (hcX3 E _) rfl inX3 4 (by decide) rfl gw_94 dX3_takeSteward_19 ?_
  refine V.iload_n 1 1 1 rfl dX3_takeSteward_22 rfl ?_
  refine V.iload_n 2 2 0 rfl dX3_takeSteward_23 rfl ?_
  replace hF := Option.bind_eq_some_iff.mp hF
  obtain ⟨M7, hM7, hF⟩ := hF
  refine V.callV (d' := d - 1) [vi v2, vi v4] [] (c_X2_appoint (ck_is hc6) (by omega) hM7) okX2_appoint gw_482 rfl rfl (ltX2 (ck_is hc6)) (hcX2 (ck_is hc6) E _) rfl (Nat.le_of_ble_eq_true rfl) (by omega) dX3_takeSteward_24 ?_
  rintro _ _ ⟨rfl, rfl⟩
  show V E mX3_takeSteward d 27 [(2, vi v4), (1, vi v2), (0, rf E 1)] [] M7 _
  cases Option.some.inj hF
  exact V.vret rfl dX3_takeSteward_27 hK
theorem c_X3_takeSteward {E : En} {d : Nat} {n : Nat} {M : Mem} {z : Mem}  (hd : 9 ≤ d) (hF : f_X3_takeSteward n M = some z) : Cn E mX3_takeSteward d [rf E 1] M (fun v N => v = none ∧ z = N) := by
  refine V.entry (by decide +kernel) (Nat.le_of_ble_eq_true rfl) ?_
  exact v_X3_takeSteward_0  hd hF ⟨rfl, rfl⟩
abbrev mX3_takeLine : MI := (yX3_takeLine, cX3_takeLine, 1, none)
theorem okX3_takeLine : OKV mX3_takeLine 0 := ⟨gw_361, gw_362, gw_59, gw_363, (by decide +kernel), (by decide)⟩
def f_X3_takeLine_101 (n : Nat) (M : Mem) : Option (Mem) :=
  (f_X3_take n M).bind fun M1 =>
  if wr (M1 1 6) = 2 then
    some M1
  else
    (f_X3_fail 2 M1).bind fun M2 =>
    some M2
set_option maxRecDepth 10000 in
theorem v_X3_takeLine_101 {E : En} {d : Nat} {Q : Po} {n : Nat} {M : Mem} {z : Mem}  (hd : 10 ≤ d) (hF : f_X3_takeLine_101 n M = some z) (hK : Q none z) : V E mX3_takeLine d 101 [(0, rf E 1)] [] M Q := by
  unfold f_X3_takeLine_101 at hF
  refine V.aload_n 0 0 0 rfl dX3_takeLine_101 rfl ?_
  replace hF := Option.bind_eq_some_iff.mp hF
  obtain ⟨M1, hM1, hF⟩ := hF
  refine V.callV (d' := d - 1) [] [] (c_X3_take (by omega) hM1) okX3_take gw_338 rfl rfl (by decide) (hcX3 E _) rfl (Nat.le_of_ble_eq_true rfl) (by omega) dX3_takeLine_102 ?_
  rintro _ _ ⟨rfl, rfl⟩
  show V E mX3_takeLine d 105 [(0, rf E 1)] [] M1 _
  refine V.aload_n 0 0 0 rfl dX3_takeLine_105 rfl ?_
  refine V.get (by decide) (hcX3 E _) rfl inX3 6 (by decide) rfl gw_96 dX3_takeLine_106 ?_
  refine V.iconst 2 dX3_takeLine_109 ?_
  refine V.icmp_eq (tgt := 118) rfl wr_2 dX3_takeLine_110 (by decide) (fun hc => ?_) (fun hc => ?_)
  · rw [if_pos hc] at hF
    cases Option.some.inj hF
    exact V.vret rfl dX3_takeLine_118 hK
  · rw [if_neg hc] at hF
    refine V.aload_n 0 0 0 rfl dX3_takeLine_113 rfl ?_
    refine V.iconst 2 dX3_takeLine_114 ?_
    replace hF := Option.bind_eq_some_iff.mp hF
    obtain ⟨M2, hM2, hF⟩ := hF
    refine V.callV (d' := d - 1) [vi 2] [] (c_X3_fail (by omega) hM2) okX3_fail gw_356 rfl rfl (by decide) (hcX3 E _) rfl (Nat.le_of_ble_eq_true rfl) (by omega) dX3_takeLine_115 ?_
    rintro _ _ ⟨rfl, rfl⟩
    show V E mX3_takeLine d 118 [(0, rf E 1)] [] M2 _
    cases Option.some.inj hF
    exact V.vret rfl dX3_takeLine_118 hK
def f_X3_takeLine (n : Nat) (M : Mem) : Option (Mem) :=
  (f_X3_isWord n 0 M).bind fun v1 =>
  if wr v1 = 0 then
    (f_X3_isWord n 1 M).bind fun v2 =>
    if wr v2 = 0 then
      (f_X3_isWord n 2 M).bind fun v3 =>
      if wr v3 = 0 then
        (f_X3_isWord n 3 M).bind fun v4 =>
        if wr v4 = 0 then
          (f_X3_isWord n 4 M).bind fun v5 =>
          if wr v5 = 0 then
            (f_X3_isWord n 5 M).bind fun v6 =>
            if wr v6 = 0 then
              (f_X3_fail 2 M).bind fun M7 =>
              f_X3_takeLine_101 n M7
            else
              (f_X3_takeSteward n M).bind fun M8 =>
              f_X3_takeLine_101 n M8
          else
            (f_X3_takePrice n M).bind fun M9 =>
            f_X3_takeLine_101 n M9
        else
          (f_X3_takeGranary n M).bind fun M10 =>
          f_X3_takeLine_101 n M10
      else
        (f_X3_takePeople n M).bind fun M11 =>
        f_X3_takeLine_101 n M11
    else
      (f_X3_takeDream n M).bind fun M12 =>
      f_X3_takeLine_101 n M12
  else
    (f_X3_takeLand n M).bind fun M13 =>
    f_X3_takeLine_101 n M13
set_option maxRecDepth 10000 in
theorem v_X3_takeLine_0 {E : En} {d : Nat} {Q : Po} {n : Nat} {M : Mem} {z : Mem}  (hd : 10 ≤ d) (hF : f_X3_takeLine n M = some z) (hK : Q none z) : V E mX3_takeLine d 0 [(0, rf E 1)] [] M Q := by
  unfold f_X3_takeLine at hF
  refine V.aload_n 0 0 0 rfl dX3_takeLine_0 rfl ?_
  refine V.ldcS 0 78 "land" rfl rfl dX3_takeLine_1 ?_
  replace hF := Option.bind_eq_some_iff.mp hF
  obtain ⟨v1, hv1, hF⟩ := hF
  refine V.callV (d' := d - 1) [Value.ref (eK E 0)] [] (c_X3_isWord (by decide) (by omega) hv1) okX3_isWord gw_365 rfl rfl (by decide) (hcX3 E _) rfl (Nat.le_of_ble_eq_true rfl) (by omega) dX3_takeLine_3 ?_
  rintro _ _ ⟨rfl, rfl⟩
  show V E mX3_takeLine d 6 [(0, rf E 1)] [vi v1] M _
  refine V.if_eq (tgt := 16) rfl dX3_takeLine_6 (by decide) (fun hc => ?_) (fun hc => ?_)
  · rw [if_pos hc] at hF
    refine V.aload_n 0 0 0 rfl dX3_takeLine_16 rfl ?_
    refine V.ldcS 1 87 "dream" rfl rfl dX3_takeLine_17 ?_
    replace hF := Option.bind_eq_some_iff.mp hF
    obtain ⟨v2, hv2, hF⟩ := hF
    refine V.callV (d' := d - 1) [Value.ref (eK E 1)] [] (c_X3_isWord (by decide) (by omega) hv2) okX3_isWord gw_365 rfl rfl (by decide) (hcX3 E _) rfl (Nat.le_of_ble_eq_true rfl) (by omega) dX3_takeLine_19 ?_
    rintro _ _ ⟨rfl, rfl⟩
    show V E mX3_takeLine d 22 [(0, rf E 1)] [vi v2] M _
    refine V.if_eq (tgt := 32) rfl dX3_takeLine_22 (by decide) (fun hc => ?_) (fun hc => ?_)
    · rw [if_pos hc] at hF
      refine V.aload_n 0 0 0 rfl dX3_takeLine_32 rfl ?_
      refine V.ldcS 2 92 "people" rfl rfl dX3_takeLine_33 ?_
      replace hF := Option.bind_eq_some_iff.mp hF
      obtain ⟨v3, hv3, hF⟩ := hF
      refine V.callV (d' := d - 1) [Value.ref (eK E 2)] [] (c_X3_isWord (by decide) (by omega) hv3) okX3_isWord gw_365 rfl rfl (by decide) (hcX3 E _) rfl (Nat.le_of_ble_eq_true rfl) (by omega) dX3_takeLine_35 ?_
      rintro _ _ ⟨rfl, rfl⟩
      show V E mX3_takeLine d 38 [(0, rf E 1)] [vi v3] M _
      refine V.if_eq (tgt := 48) rfl dX3_takeLine_38 (by decide) (fun hc => ?_) (fun hc => ?_)
      · rw [if_pos hc] at hF
        refine V.aload_n 0 0 0 rfl dX3_takeLine_48 rfl ?_
        refine V.ldcS 3 97 "granary" rfl rfl dX3_takeLine_49 ?_
        replace hF := Option.bind_eq_some_iff.mp hF
        obtain ⟨v4, hv4, hF⟩ := hF
        refine V.callV (d' := d - 1) [Value.ref (eK E 3)] [] (c_X3_isWord (by decide) (by omega) hv4) okX3_isWord gw_365 rfl rfl (by decide) (hcX3 E _) rfl (Nat.le_of_ble_eq_true rfl) (by omega) dX3_takeLine_51 ?_
        rintro _ _ ⟨rfl, rfl⟩
        show V E mX3_takeLine d 54 [(0, rf E 1)] [vi v4] M _
        refine V.if_eq (tgt := 64) rfl dX3_takeLine_54 (by decide) (fun hc => ?_) (fun hc => ?_)
        · rw [if_pos hc] at hF
          refine V.aload_n 0 0 0 rfl dX3_takeLine_64 rfl ?_
          refine V.ldcS 4 102 "price" rfl rfl dX3_takeLine_65 ?_
          replace hF := Option.bind_eq_some_iff.mp hF
          obtain ⟨v5, hv5, hF⟩ := hF
          refine V.callV (d' := d - 1) [Value.ref (eK E 4)] [] (c_X3_isWord (by decide) (by omega) hv5) okX3_isWord gw_365 rfl rfl (by decide) (hcX3 E _) rfl (Nat.le_of_ble_eq_true rfl) (by omega) dX3_takeLine_67 ?_
          rintro _ _ ⟨rfl, rfl⟩
          show V E mX3_takeLine d 70 [(0, rf E 1)] [vi v5] M _
          refine V.if_eq (tgt := 80) rfl dX3_takeLine_70 (by decide) (fun hc => ?_) (fun hc => ?_)
          · rw [if_pos hc] at hF
            refine V.aload_n 0 0 0 rfl dX3_takeLine_80 rfl ?_
            refine V.ldcS 5 107 "steward" rfl rfl dX3_takeLine_81 ?_
            replace hF := Option.bind_eq_some_iff.mp hF
            obtain ⟨v6, hv6, hF⟩ := hF
            refine V.callV (d' := d - 1) [Value.ref (eK E 5)] [] (c_X3_isWord (by decide) (by omega) hv6) okX3_isWord gw_365 rfl rfl (by decide) (hcX3 E _) rfl (Nat.le_of_ble_eq_true rfl) (by omega) dX3_takeLine_83 ?_
            rintro _ _ ⟨rfl, rfl⟩
            show V E mX3_takeLine d 86 [(0, rf E 1)] [vi v6] M _
            refine V.if_eq (tgt := 96) rfl dX3_takeLine_86 (by decide) (fun hc => ?_) (fun hc => ?_)
            · rw [if_pos hc] at hF
              refine V.aload_n 0 0 0 rfl dX3_takeLine_96 rfl ?_
              refine V.iconst 2 dX3_takeLine_97 ?_
              replace hF := Option.bind_eq_some_iff.mp hF
              obtain ⟨M7, hM7, hF⟩ := hF
              refine V.callV (d' := d - 1) [vi 2] [] (c_X3_fail (by omega) hM7) okX3_fail gw_356 rfl rfl (by decide) (hcX3 E _) rfl (Nat.le_of_ble_eq_true rfl) (by omega) dX3_takeLine_98 ?_
              rintro _ _ ⟨rfl, rfl⟩
              show V E mX3_takeLine d 101 [(0, rf E 1)] [] M7 _
              exact v_X3_takeLine_101 hd hF hK
            · rw [if_neg hc] at hF
              refine V.aload_n 0 0 0 rfl dX3_takeLine_89 rfl ?_
              replace hF := Option.bind_eq_some_iff.mp hF
              obtain ⟨M8, hM8, hF⟩ := hF
              refine V.callV (d' := d - 1) [] [] (c_X3_takeSteward (by omega) hM8) okX3_takeSteward gw_469 rfl rfl (by decide) (hcX3 E _) rfl (Nat.le_of_ble_eq_true rfl) (by omega) dX3_takeLine_90 ?_
              rintro _ _ ⟨rfl, rfl⟩
              show V E mX3_takeLine d 93 [(0, rf E 1)] [] M8 _
              refine V.goto (tgt := 101) dX3_takeLine_93 (by decide) ?_
              exact v_X3_takeLine_101 hd hF hK
          · rw [if_neg hc] at hF
            refine V.aload_n 0 0 0 rfl dX3_takeLine_73 rfl ?_
            replace hF := Option.bind_eq_some_iff.mp hF
            obtain ⟨M9, hM9, hF⟩ := hF
            refine V.callV (d' := d - 1) [] [] (c_X3_takePrice (by omega) hM9) okX3_takePrice gw_464 rfl rfl (by decide) (hcX3 E _) rfl (Nat.le_of_ble_eq_true rfl) (by omega) dX3_takeLine_74 ?_
            rintro _ _ ⟨rfl, rfl⟩
            show V E mX3_takeLine d 77 [(0, rf E 1)] [] M9 _
            refine V.goto (tgt := 101) dX3_takeLine_77 (by decide) ?_
            exact v_X3_takeLine_101 hd hF hK
        · rw [if_neg hc] at hF
          refine V.aload_n 0 0 0 rfl dX3_takeLine_57 rfl ?_
          replace hF := Option.bind_eq_some_iff.mp hF
          obtain ⟨M10, hM10, hF⟩ := hF
          refine V.callV (d' := d - 1) [] [] (c_X3_takeGranary (by omega) hM10) okX3_takeGranary gw_456 rfl rfl (by decide) (hcX3 E _) rfl (Nat.le_of_ble_eq_true rfl) (by omega) dX3_takeLine_58 ?_
          rintro _ _ ⟨rfl, rfl⟩
          show V E mX3_takeLine d 61 [(0, rf E 1)] [] M10 _
          refine V.goto (tgt := 101) dX3_takeLine_61 (by decide) ?_
          exact v_X3_takeLine_101 hd hF hK
      · rw [if_neg hc] at hF
        refine V.aload_n 0 0 0 rfl dX3_takeLine_41 rfl ?_
        replace hF := Option.bind_eq_some_iff.mp hF
        obtain ⟨M11, hM11, hF⟩ := hF
        refine V.callV (d' := d - 1) [] [] (c_X3_takePeople (by omega) hM11) okX3_takePeople gw_444 rfl rfl (by decide) (hcX3 E _) rfl (Nat.le_of_ble_eq_true rfl) (by omega) dX3_takeLine_42 ?_
        rintro _ _ ⟨rfl, rfl⟩
        show V E mX3_takeLine d 45 [(0, rf E 1)] [] M11 _
        refine V.goto (tgt := 101) dX3_takeLine_45 (by decide) ?_
        exact v_X3_takeLine_101 hd hF hK
    · rw [if_neg hc] at hF
      refine V.aload_n 0 0 0 rfl dX3_takeLine_25 rfl ?_
      replace hF := Option.bind_eq_some_iff.mp hF
      obtain ⟨M12, hM12, hF⟩ := hF
      refine V.callV (d' := d - 1) [] [] (c_X3_takeDream (by omega) hM12) okX3_takeDream gw_431 rfl rfl (by decide) (hcX3 E _) rfl (Nat.le_of_ble_eq_true rfl) (by omega) dX3_takeLine_26 ?_
      rintro _ _ ⟨rfl, rfl⟩
      show V E mX3_takeLine d 29 [(0, rf E 1)] [] M12 _
      refine V.goto (tgt := 101) dX3_takeLine_29 (by decide) ?_
      exact v_X3_takeLine_101 hd hF hK
  · rw [if_neg hc] at hF
    refine V.aload_n 0 0 0 rfl dX3_takeLine_9 rfl ?_
    replace hF := Option.bind_eq_some_iff.mp hF
    obtain ⟨M13, hM13, hF⟩ := hF
    refine V.callV (d' := d - 1) [] [] (c_X3_takeLand (by omega) hM13) okX3_takeLand gw_417 rfl rfl (by decide) (hcX3 E _) rfl (Nat.le_of_ble_eq_true rfl) (by omega) dX3_takeLine_10 ?_
    rintro _ _ ⟨rfl, rfl⟩
    show V E mX3_takeLine d 13 [(0, rf E 1)] [] M13 _
    refine V.goto (tgt := 101) dX3_takeLine_13 (by decide) ?_
    exact v_X3_takeLine_101 hd hF hK
theorem c_X3_takeLine {E : En} {d : Nat} {n : Nat} {M : Mem} {z : Mem}  (hd : 10 ≤ d) (hF : f_X3_takeLine n M = some z) : Cn E mX3_takeLine d [rf E 1] M (fun v N => v = none ∧ z = N) := by
  refine V.entry (by decide +kernel) (Nat.le_of_ble_eq_true rfl) ?_
  exact v_X3_takeLine_0  hd hF ⟨rfl, rfl⟩
