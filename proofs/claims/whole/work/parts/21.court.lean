abbrev mX2_fatIn : MI := (yX2_fatIn, cX2_fatIn, 3, (some .int))
theorem okX2_fatIn : OKV mX2_fatIn 2 := ⟨gw_527, gw_528, gw_60, gw_529, (by decide +kernel), (by decide)⟩
def f_X2_fatIn (j : Nat) (x1 : Int) (x2 : Int) (M : Mem) : Option (Int) :=
  (rd M (j + 3) 4 x1).bind fun v1 =>
  some (bAnd (bShr v1 x2) 1)
set_option maxRecDepth 10000 in
theorem v_X2_fatIn_0 {E : En} {d : Nat} {Q : Po} {j : Nat} {x1 : Int} {x2 : Int} {M : Mem} {z : Int} (hj : isX2 j) (hd : 1 ≤ d) (hF : f_X2_fatIn j x1 x2 M = some z) (hK : Q (some (vi z)) M) : V E mX2_fatIn d 0 [(0, rf E j), (1, vi x1), (2, vi x2)] [] M Q := by
  unfold f_X2_fatIn at hF
  refine V.aload_n 0 0 0 rfl dX2_fatIn_0 rfl ?_
  refine V.get (ltX2 hj) (hcX2 hj E _) rfl inX2 2 (by decide) rfl gw_138 dX2_fatIn_1 ?_
  refine V.iload_n 1 1 1 rfl dX2_fatIn_4 rfl ?_
  replace hF := Option.bind_eq_some_iff.mp hF
  obtain ⟨v1, hv1, hF⟩ := hF
  refine V.iald (ar_X2_2 hj) hv1 dX2_fatIn_5 ?_
  refine V.iload_n 2 2 2 rfl dX2_fatIn_6 rfl ?_
  refine V.ishr dX2_fatIn_7 ?_
  refine V.iconst 1 dX2_fatIn_8 ?_
  refine V.iand dX2_fatIn_9 ?_
  cases Option.some.inj hF
  exact V.iret rfl dX2_fatIn_10 hK
theorem c_X2_fatIn {E : En} {d : Nat} {j : Nat} {x1 : Int} {x2 : Int} {M : Mem} {z : Int} (hj : isX2 j) (hd : 1 ≤ d) (hF : f_X2_fatIn j x1 x2 M = some z) : Cn E mX2_fatIn d [rf E j, vi x1, vi x2] M (fun v N => v = some (vi z) ∧ M = N) := by
  refine V.entry (by decide +kernel) (Nat.le_of_ble_eq_true rfl) ?_
  exact v_X2_fatIn_0 hj hd hF ⟨rfl, rfl⟩
abbrev mX2_telling : MI := (yX2_telling, cX2_telling, 6, (some .int))
theorem okX2_telling : OKV mX2_telling 3 := ⟨gw_678, gw_679, gw_60, gw_680, (by decide +kernel), (by decide)⟩
def f_X2_telling_44 (n : Nat) (j : Nat) (x1 : Int) (x2 : Int) (x3 : Int) (x4 : Int) (x5 : Int) (M : Mem) : Option ((Int × Int) ⊕ (Int)) :=
  some (.inl (x4, x5 + 1))
set_option maxRecDepth 10000 in
theorem v_X2_telling_44 {E : En} {d : Nat} {Q : Po} {n : Nat} {j : Nat} {x1 : Int} {x2 : Int} {x3 : Int} {x4 : Int} {x5 : Int} {M : Mem} {z : (Int × Int) ⊕ (Int)} (hj : isX2 j) (hd : 2 ≤ d) (hF : f_X2_telling_44 n j x1 x2 x3 x4 x5 M = some z) (hC0 : ∀ s' : Int × Int, z = (.inl s') → V E mX2_telling d 6 [(0, rf E j), (1, vi x1), (2, vi x2), (3, vi x3), (4, vi (s'.1)), (5, vi (s'.2))] [] M Q) (hX : ∀ z0 : Int, z = (.inr z0) → Q (some (vi z0)) M) : V E mX2_telling d 44 [(0, rf E j), (1, vi x1), (2, vi x2), (3, vi x3), (4, vi x4), (5, vi x5)] [] M Q := by
  unfold f_X2_telling_44 at hF
  refine V.iinc 5 5 1 [(5, vi (x5 + 1)), (0, rf E j), (1, vi x1), (2, vi x2), (3, vi x3), (4, vi x4)] dX2_telling_44 rfl (by decide) rfl ?_
  refine V.goto (tgt := 6) dX2_telling_47 (by decide) ?_
  cases Option.some.inj hF
  refine V.sub _ [1, 2, 3, 4, 5, 0] rfl ?_
  exact hC0 _ rfl
def f_X2_telling_6 (n : Nat) (j : Nat) (x1 : Int) (x2 : Int) (x3 : Int) (x4 : Int) (x5 : Int) (M : Mem) : Option ((Int × Int) ⊕ (Int)) :=
  if wr (M j 5) ≤ wr x5 then
    some (.inr x4)
  else
    (f_X5_has x1 x5 M).bind fun v1 =>
    if wr v1 = 0 then
      f_X2_telling_44 n j x1 x2 x3 x4 x5 M
    else
      (f_X2_fatIn j x5 x2 M).bind fun v2 =>
      if wr v2 = wr x3 then
        f_X2_telling_44 n j x1 x2 x3 (bOr x4 (bShl 1 x5)) x5 M
      else
        f_X2_telling_44 n j x1 x2 x3 x4 x5 M
set_option maxRecDepth 10000 in
theorem v_X2_telling_6 {E : En} {d : Nat} {Q : Po} {n : Nat} {j : Nat} {x1 : Int} {x2 : Int} {x3 : Int} {x4 : Int} {x5 : Int} {M : Mem} {z : (Int × Int) ⊕ (Int)} (hj : isX2 j) (hd : 2 ≤ d) (hF : f_X2_telling_6 n j x1 x2 x3 x4 x5 M = some z) (hC0 : ∀ s' : Int × Int, z = (.inl s') → V E mX2_telling d 6 [(0, rf E j), (1, vi x1), (2, vi x2), (3, vi x3), (4, vi (s'.1)), (5, vi (s'.2))] [] M Q) (hX : ∀ z0 : Int, z = (.inr z0) → Q (some (vi z0)) M) : V E mX2_telling d 6 [(0, rf E j), (1, vi x1), (2, vi x2), (3, vi x3), (4, vi x4), (5, vi x5)] [] M Q := by
  unfold f_X2_telling_6 at hF
  refine V.iload 5 5 dX2_telling_6 rfl ?_
  refine V.aload_n 0 0 0 rfl dX2_telling_8 rfl ?_
  refine V.get (ltX2 hj) (hcX2 hj E _) rfl inX2 5 (by decide) rfl gw_144 dX2_telling_9 ?_
  refine V.icmp_ge (tgt := 50) rfl rfl dX2_telling_12 (by decide) (fun hc => ?_) (fun hc => ?_)
  · rw [if_pos hc] at hF
    refine V.iload 4 4 dX2_telling_50 rfl ?_
    cases Option.some.inj hF
    exact V.iret rfl dX2_telling_52 (hX _ rfl)
  · rw [if_neg hc] at hF
    refine V.iload_n 1 1 1 rfl dX2_telling_15 rfl ?_
    refine V.iload 5 5 dX2_telling_16 rfl ?_
    replace hF := Option.bind_eq_some_iff.mp hF
    obtain ⟨v1, hv1, hF⟩ := hF
    refine V.callSN (d' := d - 1) (host := "FatLean") [vi x1, vi x5] [] (c_X5_has (by omega) hv1) okX5_has (nw_9) rfl rfl (Nat.le_of_ble_eq_true rfl) (by omega) dX2_telling_18 ?_
    rintro _ _ ⟨rfl, rfl⟩
    show V E mX2_telling d 21 [(0, rf E j), (1, vi x1), (2, vi x2), (3, vi x3), (4, vi x4), (5, vi x5)] [vi v1] M _
    refine V.if_eq (tgt := 44) rfl dX2_telling_21 (by decide) (fun hc => ?_) (fun hc => ?_)
    · rw [if_pos hc] at hF
      exact v_X2_telling_44 hj hd hF hC0 hX
    · rw [if_neg hc] at hF
      refine V.aload_n 0 0 0 rfl dX2_telling_24 rfl ?_
      refine V.iload 5 5 dX2_telling_25 rfl ?_
      refine V.iload_n 2 2 2 rfl dX2_telling_27 rfl ?_
      replace hF := Option.bind_eq_some_iff.mp hF
      obtain ⟨v2, hv2, hF⟩ := hF
      refine V.callV (d' := d - 1) [vi x5, vi x2] [] (c_X2_fatIn hj (by omega) hv2) okX2_fatIn gw_652 rfl rfl (ltX2 hj) (hcX2 hj E _) rfl (Nat.le_of_ble_eq_true rfl) (by omega) dX2_telling_28 ?_
      rintro _ _ ⟨rfl, rfl⟩
      show V E mX2_telling d 31 [(0, rf E j), (1, vi x1), (2, vi x2), (3, vi x3), (4, vi x4), (5, vi x5)] [vi v2] M _
      refine V.iload_n 3 3 3 rfl dX2_telling_31 rfl ?_
      refine V.icmp_ne (tgt := 44) rfl rfl dX2_telling_32 (by decide) (fun hc => ?_) (fun hc => ?_)
      · rw [if_neg hc] at hF
        exact v_X2_telling_44 hj hd hF hC0 hX
      · rw [if_pos hc] at hF
        refine V.iload 4 4 dX2_telling_35 rfl ?_
        refine V.iconst 1 dX2_telling_37 ?_
        refine V.iload 5 5 dX2_telling_38 rfl ?_
        refine V.ishl dX2_telling_40 ?_
        refine V.ior dX2_telling_41 ?_
        refine V.istore 4 [(4, vi (bOr x4 (bShl 1 x5))), (0, rf E j), (1, vi x1), (2, vi x2), (3, vi x3), (5, vi x5)] dX2_telling_42 (by decide) rfl ?_
        refine V.sub _ [1, 2, 3, 4, 0, 5] rfl ?_
        exact v_X2_telling_44 hj hd hF hC0 hX
theorem l_X2_telling_6 {E : En} {d : Nat} {Q : Po} {n : Nat} {j : Nat} {x1 : Int} {x2 : Int} {x3 : Int} {M : Mem} {k : Nat} {s : Int × Int} {z : Int} (hj : isX2 j) (hd : 2 ≤ d) (hF : lp (fun s => f_X2_telling_6 n j x1 x2 x3 s.1 s.2 M) k s = some z) (hK : Q (some (vi z)) M) : V E mX2_telling d 6 [(0, rf E j), (1, vi x1), (2, vi x2), (3, vi x3), (4, vi s.1), (5, vi s.2)] [] M Q := by
  refine lp_ind (P := fun s => V E mX2_telling d 6 [(0, rf E j), (1, vi x1), (2, vi x2), (3, vi x3), (4, vi s.1), (5, vi s.2)] [] M Q) (z0 := z) ?_ k s hF
  intro s z' hF hc hx
  exact v_X2_telling_6 hj hd hF (fun s' e => hc s' e) (fun z0 e => by rw [hx _ e]; exact hK)
def f_X2_telling (n : Nat) (j : Nat) (x1 : Int) (x2 : Int) (x3 : Int) (M : Mem) : Option (Int) :=
  lp (fun s => f_X2_telling_6 n j x1 x2 x3 s.1 s.2 M) n (0, 0)
set_option maxRecDepth 10000 in
theorem v_X2_telling_0 {E : En} {d : Nat} {Q : Po} {n : Nat} {j : Nat} {x1 : Int} {x2 : Int} {x3 : Int} {M : Mem} {z : Int} (hj : isX2 j) (hd : 2 ≤ d) (hF : f_X2_telling n j x1 x2 x3 M = some z) (hK : Q (some (vi z)) M) : V E mX2_telling d 0 [(0, rf E j), (1, vi x1), (2, vi x2), (3, vi x3)] [] M Q := by
  unfold f_X2_telling at hF
  refine V.iconst 0 dX2_telling_0 ?_
  refine V.istore 4 [(4, vi 0), (0, rf E j), (1, vi x1), (2, vi x2), (3, vi x3)] dX2_telling_1 (by decide) rfl ?_
  refine V.iconst 0 dX2_telling_3 ?_
  refine V.istore 5 [(5, vi 0), (4, vi 0), (0, rf E j), (1, vi x1), (2, vi x2), (3, vi x3)] dX2_telling_4 (by decide) rfl ?_
  refine V.sub _ [2, 3, 4, 5, 1, 0] rfl ?_
  exact l_X2_telling_6 hj hd hF hK
theorem c_X2_telling {E : En} {d : Nat} {n : Nat} {j : Nat} {x1 : Int} {x2 : Int} {x3 : Int} {M : Mem} {z : Int} (hj : isX2 j) (hd : 2 ≤ d) (hF : f_X2_telling n j x1 x2 x3 M = some z) : Cn E mX2_telling d [rf E j, vi x1, vi x2, vi x3] M (fun v N => v = some (vi z) ∧ M = N) := by
  refine V.entry (by decide +kernel) (Nat.le_of_ble_eq_true rfl) ?_
  exact v_X2_telling_0 hj hd hF ⟨rfl, rfl⟩
abbrev mX2_oddsOf : MI := (yX2_oddsOf, cX2_oddsOf, 4, (some .int))
theorem okX2_oddsOf : OKV mX2_oddsOf 1 := ⟨gw_683, gw_684, gw_60, gw_685, (by decide +kernel), (by decide)⟩
def f_X2_oddsOf_29 (n : Nat) (j : Nat) (x1 : Int) (x2 : Int) (x3 : Int) (M : Mem) : Option ((Int × Int) ⊕ (Int)) :=
  some (.inl (x2, x3 + 1))
set_option maxRecDepth 10000 in
theorem v_X2_oddsOf_29 {E : En} {d : Nat} {Q : Po} {n : Nat} {j : Nat} {x1 : Int} {x2 : Int} {x3 : Int} {M : Mem} {z : (Int × Int) ⊕ (Int)} (hj : isX2 j) (hd : 2 ≤ d) (hF : f_X2_oddsOf_29 n j x1 x2 x3 M = some z) (hC0 : ∀ s' : Int × Int, z = (.inl s') → V E mX2_oddsOf d 4 [(0, rf E j), (1, vi x1), (2, vi (s'.1)), (3, vi (s'.2))] [] M Q) (hX : ∀ z0 : Int, z = (.inr z0) → Q (some (vi z0)) M) : V E mX2_oddsOf d 29 [(0, rf E j), (1, vi x1), (2, vi x2), (3, vi x3)] [] M Q := by
  unfold f_X2_oddsOf_29 at hF
  refine V.iinc 3 3 1 [(3, vi (x3 + 1)), (0, rf E j), (1, vi x1), (2, vi x2)] dX2_oddsOf_29 rfl (by decide) rfl ?_
  refine V.goto (tgt := 4) dX2_oddsOf_32 (by decide) ?_
  cases Option.some.inj hF
  refine V.sub _ [1, 2, 3, 0] rfl ?_
  exact hC0 _ rfl
def f_X2_oddsOf_4 (n : Nat) (j : Nat) (x1 : Int) (x2 : Int) (x3 : Int) (M : Mem) : Option ((Int × Int) ⊕ (Int)) :=
  if wr (M j 5) ≤ wr x3 then
    some (.inr x2)
  else
    (f_X5_has x1 x3 M).bind fun v1 =>
    if wr v1 = 0 then
      f_X2_oddsOf_29 n j x1 x2 x3 M
    else
      (rd M (j + 4) 4 x3).bind fun v2 =>
      f_X2_oddsOf_29 n j x1 (x2 + v2) x3 M
set_option maxRecDepth 10000 in
theorem v_X2_oddsOf_4 {E : En} {d : Nat} {Q : Po} {n : Nat} {j : Nat} {x1 : Int} {x2 : Int} {x3 : Int} {M : Mem} {z : (Int × Int) ⊕ (Int)} (hj : isX2 j) (hd : 2 ≤ d) (hF : f_X2_oddsOf_4 n j x1 x2 x3 M = some z) (hC0 : ∀ s' : Int × Int, z = (.inl s') → V E mX2_oddsOf d 4 [(0, rf E j), (1, vi x1), (2, vi (s'.1)), (3, vi (s'.2))] [] M Q) (hX : ∀ z0 : Int, z = (.inr z0) → Q (some (vi z0)) M) : V E mX2_oddsOf d 4 [(0, rf E j), (1, vi x1), (2, vi x2), (3, vi x3)] [] M Q := by
  unfold f_X2_oddsOf_4 at hF
  refine V.iload_n 3 3 3 rfl dX2_oddsOf_4 rfl ?_
  refine V.aload_n 0 0 0 rfl dX2_oddsOf_5 rfl ?_
  refine V.get (ltX2 hj) (hcX2 hj E _) rfl inX2 5 (by decide) rfl gw_144 dX2_oddsOf_6 ?_
  refine V.icmp_ge (tgt := 35) rfl rfl dX2_oddsOf_9 (by decide) (fun hc => ?_) (fun hc => ?_)
  · rw [if_pos hc] at hF
    refine V.iload_n 2 2 2 rfl dX2_oddsOf_35 rfl ?_
    cases Option.some.inj hF
    exact V.iret rfl dX2_oddsOf_36 (hX _ rfl)
  · rw [if_neg hc] at hF
    refine V.iload_n 1 1 1 rfl dX2_oddsOf_12 rfl ?_
    refine V.iload_n 3 3 3 rfl dX2_oddsOf_13 rfl ?_
    replace hF := Option.bind_eq_some_iff.mp hF
    obtain ⟨v1, hv1, hF⟩ := hF
    refine V.callSN (d' := d - 1) (host := "FatLean") [vi x1, vi x3] [] (c_X5_has (by omega) hv1) okX5_has (nw_9) rfl rfl (Nat.le_of_ble_eq_true rfl) (by omega) dX2_oddsOf_14 ?_
    rintro _ _ ⟨rfl, rfl⟩
    show V E mX2_oddsOf d 17 [(0, rf E j), (1, vi x1), (2, vi x2), (3, vi x3)] [vi v1] M _
    refine V.if_eq (tgt := 29) rfl dX2_oddsOf_17 (by decide) (fun hc => ?_) (fun hc => ?_)
    · rw [if_pos hc] at hF
      exact v_X2_oddsOf_29 hj hd hF hC0 hX
    · rw [if_neg hc] at hF
      refine V.iload_n 2 2 2 rfl dX2_oddsOf_20 rfl ?_
      refine V.aload_n 0 0 0 rfl dX2_oddsOf_21 rfl ?_
      refine V.get (ltX2 hj) (hcX2 hj E _) rfl inX2 3 (by decide) rfl gw_139 dX2_oddsOf_22 ?_
      refine V.iload_n 3 3 3 rfl dX2_oddsOf_25 rfl ?_
      replace hF := Option.bind_eq_some_iff.mp hF
      obtain ⟨v2, hv2, hF⟩ := hF
      refine V.iald (ar_X2_3 hj) hv2 dX2_oddsOf_26 ?_
      refine V.iadd dX2_oddsOf_27 ?_
      refine V.istore_n 2 2 [(2, vi (x2 + v2)), (0, rf E j), (1, vi x1), (3, vi x3)] rfl dX2_oddsOf_28 (by decide) rfl ?_
      refine V.sub _ [1, 2, 0, 3] rfl ?_
      exact v_X2_oddsOf_29 hj hd hF hC0 hX
theorem l_X2_oddsOf_4 {E : En} {d : Nat} {Q : Po} {n : Nat} {j : Nat} {x1 : Int} {M : Mem} {k : Nat} {s : Int × Int} {z : Int} (hj : isX2 j) (hd : 2 ≤ d) (hF : lp (fun s => f_X2_oddsOf_4 n j x1 s.1 s.2 M) k s = some z) (hK : Q (some (vi z)) M) : V E mX2_oddsOf d 4 [(0, rf E j), (1, vi x1), (2, vi s.1), (3, vi s.2)] [] M Q := by
  refine lp_ind (P := fun s => V E mX2_oddsOf d 4 [(0, rf E j), (1, vi x1), (2, vi s.1), (3, vi s.2)] [] M Q) (z0 := z) ?_ k s hF
  intro s z' hF hc hx
  exact v_X2_oddsOf_4 hj hd hF (fun s' e => hc s' e) (fun z0 e => by rw [hx _ e]; exact hK)
def f_X2_oddsOf (n : Nat) (j : Nat) (x1 : Int) (M : Mem) : Option (Int) :=
  lp (fun s => f_X2_oddsOf_4 n j x1 s.1 s.2 M) n (0, 0)
set_option maxRecDepth 10000 in
theorem v_X2_oddsOf_0 {E : En} {d : Nat} {Q : Po} {n : Nat} {j : Nat} {x1 : Int} {M : Mem} {z : Int} (hj : isX2 j) (hd : 2 ≤ d) (hF : f_X2_oddsOf n j x1 M = some z) (hK : Q (some (vi z)) M) : V E mX2_oddsOf d 0 [(0, rf E j), (1, vi x1)] [] M Q := by
  unfold f_X2_oddsOf at hF
  refine V.iconst 0 dX2_oddsOf_0 ?_
  refine V.istore_n 2 2 [(2, vi 0), (0, rf E j), (1, vi x1)] rfl dX2_oddsOf_1 (by decide) rfl ?_
  refine V.iconst 0 dX2_oddsOf_2 ?_
  refine V.istore_n 3 3 [(3, vi 0), (2, vi 0), (0, rf E j), (1, vi x1)] rfl dX2_oddsOf_3 (by decide) rfl ?_
  refine V.sub _ [2, 3, 1, 0] rfl ?_
  exact l_X2_oddsOf_4 hj hd hF hK
theorem c_X2_oddsOf {E : En} {d : Nat} {n : Nat} {j : Nat} {x1 : Int} {M : Mem} {z : Int} (hj : isX2 j) (hd : 2 ≤ d) (hF : f_X2_oddsOf n j x1 M = some z) : Cn E mX2_oddsOf d [rf E j, vi x1] M (fun v N => v = some (vi z) ∧ M = N) := by
  refine V.entry (by decide +kernel) (Nat.le_of_ble_eq_true rfl) ?_
  exact v_X2_oddsOf_0 hj hd hF ⟨rfl, rfl⟩
abbrev mX2_priceIn : MI := (yX2_priceIn, cX2_priceIn, 2, (some .int))
theorem okX2_priceIn : OKV mX2_priceIn 1 := ⟨gw_572, gw_573, gw_60, gw_574, (by decide +kernel), (by decide)⟩
def f_X2_priceIn (j : Nat) (x1 : Int) (M : Mem) : Option (Int) :=
  if wr x1 = 1 then
    some (M j 11)
  else
    some (M j 12)
set_option maxRecDepth 10000 in
theorem v_X2_priceIn_0 {E : En} {d : Nat} {Q : Po} {j : Nat} {x1 : Int} {M : Mem} {z : Int} (hj : isX2 j) (hd : 1 ≤ d) (hF : f_X2_priceIn j x1 M = some z) (hK : Q (some (vi z)) M) : V E mX2_priceIn d 0 [(0, rf E j), (1, vi x1)] [] M Q := by
  unfold f_X2_priceIn at hF
  refine V.iload_n 1 1 1 rfl dX2_priceIn_0 rfl ?_
  refine V.iconst 1 dX2_priceIn_1 ?_
  refine V.icmp_ne (tgt := 12) rfl wr_1 dX2_priceIn_2 (by decide) (fun hc => ?_) (fun hc => ?_)
  · rw [if_neg hc] at hF
    refine V.aload_n 0 0 0 rfl dX2_priceIn_12 rfl ?_
    refine V.get (ltX2 hj) (hcX2 hj E _) rfl inX2 12 (by decide) rfl gw_168 dX2_priceIn_13 ?_
    cases Option.some.inj hF
    exact V.iret rfl dX2_priceIn_16 hK
  · rw [if_pos hc] at hF
    refine V.aload_n 0 0 0 rfl dX2_priceIn_5 rfl ?_
    refine V.get (ltX2 hj) (hcX2 hj E _) rfl inX2 11 (by decide) rfl gw_165 dX2_priceIn_6 ?_
    refine V.goto (tgt := 16) dX2_priceIn_9 (by decide) ?_
    cases Option.some.inj hF
    exact V.iret rfl dX2_priceIn_16 hK
theorem c_X2_priceIn {E : En} {d : Nat} {j : Nat} {x1 : Int} {M : Mem} {z : Int} (hj : isX2 j) (hd : 1 ≤ d) (hF : f_X2_priceIn j x1 M = some z) : Cn E mX2_priceIn d [rf E j, vi x1] M (fun v N => v = some (vi z) ∧ M = N) := by
  refine V.entry (by decide +kernel) (Nat.le_of_ble_eq_true rfl) ?_
  exact v_X2_priceIn_0 hj hd hF ⟨rfl, rfl⟩
abbrev mX2_harvest : MI := (yX2_harvest, cX2_harvest, 5, (some .int))
theorem okX2_harvest : OKV mX2_harvest 1 := ⟨gw_535, gw_536, gw_60, gw_537, (by decide +kernel), (by decide)⟩
def f_X2_harvest_22 (n : Nat) (j : Nat) (q2 : Nat) (x3 : Int) (x4 : Int) (M : Mem) : Option ((Int × Int) ⊕ (Int)) :=
  if wr (M j 4) ≤ wr x4 then
    some (.inr x3)
  else
    (rd M q2 4 x4).bind fun v1 =>
    some (.inl (x3 + v1, x4 + 1))
set_option maxRecDepth 10000 in
theorem v_X2_harvest_22 {E : En} {d : Nat} {Q : Po} {n : Nat} {j : Nat} {q2 : Nat} {x3 : Int} {x4 : Int} {M : Mem} {z : (Int × Int) ⊕ (Int)} (hj : isX2 j) (hq2 : isI q2 4) (hd : 1 ≤ d) (hF : f_X2_harvest_22 n j q2 x3 x4 M = some z) (hC0 : ∀ s' : Int × Int, z = (.inl s') → V E mX2_harvest d 22 [(0, rf E j), (2, rf E q2), (3, vi (s'.1)), (4, vi (s'.2))] [] M Q) (hX : ∀ z0 : Int, z = (.inr z0) → Q (some (vi z0)) M) : V E mX2_harvest d 22 [(0, rf E j), (2, rf E q2), (3, vi x3), (4, vi x4)] [] M Q := by
  unfold f_X2_harvest_22 at hF
  refine V.iload 4 3 dX2_harvest_22 rfl ?_
  refine V.aload_n 0 0 0 rfl dX2_harvest_24 rfl ?_
  refine V.get (ltX2 hj) (hcX2 hj E _) rfl inX2 4 (by decide) rfl gw_141 dX2_harvest_25 ?_
  refine V.icmp_ge (tgt := 44) rfl rfl dX2_harvest_28 (by decide) (fun hc => ?_) (fun hc => ?_)
  · rw [if_pos hc] at hF
    refine V.iload_n 3 3 2 rfl dX2_harvest_44 rfl ?_
    cases Option.some.inj hF
    exact V.iret rfl dX2_harvest_45 (hX _ rfl)
  · rw [if_neg hc] at hF
    refine V.iload_n 3 3 2 rfl dX2_harvest_31 rfl ?_
    refine V.aload_n 2 2 1 rfl dX2_harvest_32 rfl ?_
    refine V.iload 4 3 dX2_harvest_33 rfl ?_
    replace hF := Option.bind_eq_some_iff.mp hF
    obtain ⟨v1, hv1, hF⟩ := hF
    refine V.iald hq2 hv1 dX2_harvest_35 ?_
    refine V.iadd dX2_harvest_36 ?_
    refine V.istore_n 3 3 [(3, vi (x3 + v1)), (0, rf E j), (2, rf E q2), (4, vi x4)] rfl dX2_harvest_37 (by decide) rfl ?_
    refine V.iinc 4 3 1 [(4, vi (x4 + 1)), (3, vi (x3 + v1)), (0, rf E j), (2, rf E q2)] dX2_harvest_38 rfl (by decide) rfl ?_
    refine V.goto (tgt := 22) dX2_harvest_41 (by decide) ?_
    cases Option.some.inj hF
    refine V.sub _ [2, 3, 1, 0] rfl ?_
    exact hC0 _ rfl
theorem l_X2_harvest_22 {E : En} {d : Nat} {Q : Po} {n : Nat} {j : Nat} {q2 : Nat} {M : Mem} {k : Nat} {s : Int × Int} {z : Int} (hj : isX2 j) (hq2 : isI q2 4) (hd : 1 ≤ d) (hF : lp (fun s => f_X2_harvest_22 n j q2 s.1 s.2 M) k s = some z) (hK : Q (some (vi z)) M) : V E mX2_harvest d 22 [(0, rf E j), (2, rf E q2), (3, vi s.1), (4, vi s.2)] [] M Q := by
  refine lp_ind (P := fun s => V E mX2_harvest d 22 [(0, rf E j), (2, rf E q2), (3, vi s.1), (4, vi s.2)] [] M Q) (z0 := z) ?_ k s hF
  intro s z' hF hc hx
  exact v_X2_harvest_22 hj hq2 hd hF (fun s' e => hc s' e) (fun z0 e => by rw [hx _ e]; exact hK)
def f_X2_harvest_16 (n : Nat) (j : Nat) (t0 : Nat) (M : Mem) : Option (Int) :=
  lp (fun s => f_X2_harvest_22 n j t0 s.1 s.2 M) n (0, 0)
set_option maxRecDepth 10000 in
theorem v_X2_harvest_16 {E : En} {d : Nat} {Q : Po} {n : Nat} {j : Nat} {t0 : Nat} {M : Mem} {z : Int} (hj : isX2 j) (ht0 : isI t0 4) (hd : 1 ≤ d) (hF : f_X2_harvest_16 n j t0 M = some z) (hK : Q (some (vi z)) M) : V E mX2_harvest d 16 [(0, rf E j)] [rf E t0] M Q := by
  unfold f_X2_harvest_16 at hF
  refine V.astore_n 2 2 [(2, rf E t0), (0, rf E j)] rfl dX2_harvest_16 (by decide) rfl ?_
  refine V.iconst 0 dX2_harvest_17 ?_
  refine V.istore_n 3 3 [(3, vi 0), (2, rf E t0), (0, rf E j)] rfl dX2_harvest_18 (by decide) rfl ?_
  refine V.iconst 0 dX2_harvest_19 ?_
  refine V.istore 4 [(4, vi 0), (3, vi 0), (2, rf E t0), (0, rf E j)] dX2_harvest_20 (by decide) rfl ?_
  refine V.sub _ [3, 2, 1, 0] rfl ?_
  exact l_X2_harvest_22 hj ht0 hd hF hK
def f_X2_harvest (n : Nat) (j : Nat) (x1 : Int) (M : Mem) : Option (Int) :=
  if wr x1 = 1 then
    f_X2_harvest_16 n j (j + 1) M
  else
    f_X2_harvest_16 n j (j + 2) M
set_option maxRecDepth 10000 in
theorem v_X2_harvest_0 {E : En} {d : Nat} {Q : Po} {n : Nat} {j : Nat} {x1 : Int} {M : Mem} {z : Int} (hj : isX2 j) (hd : 1 ≤ d) (hF : f_X2_harvest n j x1 M = some z) (hK : Q (some (vi z)) M) : V E mX2_harvest d 0 [(0, rf E j), (1, vi x1)] [] M Q := by
  unfold f_X2_harvest at hF
  refine V.iload_n 1 1 1 rfl dX2_harvest_0 rfl ?_
  refine V.iconst 1 dX2_harvest_1 ?_
  refine V.icmp_ne (tgt := 12) rfl wr_1 dX2_harvest_2 (by decide) (fun hc => ?_) (fun hc => ?_)
  · rw [if_neg hc] at hF
    refine V.aload_n 0 0 0 rfl dX2_harvest_12 rfl ?_
    refine V.get (ltX2 hj) (hcX2 hj E _) rfl inX2 1 (by decide) rfl gw_137 dX2_harvest_13 ?_
    refine V.sub _ [0] rfl ?_
    exact v_X2_harvest_16 hj (ar_X2_1 hj) hd hF hK
  · rw [if_pos hc] at hF
    refine V.aload_n 0 0 0 rfl dX2_harvest_5 rfl ?_
    refine V.get (ltX2 hj) (hcX2 hj E _) rfl inX2 0 (by decide) rfl gw_136 dX2_harvest_6 ?_
    refine V.goto (tgt := 16) dX2_harvest_9 (by decide) ?_
    refine V.sub _ [0] rfl ?_
    exact v_X2_harvest_16 hj (ar_X2_0 hj) hd hF hK
theorem c_X2_harvest {E : En} {d : Nat} {n : Nat} {j : Nat} {x1 : Int} {M : Mem} {z : Int} (hj : isX2 j) (hd : 1 ≤ d) (hF : f_X2_harvest n j x1 M = some z) : Cn E mX2_harvest d [rf E j, vi x1] M (fun v N => v = some (vi z) ∧ M = N) := by
  refine V.entry (by decide +kernel) (Nat.le_of_ble_eq_true rfl) ?_
  exact v_X2_harvest_0 hj hd hF ⟨rfl, rfl⟩
abbrev mX2_unrotten : MI := (yX2_unrotten, cX2_unrotten, 2, (some .int))
theorem okX2_unrotten : OKV mX2_unrotten 1 := ⟨gw_619, gw_620, gw_60, gw_621, (by decide +kernel), (by decide)⟩
def f_X2_unrotten (j : Nat) (x1 : Int) (M : Mem) : Option (Int) :=
  if wr (M j 9) = 0 then
    some x1
  else
    (ivtdiv x1 (M j 9)).bind fun v1 =>
    some (x1 - v1)
set_option maxRecDepth 10000 in
theorem v_X2_unrotten_0 {E : En} {d : Nat} {Q : Po} {j : Nat} {x1 : Int} {M : Mem} {z : Int} (hj : isX2 j) (hd : 1 ≤ d) (hF : f_X2_unrotten j x1 M = some z) (hK : Q (some (vi z)) M) : V E mX2_unrotten d 0 [(0, rf E j), (1, vi x1)] [] M Q := by
  unfold f_X2_unrotten at hF
  refine V.aload_n 0 0 0 rfl dX2_unrotten_0 rfl ?_
  refine V.get (ltX2 hj) (hcX2 hj E _) rfl inX2 9 (by decide) rfl gw_158 dX2_unrotten_1 ?_
  refine V.if_ne (tgt := 11) rfl dX2_unrotten_4 (by decide) (fun hc => ?_) (fun hc => ?_)
  · rw [if_neg hc] at hF
    refine V.iload_n 1 1 1 rfl dX2_unrotten_11 rfl ?_
    refine V.iload_n 1 1 1 rfl dX2_unrotten_12 rfl ?_
    refine V.aload_n 0 0 0 rfl dX2_unrotten_13 rfl ?_
    refine V.get (ltX2 hj) (hcX2 hj E _) rfl inX2 9 (by decide) rfl gw_158 dX2_unrotten_14 ?_
    replace hF := Option.bind_eq_some_iff.mp hF
    obtain ⟨v1, hv1, hF⟩ := hF
    refine V.idiv (ivtdiv_some hv1).1 dX2_unrotten_17 ?_
    rw [← (ivtdiv_some hv1).2]
    refine V.isub dX2_unrotten_18 ?_
    cases Option.some.inj hF
    exact V.iret rfl dX2_unrotten_19 hK
  · rw [if_pos hc] at hF
    refine V.iload_n 1 1 1 rfl dX2_unrotten_7 rfl ?_
    refine V.goto (tgt := 19) dX2_unrotten_8 (by decide) ?_
    cases Option.some.inj hF
    exact V.iret rfl dX2_unrotten_19 hK
theorem c_X2_unrotten {E : En} {d : Nat} {j : Nat} {x1 : Int} {M : Mem} {z : Int} (hj : isX2 j) (hd : 1 ≤ d) (hF : f_X2_unrotten j x1 M = some z) : Cn E mX2_unrotten d [rf E j, vi x1] M (fun v N => v = some (vi z) ∧ M = N) := by
  refine V.entry (by decide +kernel) (Nat.le_of_ble_eq_true rfl) ?_
  exact v_X2_unrotten_0 hj hd hF ⟨rfl, rfl⟩
abbrev mX2_leftOf : MI := (yX2_leftOf, cX2_leftOf, 2, (some .int))
theorem okX2_leftOf : OKV mX2_leftOf 1 := ⟨gw_595, gw_596, gw_60, gw_597, (by decide +kernel), (by decide)⟩
def f_X2_leftOf (j : Nat) (x1 : Int) (M : Mem) : Option (Int) :=
  some (mxx 0 (x1 - (M j 6)))
set_option maxRecDepth 10000 in
theorem v_X2_leftOf_0 {E : En} {d : Nat} {Q : Po} {j : Nat} {x1 : Int} {M : Mem} {z : Int} (hj : isX2 j) (hd : 1 ≤ d) (hF : f_X2_leftOf j x1 M = some z) (hK : Q (some (vi z)) M) : V E mX2_leftOf d 0 [(0, rf E j), (1, vi x1)] [] M Q := by
  unfold f_X2_leftOf at hF
  refine V.iconst 0 dX2_leftOf_0 ?_
  refine V.iload_n 1 1 1 rfl dX2_leftOf_1 rfl ?_
  refine V.aload_n 0 0 0 rfl dX2_leftOf_2 rfl ?_
  refine V.get (ltX2 hj) (hcX2 hj E _) rfl inX2 6 (by decide) rfl gw_147 dX2_leftOf_3 ?_
  refine V.isub dX2_leftOf_6 ?_
  refine V.rmax gw_598 (Nat.le_of_ble_eq_true rfl) (by omega) dX2_leftOf_7 ?_
  cases Option.some.inj hF
  exact V.iret rfl dX2_leftOf_10 hK
theorem c_X2_leftOf {E : En} {d : Nat} {j : Nat} {x1 : Int} {M : Mem} {z : Int} (hj : isX2 j) (hd : 1 ≤ d) (hF : f_X2_leftOf j x1 M = some z) : Cn E mX2_leftOf d [rf E j, vi x1] M (fun v N => v = some (vi z) ∧ M = N) := by
  refine V.entry (by decide +kernel) (Nat.le_of_ble_eq_true rfl) ?_
  exact v_X2_leftOf_0 hj hd hF ⟨rfl, rfl⟩
abbrev mX2_hungryOf : MI := (yX2_hungryOf, cX2_hungryOf, 2, (some .int))
theorem okX2_hungryOf : OKV mX2_hungryOf 1 := ⟨gw_614, gw_615, gw_60, gw_616, (by decide +kernel), (by decide)⟩
def f_X2_hungryOf (j : Nat) (x1 : Int) (M : Mem) : Option (Int) :=
  some (mxx 0 ((M j 6) - x1))
set_option maxRecDepth 10000 in
theorem v_X2_hungryOf_0 {E : En} {d : Nat} {Q : Po} {j : Nat} {x1 : Int} {M : Mem} {z : Int} (hj : isX2 j) (hd : 1 ≤ d) (hF : f_X2_hungryOf j x1 M = some z) (hK : Q (some (vi z)) M) : V E mX2_hungryOf d 0 [(0, rf E j), (1, vi x1)] [] M Q := by
  unfold f_X2_hungryOf at hF
  refine V.iconst 0 dX2_hungryOf_0 ?_
  refine V.aload_n 0 0 0 rfl dX2_hungryOf_1 rfl ?_
  refine V.get (ltX2 hj) (hcX2 hj E _) rfl inX2 6 (by decide) rfl gw_147 dX2_hungryOf_2 ?_
  refine V.iload_n 1 1 1 rfl dX2_hungryOf_5 rfl ?_
  refine V.isub dX2_hungryOf_6 ?_
  refine V.rmax gw_598 (Nat.le_of_ble_eq_true rfl) (by omega) dX2_hungryOf_7 ?_
  cases Option.some.inj hF
  exact V.iret rfl dX2_hungryOf_10 hK
theorem c_X2_hungryOf {E : En} {d : Nat} {j : Nat} {x1 : Int} {M : Mem} {z : Int} (hj : isX2 j) (hd : 1 ≤ d) (hF : f_X2_hungryOf j x1 M = some z) : Cn E mX2_hungryOf d [rf E j, vi x1] M (fun v N => v = some (vi z) ∧ M = N) := by
  refine V.entry (by decide +kernel) (Nat.le_of_ble_eq_true rfl) ?_
  exact v_X2_hungryOf_0 hj hd hF ⟨rfl, rfl⟩
abbrev mX2_foodIn : MI := (yX2_foodIn, cX2_foodIn, 2, (some .int))
theorem okX2_foodIn : OKV mX2_foodIn 1 := ⟨gw_590, gw_591, gw_60, gw_592, (by decide +kernel), (by decide)⟩
def f_X2_foodIn (n : Nat) (j : Nat) (x1 : Int) (M : Mem) : Option (Int) :=
  (f_X2_harvest n j x1 M).bind fun v1 =>
  some ((M j 10) + v1)
set_option maxRecDepth 10000 in
theorem v_X2_foodIn_0 {E : En} {d : Nat} {Q : Po} {n : Nat} {j : Nat} {x1 : Int} {M : Mem} {z : Int} (hj : isX2 j) (hd : 2 ≤ d) (hF : f_X2_foodIn n j x1 M = some z) (hK : Q (some (vi z)) M) : V E mX2_foodIn d 0 [(0, rf E j), (1, vi x1)] [] M Q := by
  unfold f_X2_foodIn at hF
  refine V.aload_n 0 0 0 rfl dX2_foodIn_0 rfl ?_
  refine V.get (ltX2 hj) (hcX2 hj E _) rfl inX2 10 (by decide) rfl gw_162 dX2_foodIn_1 ?_
  refine V.aload_n 0 0 0 rfl dX2_foodIn_4 rfl ?_
  refine V.iload_n 1 1 1 rfl dX2_foodIn_5 rfl ?_
  replace hF := Option.bind_eq_some_iff.mp hF
  obtain ⟨v1, hv1, hF⟩ := hF
  refine V.callV (d' := d - 1) [vi x1] [vi (M j 10)] (c_X2_harvest hj (by omega) hv1) okX2_harvest gw_593 rfl rfl (ltX2 hj) (hcX2 hj E _) rfl (Nat.le_of_ble_eq_true rfl) (by omega) dX2_foodIn_6 ?_
  rintro _ _ ⟨rfl, rfl⟩
  show V E mX2_foodIn d 9 [(0, rf E j), (1, vi x1)] [vi v1, vi (M j 10)] M _
  refine V.iadd dX2_foodIn_9 ?_
  cases Option.some.inj hF
  exact V.iret rfl dX2_foodIn_10 hK
theorem c_X2_foodIn {E : En} {d : Nat} {n : Nat} {j : Nat} {x1 : Int} {M : Mem} {z : Int} (hj : isX2 j) (hd : 2 ≤ d) (hF : f_X2_foodIn n j x1 M = some z) : Cn E mX2_foodIn d [rf E j, vi x1] M (fun v N => v = some (vi z) ∧ M = N) := by
  refine V.entry (by decide +kernel) (Nat.le_of_ble_eq_true rfl) ?_
  exact v_X2_foodIn_0 hj hd hF ⟨rfl, rfl⟩
abbrev mX2_appoint : MI := (yX2_appoint, cX2_appoint, 3, none)
theorem okX2_appoint : OKV mX2_appoint 2 := ⟨gw_133, gw_134, gw_60, gw_135, (by decide +kernel), (by decide)⟩
def f_X2_appoint (j : Nat) (x1 : Int) (x2 : Int) (M : Mem) : Option (Mem) :=
  (some (st M j 13 x1)).bind fun M1 =>
  (some (st M1 j 14 x2)).bind fun M2 =>
  some M2
set_option maxRecDepth 10000 in
theorem v_X2_appoint_0 {E : En} {d : Nat} {Q : Po} {j : Nat} {x1 : Int} {x2 : Int} {M : Mem} {z : Mem} (hj : isX2 j) (hd : 1 ≤ d) (hF : f_X2_appoint j x1 x2 M = some z) (hK : Q none z) : V E mX2_appoint d 0 [(0, rf E j), (1, vi x1), (2, vi x2)] [] M Q := by
  unfold f_X2_appoint at hF
  refine V.aload_n 0 0 0 rfl dX2_appoint_0 rfl ?_
  refine V.iload_n 1 1 1 rfl dX2_appoint_1 rfl ?_
  replace hF := Option.bind_eq_some_iff.mp hF
  obtain ⟨M1, hM1, hF⟩ := hF
  refine V.put (x := x1) (ty := .int) (Option.some.inj hM1) (ltX2 hj) (hcX2 hj E) rfl inX2 tyX2 tyX2_ok nmX2 (by decide) rfl (by decide +kernel) rfl rfl (Nat.le_of_ble_eq_true rfl) rfl gw_171 dX2_appoint_2 ?_
  refine V.aload_n 0 0 0 rfl dX2_appoint_5 rfl ?_
  refine V.iload_n 2 2 2 rfl dX2_appoint_6 rfl ?_
  replace hF := Option.bind_eq_some_iff.mp hF
  obtain ⟨M2, hM2, hF⟩ := hF
  refine V.put (x := x2) (ty := .int) (Option.some.inj hM2) (ltX2 hj) (hcX2 hj E) rfl inX2 tyX2 tyX2_ok nmX2 (by decide) rfl (by decide +kernel) rfl rfl (Nat.le_of_ble_eq_true rfl) rfl gw_173 dX2_appoint_7 ?_
  cases Option.some.inj hF
  exact V.vret rfl dX2_appoint_10 hK
theorem c_X2_appoint {E : En} {d : Nat} {j : Nat} {x1 : Int} {x2 : Int} {M : Mem} {z : Mem} (hj : isX2 j) (hd : 1 ≤ d) (hF : f_X2_appoint j x1 x2 M = some z) : Cn E mX2_appoint d [rf E j, vi x1, vi x2] M (fun v N => v = none ∧ z = N) := by
  refine V.entry (by decide +kernel) (Nat.le_of_ble_eq_true rfl) ?_
  exact v_X2_appoint_0 hj hd hF ⟨rfl, rfl⟩
abbrev mX2_begin : MI := (yX2_begin, cX2_begin, 1, none)
theorem okX2_begin : OKV mX2_begin 0 := ⟨gw_129, gw_130, gw_60, gw_131, (by decide +kernel), (by decide)⟩
def f_X2_begin (j : Nat) (M : Mem) : Option (Mem) :=
  (some (st M j 4 0)).bind fun M1 =>
  (some (st M1 j 5 0)).bind fun M2 =>
  (some (st M2 j 6 0)).bind fun M3 =>
  (some (st M3 j 7 0)).bind fun M4 =>
  (some (st M4 j 8 40)).bind fun M5 =>
  (some (st M5 j 9 0)).bind fun M6 =>
  (some (st M6 j 10 0)).bind fun M7 =>
  (some (st M7 j 11 1)).bind fun M8 =>
  (some (st M8 j 12 1)).bind fun M9 =>
  (f_X2_appoint j 0 0 M9).bind fun M10 =>
  (some (st M10 j 15 0)).bind fun M11 =>
  (some (st M11 j 16 0)).bind fun M12 =>
  (some (st M12 j 17 0)).bind fun M13 =>
  (some (st M13 j 18 0)).bind fun M14 =>
  some M14
set_option maxRecDepth 10000 in
theorem v_X2_begin_0 {E : En} {d : Nat} {Q : Po} {j : Nat} {M : Mem} {z : Mem} (hj : isX2 j) (hd : 2 ≤ d) (hF : f_X2_begin j M = some z) (hK : Q none z) : V E mX2_begin d 0 [(0, rf E j)] [] M Q := by
  unfold f_X2_begin at hF
  refine V.aload_n 0 0 0 rfl dX2_begin_0 rfl ?_
  refine V.iconst 0 dX2_begin_1 ?_
  replace hF := Option.bind_eq_some_iff.mp hF
  obtain ⟨M1, hM1, hF⟩ := hF
  refine V.put (x := 0) (ty := .int) (Option.some.inj hM1) (ltX2 hj) (hcX2 hj E) rfl inX2 tyX2 tyX2_ok nmX2 (by decide) rfl (by decide +kernel) rfl rfl (Nat.le_of_ble_eq_true rfl) rfl gw_141 dX2_begin_2 ?_
  refine V.aload_n 0 0 0 rfl dX2_begin_5 rfl ?_
  refine V.iconst 0 dX2_begin_6 ?_
  replace hF := Option.bind_eq_some_iff.mp hF
  obtain ⟨M2, hM2, hF⟩ := hF
  refine V.put (x := 0) (ty := .int) (Option.some.inj hM2) (ltX2 hj) (hcX2 hj E) rfl inX2 tyX2 tyX2_ok nmX2 (by decide) rfl (by decide +kernel) rfl rfl (Nat.le_of_ble_eq_true rfl) rfl gw_144 dX2_begin_7 ?_
  refine V.aload_n 0 0 0 rfl dX2_begin_10 rfl ?_
  refine V.iconst 0 dX2_begin_11 ?_
  replace hF := Option.bind_eq_some_iff.mp hF
  obtain ⟨M3, hM3, hF⟩ := hF
  refine V.put (x := 0) (ty := .int) (Option.some.inj hM3) (ltX2 hj) (hcX2 hj E) rfl inX2 tyX2 tyX2_ok nmX2 (by decide) rfl (by decide +kernel) rfl rfl (Nat.le_of_ble_eq_true rfl) rfl gw_147 dX2_begin_12 ?_
  refine V.aload_n 0 0 0 rfl dX2_begin_15 rfl ?_
  refine V.iconst 0 dX2_begin_16 ?_
  replace hF := Option.bind_eq_some_iff.mp hF
  obtain ⟨M4, hM4, hF⟩ := hF
  refine V.put (x := 0) (ty := .int) (Option.some.inj hM4) (ltX2 hj) (hcX2 hj E) rfl inX2 tyX2 tyX2_ok nmX2 (by decide) rfl (by decide +kernel) rfl rfl (Nat.le_of_ble_eq_true rfl) rfl gw_150 dX2_begin_17 ?_
  refine V.aload_n 0 0 0 rfl dX2_begin_20 rfl ?_
  refine V.bipush 40 40 (by decide) dX2_begin_21 ?_
  replace hF := Option.bind_eq_some_iff.mp hF
  obtain ⟨M5, hM5, hF⟩ := hF
  refine V.put (x := 40) (ty := .int) (Option.some.inj hM5) (ltX2 hj) (hcX2 hj E) rfl inX2 tyX2 tyX2_ok nmX2 (by decide) rfl (by decide +kernel) rfl rfl (Nat.le_of_ble_eq_true rfl) rfl gw_154 dX2_begin_23 ?_
  refine V.aload_n 0 0 0 rfl dX2_begin_26 rfl ?_
  refine V.iconst 0 dX2_begin_27 ?_
  replace hF := Option.bind_eq_some_iff.mp hF
  obtain ⟨M6, hM6, hF⟩ := hF
  refine V.put (x := 0) (ty := .int) (Option.some.inj hM6) (ltX2 hj) (hcX2 hj E) rfl inX2 tyX2 tyX2_ok nmX2 (by decide) rfl (by decide +kernel) rfl rfl (Nat.le_of_ble_eq_true rfl) rfl gw_158 dX2_begin_28 ?_
  refine V.aload_n 0 0 0 rfl dX2_begin_31 rfl ?_
  refine V.iconst 0 dX2_begin_32 ?_
  replace hF := Option.bind_eq_some_iff.mp hF
  obtain ⟨M7, hM7, hF⟩ := hF
  refine V.put (x := 0) (ty := .int) (Option.some.inj hM7) (ltX2 hj) (hcX2 hj E) rfl inX2 tyX2 tyX2_ok nmX2 (by decide) rfl (by decide +kernel) rfl rfl (Nat.le_of_ble_eq_true rfl) rfl gw_162 dX2_begin_33 ?_
  refine V.aload_n 0 0 0 rfl dX2_begin_36 rfl ?_
  refine V.iconst 1 dX2_begin_37 ?_
  replace hF := Option.bind_eq_some_iff.mp hF
  obtain ⟨M8, hM8, hF⟩ := hF
  refine V.put (x := 1) (ty := .int) (Option.some.inj hM8) (ltX2 hj) (hcX2 hj E) rfl inX2 tyX2 tyX2_ok nmX2 (by decide) rfl (by decide +kernel) rfl rfl (Nat.le_of_ble_eq_true rfl) rfl gw_165 dX2_begin_38 ?_
  refine V.aload_n 0 0 0 rfl dX2_begin_41 rfl ?_
  refine V.iconst 1 dX2_begin_42 ?_
  replace hF := Option.bind_eq_some_iff.mp hF
  obtain ⟨M9, hM9, hF⟩ := hF
  refine V.put (x := 1) (ty := .int) (Option.some.inj hM9) (ltX2 hj) (hcX2 hj E) rfl inX2 tyX2 tyX2_ok nmX2 (by decide) rfl (by decide +kernel) rfl rfl (Nat.le_of_ble_eq_true rfl) rfl gw_168 dX2_begin_43 ?_
  refine V.aload_n 0 0 0 rfl dX2_begin_46 rfl ?_
  refine V.iconst 0 dX2_begin_47 ?_
  refine V.iconst 0 dX2_begin_48 ?_
  replace hF := Option.bind_eq_some_iff.mp hF
  obtain ⟨M10, hM10, hF⟩ := hF
  refine V.callV (d' := d - 1) [vi 0, vi 0] [] (c_X2_appoint hj (by omega) hM10) okX2_appoint gw_132 rfl rfl (ltX2 hj) (hcX2 hj E _) rfl (Nat.le_of_ble_eq_true rfl) (by omega) dX2_begin_49 ?_
  rintro _ _ ⟨rfl, rfl⟩
  show V E mX2_begin d 52 [(0, rf E j)] [] M10 _
  refine V.aload_n 0 0 0 rfl dX2_begin_52 rfl ?_
  refine V.iconst 0 dX2_begin_53 ?_
  replace hF := Option.bind_eq_some_iff.mp hF
  obtain ⟨M11, hM11, hF⟩ := hF
  refine V.put (x := 0) (ty := .int) (Option.some.inj hM11) (ltX2 hj) (hcX2 hj E) rfl inX2 tyX2 tyX2_ok nmX2 (by decide) rfl (by decide +kernel) rfl rfl (Nat.le_of_ble_eq_true rfl) rfl gw_175 dX2_begin_54 ?_
  refine V.aload_n 0 0 0 rfl dX2_begin_57 rfl ?_
  refine V.iconst 0 dX2_begin_58 ?_
  replace hF := Option.bind_eq_some_iff.mp hF
  obtain ⟨M12, hM12, hF⟩ := hF
  refine V.put (x := 0) (ty := .int) (Option.some.inj hM12) (ltX2 hj) (hcX2 hj E) rfl inX2 tyX2 tyX2_ok nmX2 (by decide) rfl (by decide +kernel) rfl rfl (Nat.le_of_ble_eq_true rfl) rfl gw_178 dX2_begin_59 ?_
  refine V.aload_n 0 0 0 rfl dX2_begin_62 rfl ?_
  refine V.iconst 0 dX2_begin_63 ?_
  replace hF := Option.bind_eq_some_iff.mp hF
  obtain ⟨M13, hM13, hF⟩ := hF
  refine V.put (x := 0) (ty := .int) (Option.some.inj hM13) (ltX2 hj) (hcX2 hj E) rfl inX2 tyX2 tyX2_ok nmX2 (by decide) rfl (by decide +kernel) rfl rfl (Nat.le_of_ble_eq_true rfl) rfl gw_180 dX2_begin_64 ?_
  refine V.aload_n 0 0 0 rfl dX2_begin_67 rfl ?_
  refine V.iconst 0 dX2_begin_68 ?_
  replace hF := Option.bind_eq_some_iff.mp hF
  obtain ⟨M14, hM14, hF⟩ := hF
  refine V.put (x := 0) (ty := .int) (Option.some.inj hM14) (ltX2 hj) (hcX2 hj E) rfl inX2 tyX2 tyX2_ok nmX2 (by decide) rfl (by decide +kernel) rfl rfl (Nat.le_of_ble_eq_true rfl) rfl gw_182 dX2_begin_69 ?_
  cases Option.some.inj hF
  exact V.vret rfl dX2_begin_72 hK
theorem c_X2_begin {E : En} {d : Nat} {j : Nat} {M : Mem} {z : Mem} (hj : isX2 j) (hd : 2 ≤ d) (hF : f_X2_begin j M = some z) : Cn E mX2_begin d [rf E j] M (fun v N => v = none ∧ z = N) := by
  refine V.entry (by decide +kernel) (Nat.le_of_ble_eq_true rfl) ?_
  exact v_X2_begin_0 hj hd hF ⟨rfl, rfl⟩
abbrev mX2_copy : MI := (yX2_copy, cX2_copy, 2, none)
theorem okX2_copy : OKV mX2_copy 1 := ⟨gw_484, gw_485, gw_60, gw_486, (by decide +kernel), (by decide)⟩
def f_X2_copy (j : Nat) (q1 : Nat) (M : Mem) : Option (Mem) :=
  (some (cpy M (q1 + 1) (j + 1) 4)).bind fun M1 =>
  (some (cpy M1 (q1 + 2) (j + 2) 4)).bind fun M2 =>
  (some (cpy M2 (q1 + 3) (j + 3) 4)).bind fun M3 =>
  (some (cpy M3 (q1 + 4) (j + 4) 4)).bind fun M4 =>
  (some (st M4 j 4 (M4 q1 4))).bind fun M5 =>
  (some (st M5 j 5 (M5 q1 5))).bind fun M6 =>
  (some (st M6 j 6 (M6 q1 6))).bind fun M7 =>
  (some (st M7 j 7 (M7 q1 7))).bind fun M8 =>
  (some (st M8 j 8 (M8 q1 8))).bind fun M9 =>
  (some (st M9 j 9 (M9 q1 9))).bind fun M10 =>
  (some (st M10 j 10 (M10 q1 10))).bind fun M11 =>
  (some (st M11 j 11 (M11 q1 11))).bind fun M12 =>
  (some (st M12 j 12 (M12 q1 12))).bind fun M13 =>
  (f_X2_appoint j (M13 q1 13) (M13 q1 14) M13).bind fun M14 =>
  (some (st M14 j 15 (M14 q1 15))).bind fun M15 =>
  (some (st M15 j 16 (M15 q1 16))).bind fun M16 =>
  (some (st M16 j 17 (M16 q1 17))).bind fun M17 =>
  (some (st M17 j 18 (M17 q1 18))).bind fun M18 =>
  some M18
set_option maxRecDepth 10000 in
theorem v_X2_copy_0 {E : En} {d : Nat} {Q : Po} {j : Nat} {q1 : Nat} {M : Mem} {z : Mem} (hj : isX2 j) (hq1 : isX2 q1) (hd : 2 ≤ d) (hF : f_X2_copy j q1 M = some z) (hK : Q none z) : V E mX2_copy d 0 [(0, rf E j), (1, rf E q1)] [] M Q := by
  unfold f_X2_copy at hF
  refine V.aload_n 1 1 1 rfl dX2_copy_0 rfl ?_
  refine V.get (ltX2 hq1) (hcX2 hq1 E _) rfl inX2 0 (by decide) rfl gw_136 dX2_copy_1 ?_
  refine V.iconst 0 dX2_copy_4 ?_
  refine V.aload_n 0 0 0 rfl dX2_copy_5 rfl ?_
  refine V.get (ltX2 hj) (hcX2 hj E _) rfl inX2 0 (by decide) rfl gw_136 dX2_copy_6 ?_
  refine V.iconst 0 dX2_copy_9 ?_
  refine V.iconst 4 dX2_copy_10 ?_
  replace hF := Option.bind_eq_some_iff.mp hF
  obtain ⟨M1, hM1, hF⟩ := hF
  refine V.acopy (ar_X2_0 hq1) (ar_X2_0 hj) (Option.some.inj hM1) (k0 := 4) (by decide) (by decide) (by decide) gw_487 gw_acn gw_acs gw_aci (Nat.le_of_ble_eq_true rfl) (by omega) dX2_copy_11 ?_
  refine V.aload_n 1 1 1 rfl dX2_copy_14 rfl ?_
  refine V.get (ltX2 hq1) (hcX2 hq1 E _) rfl inX2 1 (by decide) rfl gw_137 dX2_copy_15 ?_
  refine V.iconst 0 dX2_copy_18 ?_
  refine V.aload_n 0 0 0 rfl dX2_copy_19 rfl ?_
  refine V.get (ltX2 hj) (hcX2 hj E _) rfl inX2 1 (by decide) rfl gw_137 dX2_copy_20 ?_
  refine V.iconst 0 dX2_copy_23 ?_
  refine V.iconst 4 dX2_copy_24 ?_
  replace hF := Option.bind_eq_some_iff.mp hF
  obtain ⟨M2, hM2, hF⟩ := hF
  refine V.acopy (ar_X2_1 hq1) (ar_X2_1 hj) (Option.some.inj hM2) (k0 := 4) (by decide) (by decide) (by decide) gw_487 gw_acn gw_acs gw_aci (Nat.le_of_ble_eq_true rfl) (by omega) dX2_copy_25 ?_
  refine V.aload_n 1 1 1 rfl dX2_copy_28 rfl ?_
  refine V.get (ltX2 hq1) (hcX2 hq1 E _) rfl inX2 2 (by decide) rfl gw_138 dX2_copy_29 ?_
  refine V.iconst 0 dX2_copy_32 ?_
  refine V.aload_n 0 0 0 rfl dX2_copy_33 rfl ?_
  refine V.get (ltX2 hj) (hcX2 hj E _) rfl inX2 2 (by decide) rfl gw_138 dX2_copy_34 ?_
  refine V.iconst 0 dX2_copy_37 ?_
  refine V.iconst 4 dX2_copy_38 ?_
  replace hF := Option.bind_eq_some_iff.mp hF
  obtain ⟨M3, hM3, hF⟩ := hF
  refine V.acopy (ar_X2_2 hq1) (ar_X2_2 hj) (Option.some.inj hM3) (k0 := 4) (by decide) (by decide) (by decide) gw_487 gw_acn gw_acs gw_aci (Nat.le_of_ble_eq_true rfl) (by omega) dX2_copy_39 ?_
  refine V.aload_n 1 1 1 rfl dX2_copy_42 rfl ?_
  refine V.get (ltX2 hq1) (hcX2 hq1 E _) rfl inX2 3 (by decide) rfl gw_139 dX2_copy_43 ?_
  refine V.iconst 0 dX2_copy_46 ?_
  refine V.aload_n 0 0 0 rfl dX2_copy_47 rfl ?_
  refine V.get (ltX2 hj) (hcX2 hj E _) rfl inX2 3 (by decide) rfl gw_139 dX2_copy_48 ?_
  refine V.iconst 0 dX2_copy_51 ?_
  refine V.iconst 4 dX2_copy_52 ?_
  replace hF := Option.bind_eq_some_iff.mp hF
  obtain ⟨M4, hM4, hF⟩ := hF
  refine V.acopy (ar_X2_3 hq1) (ar_X2_3 hj) (Option.some.inj hM4) (k0 := 4) (by decide) (by decide) (by decide) gw_487 gw_acn gw_acs gw_aci (Nat.le_of_ble_eq_true rfl) (by omega) dX2_copy_53 ?_
  refine V.aload_n 0 0 0 rfl dX2_copy_56 rfl ?_
  refine V.aload_n 1 1 1 rfl dX2_copy_57 rfl ?_
  refine V.get (ltX2 hq1) (hcX2 hq1 E _) rfl inX2 4 (by decide) rfl gw_141 dX2_copy_58 ?_
  replace hF := Option.bind_eq_some_iff.mp hF
  obtain ⟨M5, hM5, hF⟩ := hF
  refine V.put (x := M4 q1 4) (ty := .int) (Option.some.inj hM5) (ltX2 hj) (hcX2 hj E) rfl inX2 tyX2 tyX2_ok nmX2 (by decide) rfl (by decide +kernel) rfl rfl (Nat.le_of_ble_eq_true rfl) rfl gw_141 dX2_copy_61 ?_
  refine V.aload_n 0 0 0 rfl dX2_copy_64 rfl ?_
  refine V.aload_n 1 1 1 rfl dX2_copy_65 rfl ?_
  refine V.get (ltX2 hq1) (hcX2 hq1 E _) rfl inX2 5 (by decide) rfl gw_144 dX2_copy_66 ?_
  replace hF := Option.bind_eq_some_iff.mp hF
  obtain ⟨M6, hM6, hF⟩ := hF
  refine V.put (x := M5 q1 5) (ty := .int) (Option.some.inj hM6) (ltX2 hj) (hcX2 hj E) rfl inX2 tyX2 tyX2_ok nmX2 (by decide) rfl (by decide +kernel) rfl rfl (Nat.le_of_ble_eq_true rfl) rfl gw_144 dX2_copy_69 ?_
  refine V.aload_n 0 0 0 rfl dX2_copy_72 rfl ?_
  refine V.aload_n 1 1 1 rfl dX2_copy_73 rfl ?_
  refine V.get (ltX2 hq1) (hcX2 hq1 E _) rfl inX2 6 (by decide) rfl gw_147 dX2_copy_74 ?_
  replace hF := Option.bind_eq_some_iff.mp hF
  obtain ⟨M7, hM7, hF⟩ := hF
  refine V.put (x := M6 q1 6) (ty := .int) (Option.some.inj hM7) (ltX2 hj) (hcX2 hj E) rfl inX2 tyX2 tyX2_ok nmX2 (by decide) rfl (by decide +kernel) rfl rfl (Nat.le_of_ble_eq_true rfl) rfl gw_147 dX2_copy_77 ?_
  refine V.aload_n 0 0 0 rfl dX2_copy_80 rfl ?_
  refine V.aload_n 1 1 1 rfl dX2_copy_81 rfl ?_
  refine V.get (ltX2 hq1) (hcX2 hq1 E _) rfl inX2 7 (by decide) rfl gw_150 dX2_copy_82 ?_
  replace hF := Option.bind_eq_some_iff.mp hF
  obtain ⟨M8, hM8, hF⟩ := hF
  refine V.put (x := M7 q1 7) (ty := .int) (Option.some.inj hM8) (ltX2 hj) (hcX2 hj E) rfl inX2 tyX2 tyX2_ok nmX2 (by decide) rfl (by decide +kernel) rfl rfl (Nat.le_of_ble_eq_true rfl) rfl gw_150 dX2_copy_85 ?_
  refine V.aload_n 0 0 0 rfl dX2_copy_88 rfl ?_
  refine V.aload_n 1 1 1 rfl dX2_copy_89 rfl ?_
  refine V.get (ltX2 hq1) (hcX2 hq1 E _) rfl inX2 8 (by decide) rfl gw_154 dX2_copy_90 ?_
  replace hF := Option.bind_eq_some_iff.mp hF
  obtain ⟨M9, hM9, hF⟩ := hF
  refine V.put (x := M8 q1 8) (ty := .int) (Option.some.inj hM9) (ltX2 hj) (hcX2 hj E) rfl inX2 tyX2 tyX2_ok nmX2 (by decide) rfl (by decide +kernel) rfl rfl (Nat.le_of_ble_eq_true rfl) rfl gw_154 dX2_copy_93 ?_
  refine V.aload_n 0 0 0 rfl dX2_copy_96 rfl ?_
  refine V.aload_n 1 1 1 rfl dX2_copy_97 rfl ?_
  refine V.get (ltX2 hq1) (hcX2 hq1 E _) rfl inX2 9 (by decide) rfl gw_158 dX2_copy_98 ?_
  replace hF := Option.bind_eq_some_iff.mp hF
  obtain ⟨M10, hM10, hF⟩ := hF
  refine V.put (x := M9 q1 9) (ty := .int) (Option.some.inj hM10) (ltX2 hj) (hcX2 hj E) rfl inX2 tyX2 tyX2_ok nmX2 (by decide) rfl (by decide +kernel) rfl rfl (Nat.le_of_ble_eq_true rfl) rfl gw_158 dX2_copy_101 ?_
  refine V.aload_n 0 0 0 rfl dX2_copy_104 rfl ?_
  refine V.aload_n 1 1 1 rfl dX2_copy_105 rfl ?_
  refine V.get (ltX2 hq1) (hcX2 hq1 E _) rfl inX2 10 (by decide) rfl gw_162 dX2_copy_106 ?_
  replace hF := Option.bind_eq_some_iff.mp hF
  obtain ⟨M11, hM11, hF⟩ := hF
  refine V.put (x := M10 q1 10) (ty := .int) (Option.some.inj hM11) (ltX2 hj) (hcX2 hj E) rfl inX2 tyX2 tyX2_ok nmX2 (by decide) rfl (by decide +kernel) rfl rfl (Nat.le_of_ble_eq_true rfl) rfl gw_162 dX2_copy_109 ?_
  refine V.aload_n 0 0 0 rfl dX2_copy_112 rfl ?_
  refine V.aload_n 1 1 1 rfl dX2_copy_113 rfl ?_
  refine V.get (ltX2 hq1) (hcX2 hq1 E _) rfl inX2 11 (by decide) rfl gw_165 dX2_copy_114 ?_
  replace hF := Option.bind_eq_some_iff.mp hF
  obtain ⟨M12, hM12, hF⟩ := hF
  refine V.put (x := M11 q1 11) (ty := .int) (Option.some.inj hM12) (ltX2 hj) (hcX2 hj E) rfl inX2 tyX2 tyX2_ok nmX2 (by decide) rfl (by decide +kernel) rfl rfl (Nat.le_of_ble_eq_true rfl) rfl gw_165 dX2_copy_117 ?_
  refine V.aload_n 0 0 0 rfl dX2_copy_120 rfl ?_
  refine V.aload_n 1 1 1 rfl dX2_copy_121 rfl ?_
  refine V.get (ltX2 hq1) (hcX2 hq1 E _) rfl inX2 12 (by decide) rfl gw_168 dX2_copy_122 ?_
  replace hF := Option.bind_eq_some_iff.mp hF
  obtain ⟨M13, hM13, hF⟩ := hF
  refine V.put (x := M12 q1 12) (ty := .int) (Option.some.inj hM13) (ltX2 hj) (hcX2 hj E) rfl inX2 tyX2 tyX2_ok nmX2 (by decide) rfl (by decide +kernel) rfl rfl (Nat.le_of_ble_eq_true rfl) rfl gw_168 dX2_copy_125 ?_
  refine V.aload_n 0 0 0 rfl dX2_copy_128 rfl ?_
  refine V.aload_n 1 1 1 rfl dX2_copy_129 rfl ?_
  refine V.get (ltX2 hq1) (hcX2 hq1 E _) rfl inX2 13 (by decide) rfl gw_171 dX2_copy_130 ?_
  refine V.aload_n 1 1 1 rfl dX2_copy_133 rfl ?_
  refine V.get (ltX2 hq1) (hcX2 hq1 E _) rfl inX2 14 (by decide) rfl gw_173 dX2_copy_134 ?_
  replace hF := Option.bind_eq_some_iff.mp hF
  obtain ⟨M14, hM14, hF⟩ := hF
  refine V.callV (d' := d - 1) [vi (M13 q1 13), vi (M13 q1 14)] [] (c_X2_appoint hj (by omega) hM14) okX2_appoint gw_132 rfl rfl (ltX2 hj) (hcX2 hj E _) rfl (Nat.le_of_ble_eq_true rfl) (by omega) dX2_copy_137 ?_
  rintro _ _ ⟨rfl, rfl⟩
  show V E mX2_copy d 140 [(0, rf E j), (1, rf E q1)] [] M14 _
  refine V.aload_n 0 0 0 rfl dX2_copy_140 rfl ?_
  refine V.aload_n 1 1 1 rfl dX2_copy_141 rfl ?_
  refine V.get (ltX2 hq1) (hcX2 hq1 E _) rfl inX2 15 (by decide) rfl gw_175 dX2_copy_142 ?_
  replace hF := Option.bind_eq_some_iff.mp hF
  obtain ⟨M15, hM15, hF⟩ := hF
  refine V.put (x := M14 q1 15) (ty := .int) (Option.some.inj hM15) (ltX2 hj) (hcX2 hj E) rfl inX2 tyX2 tyX2_ok nmX2 (by decide) rfl (by decide +kernel) rfl rfl (Nat.le_of_ble_eq_true rfl) rfl gw_175 dX2_copy_145 ?_
  refine V.aload_n 0 0 0 rfl dX2_copy_148 rfl ?_
  refine V.aload_n 1 1 1 rfl dX2_copy_149 rfl ?_
  refine V.get (ltX2 hq1) (hcX2 hq1 E _) rfl inX2 16 (by decide) rfl gw_178 dX2_copy_150 ?_
  replace hF := Option.bind_eq_some_iff.mp hF
  obtain ⟨M16, hM16, hF⟩ := hF
  refine V.put (x := M15 q1 16) (ty := .int) (Option.some.inj hM16) (ltX2 hj) (hcX2 hj E) rfl inX2 tyX2 tyX2_ok nmX2 (by decide) rfl (by decide +kernel) rfl rfl (Nat.le_of_ble_eq_true rfl) rfl gw_178 dX2_copy_153 ?_
  refine V.aload_n 0 0 0 rfl dX2_copy_156 rfl ?_
  refine V.aload_n 1 1 1 rfl dX2_copy_157 rfl ?_
  refine V.get (ltX2 hq1) (hcX2 hq1 E _) rfl inX2 17 (by decide) rfl gw_180 dX2_copy_158 ?_
  replace hF := Option.bind_eq_some_iff.mp hF
  obtain ⟨M17, hM17, hF⟩ := hF
  refine V.put (x := M16 q1 17) (ty := .int) (Option.some.inj hM17) (ltX2 hj) (hcX2 hj E) rfl inX2 tyX2 tyX2_ok nmX2 (by decide) rfl (by decide +kernel) rfl rfl (Nat.le_of_ble_eq_true rfl) rfl gw_180 dX2_copy_161 ?_
  refine V.aload_n 0 0 0 rfl dX2_copy_164 rfl ?_
  refine V.aload_n 1 1 1 rfl dX2_copy_165 rfl ?_
  refine V.get (ltX2 hq1) (hcX2 hq1 E _) rfl inX2 18 (by decide) rfl gw_182 dX2_copy_166 ?_
  replace hF := Option.bind_eq_some_iff.mp hF
  obtain ⟨M18, hM18, hF⟩ := hF
  refine V.put (x := M17 q1 18) (ty := .int) (Option.some.inj hM18) (ltX2 hj) (hcX2 hj E) rfl inX2 tyX2 tyX2_ok nmX2 (by decide) rfl (by decide +kernel) rfl rfl (Nat.le_of_ble_eq_true rfl) rfl gw_182 dX2_copy_169 ?_
  cases Option.some.inj hF
  exact V.vret rfl dX2_copy_172 hK
theorem c_X2_copy {E : En} {d : Nat} {j : Nat} {q1 : Nat} {M : Mem} {z : Mem} (hj : isX2 j) (hq1 : isX2 q1) (hd : 2 ≤ d) (hF : f_X2_copy j q1 M = some z) : Cn E mX2_copy d [rf E j, rf E q1] M (fun v N => v = none ∧ z = N) := by
  refine V.entry (by decide +kernel) (Nat.le_of_ble_eq_true rfl) ?_
  exact v_X2_copy_0 hj hq1 hd hF ⟨rfl, rfl⟩
abbrev mX2_addLand : MI := (yX2_addLand, cX2_addLand, 3, none)
theorem okX2_addLand : OKV mX2_addLand 2 := ⟨gw_427, gw_428, gw_60, gw_429, (by decide +kernel), (by decide)⟩
def f_X2_addLand (j : Nat) (x1 : Int) (x2 : Int) (M : Mem) : Option (Mem) :=
  if 4 ≤ wr (M j 4) then
    some M
  else
    (wt M (j + 1) 4 (M j 4) x1).bind fun M1 =>
    (wt M1 (j + 2) 4 (M1 j 4) x2).bind fun M2 =>
    (some (st M2 j 4 ((M2 j 4) + 1))).bind fun M3 =>
    some M3
set_option maxRecDepth 10000 in
theorem v_X2_addLand_0 {E : En} {d : Nat} {Q : Po} {j : Nat} {x1 : Int} {x2 : Int} {M : Mem} {z : Mem} (hj : isX2 j) (hd : 1 ≤ d) (hF : f_X2_addLand j x1 x2 M = some z) (hK : Q none z) : V E mX2_addLand d 0 [(0, rf E j), (1, vi x1), (2, vi x2)] [] M Q := by
  unfold f_X2_addLand at hF
  refine V.aload_n 0 0 0 rfl dX2_addLand_0 rfl ?_
  refine V.get (ltX2 hj) (hcX2 hj E _) rfl inX2 4 (by decide) rfl gw_141 dX2_addLand_1 ?_
  refine V.iconst 4 dX2_addLand_4 ?_
  refine V.icmp_ge (tgt := 38) rfl wr_4 dX2_addLand_5 (by decide) (fun hc => ?_) (fun hc => ?_)
  · rw [if_pos hc] at hF
    cases Option.some.inj hF
    exact V.vret rfl dX2_addLand_38 hK
  · rw [if_neg hc] at hF
    refine V.aload_n 0 0 0 rfl dX2_addLand_8 rfl ?_
    refine V.get (ltX2 hj) (hcX2 hj E _) rfl inX2 0 (by decide) rfl gw_136 dX2_addLand_9 ?_
    refine V.aload_n 0 0 0 rfl dX2_addLand_12 rfl ?_
    refine V.get (ltX2 hj) (hcX2 hj E _) rfl inX2 4 (by decide) rfl gw_141 dX2_addLand_13 ?_
    refine V.iload_n 1 1 1 rfl dX2_addLand_16 rfl ?_
    replace hF := Option.bind_eq_some_iff.mp hF
    obtain ⟨M1, hM1, hF⟩ := hF
    refine V.iast (ar_X2_0 hj) hM1 dX2_addLand_17 ?_
    refine V.aload_n 0 0 0 rfl dX2_addLand_18 rfl ?_
    refine V.get (ltX2 hj) (hcX2 hj E _) rfl inX2 1 (by decide) rfl gw_137 dX2_addLand_19 ?_
    refine V.aload_n 0 0 0 rfl dX2_addLand_22 rfl ?_
    refine V.get (ltX2 hj) (hcX2 hj E _) rfl inX2 4 (by decide) rfl gw_141 dX2_addLand_23 ?_
    refine V.iload_n 2 2 2 rfl dX2_addLand_26 rfl ?_
    replace hF := Option.bind_eq_some_iff.mp hF
    obtain ⟨M2, hM2, hF⟩ := hF
    refine V.iast (ar_X2_1 hj) hM2 dX2_addLand_27 ?_
    refine V.aload_n 0 0 0 rfl dX2_addLand_28 rfl ?_
    refine V.dup rfl dX2_addLand_29 ?_
    refine V.get (ltX2 hj) (hcX2 hj E _) rfl inX2 4 (by decide) rfl gw_141 dX2_addLand_30 ?_
    refine V.iconst 1 dX2_addLand_33 ?_
    refine V.iadd dX2_addLand_34 ?_
    replace hF := Option.bind_eq_some_iff.mp hF
    obtain ⟨M3, hM3, hF⟩ := hF
    refine V.put (x := (M2 j 4) + 1) (ty := .int) (Option.some.inj hM3) (ltX2 hj) (hcX2 hj E) rfl inX2 tyX2 tyX2_ok nmX2 (by decide) rfl (by decide +kernel) rfl rfl (Nat.le_of_ble_eq_true rfl) rfl gw_141 dX2_addLand_35 ?_
    cases Option.some.inj hF
    exact V.vret rfl dX2_addLand_38 hK
theorem c_X2_addLand {E : En} {d : Nat} {j : Nat} {x1 : Int} {x2 : Int} {M : Mem} {z : Mem} (hj : isX2 j) (hd : 1 ≤ d) (hF : f_X2_addLand j x1 x2 M = some z) : Cn E mX2_addLand d [rf E j, vi x1, vi x2] M (fun v N => v = none ∧ z = N) := by
  refine V.entry (by decide +kernel) (Nat.le_of_ble_eq_true rfl) ?_
  exact v_X2_addLand_0 hj hd hF ⟨rfl, rfl⟩
abbrev mX2_addReading : MI := (yX2_addReading, cX2_addReading, 3, none)
theorem okX2_addReading : OKV mX2_addReading 2 := ⟨gw_440, gw_441, gw_60, gw_442, (by decide +kernel), (by decide)⟩
def f_X2_addReading (j : Nat) (x1 : Int) (x2 : Int) (M : Mem) : Option (Mem) :=
  if 4 ≤ wr (M j 5) then
    some M
  else
    (wt M (j + 3) 4 (M j 5) x1).bind fun M1 =>
    (wt M1 (j + 4) 4 (M1 j 5) x2).bind fun M2 =>
    (some (st M2 j 5 ((M2 j 5) + 1))).bind fun M3 =>
    some M3
set_option maxRecDepth 10000 in
theorem v_X2_addReading_0 {E : En} {d : Nat} {Q : Po} {j : Nat} {x1 : Int} {x2 : Int} {M : Mem} {z : Mem} (hj : isX2 j) (hd : 1 ≤ d) (hF : f_X2_addReading j x1 x2 M = some z) (hK : Q none z) : V E mX2_addReading d 0 [(0, rf E j), (1, vi x1), (2, vi x2)] [] M Q := by
  unfold f_X2_addReading at hF
  refine V.aload_n 0 0 0 rfl dX2_addReading_0 rfl ?_
  refine V.get (ltX2 hj) (hcX2 hj E _) rfl inX2 5 (by decide) rfl gw_144 dX2_addReading_1 ?_
  refine V.iconst 4 dX2_addReading_4 ?_
  refine V.icmp_ge (tgt := 38) rfl wr_4 dX2_addReading_5 (by decide) (fun hc => ?_) (fun hc => ?_)
  · rw [if_pos hc] at hF
    cases Option.some.inj hF
    exact V.vret rfl dX2_addReading_38 hK
  · rw [if_neg hc] at hF
    refine V.aload_n 0 0 0 rfl dX2_addReading_8 rfl ?_
    refine V.get (ltX2 hj) (hcX2 hj E _) rfl inX2 2 (by decide) rfl gw_138 dX2_addReading_9 ?_
    refine V.aload_n 0 0 0 rfl dX2_addReading_12 rfl ?_
    refine V.get (ltX2 hj) (hcX2 hj E _) rfl inX2 5 (by decide) rfl gw_144 dX2_addReading_13 ?_
    refine V.iload_n 1 1 1 rfl dX2_addReading_16 rfl ?_
    replace hF := Option.bind_eq_some_iff.mp hF
    obtain ⟨M1, hM1, hF⟩ := hF
    refine V.iast (ar_X2_2 hj) hM1 dX2_addReading_17 ?_
    refine V.aload_n 0 0 0 rfl dX2_addReading_18 rfl ?_
    refine V.get (ltX2 hj) (hcX2 hj E _) rfl inX2 3 (by decide) rfl gw_139 dX2_addReading_19 ?_
    refine V.aload_n 0 0 0 rfl dX2_addReading_22 rfl ?_
    refine V.get (ltX2 hj) (hcX2 hj E _) rfl inX2 5 (by decide) rfl gw_144 dX2_addReading_23 ?_
    refine V.iload_n 2 2 2 rfl dX2_addReading_26 rfl ?_
    replace hF := Option.bind_eq_some_iff.mp hF
    obtain ⟨M2, hM2, hF⟩ := hF
    refine V.iast (ar_X2_3 hj) hM2 dX2_addReading_27 ?_
    refine V.aload_n 0 0 0 rfl dX2_addReading_28 rfl ?_
    refine V.dup rfl dX2_addReading_29 ?_
    refine V.get (ltX2 hj) (hcX2 hj E _) rfl inX2 5 (by decide) rfl gw_144 dX2_addReading_30 ?_
    refine V.iconst 1 dX2_addReading_33 ?_
    refine V.iadd dX2_addReading_34 ?_
    replace hF := Option.bind_eq_some_iff.mp hF
    obtain ⟨M3, hM3, hF⟩ := hF
    refine V.put (x := (M2 j 5) + 1) (ty := .int) (Option.some.inj hM3) (ltX2 hj) (hcX2 hj E) rfl inX2 tyX2 tyX2_ok nmX2 (by decide) rfl (by decide +kernel) rfl rfl (Nat.le_of_ble_eq_true rfl) rfl gw_144 dX2_addReading_35 ?_
    cases Option.some.inj hF
    exact V.vret rfl dX2_addReading_38 hK
theorem c_X2_addReading {E : En} {d : Nat} {j : Nat} {x1 : Int} {x2 : Int} {M : Mem} {z : Mem} (hj : isX2 j) (hd : 1 ≤ d) (hF : f_X2_addReading j x1 x2 M = some z) : Cn E mX2_addReading d [rf E j, vi x1, vi x2] M (fun v N => v = none ∧ z = N) := by
  refine V.entry (by decide +kernel) (Nat.le_of_ble_eq_true rfl) ?_
  exact v_X2_addReading_0 hj hd hF ⟨rfl, rfl⟩
abbrev mX2_yields : MI := (yX2_yields, cX2_yields, 2, (some (.array .int)))
theorem okX2_yields : OKV mX2_yields 1 := ⟨gw_511, gw_512, gw_60, gw_513, (by decide +kernel), (by decide)⟩
def f_X2_yields (j : Nat) (x1 : Int) (M : Mem) : Option (Nat) :=
  if wr x1 = 1 then
    some (j + 1)
  else
    some (j + 2)
set_option maxRecDepth 10000 in
theorem v_X2_yields_0 {E : En} {d : Nat} {Q : Po} {j : Nat} {x1 : Int} {M : Mem} {z : Nat} (hj : isX2 j) (hd : 1 ≤ d) (hF : f_X2_yields j x1 M = some z) (hK : Q (some (rf E z)) M) : V E mX2_yields d 0 [(0, rf E j), (1, vi x1)] [] M Q := by
  unfold f_X2_yields at hF
  refine V.iload_n 1 1 1 rfl dX2_yields_0 rfl ?_
  refine V.iconst 1 dX2_yields_1 ?_
  refine V.icmp_ne (tgt := 12) rfl wr_1 dX2_yields_2 (by decide) (fun hc => ?_) (fun hc => ?_)
  · rw [if_neg hc] at hF
    refine V.aload_n 0 0 0 rfl dX2_yields_12 rfl ?_
    refine V.get (ltX2 hj) (hcX2 hj E _) rfl inX2 1 (by decide) rfl gw_137 dX2_yields_13 ?_
    cases Option.some.inj hF
    exact V.aret rfl (Or.inr ⟨_, rfl⟩) dX2_yields_16 hK
  · rw [if_pos hc] at hF
    refine V.aload_n 0 0 0 rfl dX2_yields_5 rfl ?_
    refine V.get (ltX2 hj) (hcX2 hj E _) rfl inX2 0 (by decide) rfl gw_136 dX2_yields_6 ?_
    refine V.goto (tgt := 16) dX2_yields_9 (by decide) ?_
    cases Option.some.inj hF
    exact V.aret rfl (Or.inr ⟨_, rfl⟩) dX2_yields_16 hK
theorem c_X2_yields {E : En} {d : Nat} {j : Nat} {x1 : Int} {M : Mem} {z : Nat} (hj : isX2 j) (hd : 1 ≤ d) (hF : f_X2_yields j x1 M = some z) : Cn E mX2_yields d [rf E j, vi x1] M (fun v N => v = some (rf E z) ∧ M = N) := by
  refine V.entry (by decide +kernel) (Nat.le_of_ble_eq_true rfl) ?_
  exact v_X2_yields_0 hj hd hF ⟨rfl, rfl⟩
theorem yl_X2_yields {j a : Nat} {x1 : Int} {M : Mem} (hj : isX2 j) (h : f_X2_yields j x1 M = some a) : isI a 4 := by
  unfold f_X2_yields at h
  split at h <;> first | (cases Option.some.inj h; exact ar_X2_0 hj) | (cases Option.some.inj h; exact ar_X2_1 hj)
abbrev mX2_isOver : MI := (yX2_isOver, cX2_isOver, 1, (some .boolean))
theorem okX2_isOver : OKV mX2_isOver 0 := ⟨gw_606, gw_607, gw_60, gw_608, (by decide +kernel), (by decide)⟩
def f_X2_isOver (j : Nat) (M : Mem) : Option (Int) :=
  if wr (M j 15) < 8 then
    some 0
  else
    some 1
set_option maxRecDepth 10000 in
theorem v_X2_isOver_0 {E : En} {d : Nat} {Q : Po} {j : Nat} {M : Mem} {z : Int} (hj : isX2 j) (hd : 1 ≤ d) (hF : f_X2_isOver j M = some z) (hK : Q (some (vi z)) M) : V E mX2_isOver d 0 [(0, rf E j)] [] M Q := by
  unfold f_X2_isOver at hF
  refine V.aload_n 0 0 0 rfl dX2_isOver_0 rfl ?_
  refine V.get (ltX2 hj) (hcX2 hj E _) rfl inX2 15 (by decide) rfl gw_175 dX2_isOver_1 ?_
  refine V.bipush 8 8 (by decide) dX2_isOver_4 ?_
  refine V.icmp_lt (tgt := 13) rfl wr_8 dX2_isOver_6 (by decide) (fun hc => ?_) (fun hc => ?_)
  · rw [if_pos hc] at hF
    refine V.iconst 0 dX2_isOver_13 ?_
    cases Option.some.inj hF
    exact V.zret rfl (Or.inl rfl) dX2_isOver_14 hK
  · rw [if_neg hc] at hF
    refine V.iconst 1 dX2_isOver_9 ?_
    refine V.goto (tgt := 14) dX2_isOver_10 (by decide) ?_
    cases Option.some.inj hF
    exact V.zret rfl (Or.inr rfl) dX2_isOver_14 hK
theorem c_X2_isOver {E : En} {d : Nat} {j : Nat} {M : Mem} {z : Int} (hj : isX2 j) (hd : 1 ≤ d) (hF : f_X2_isOver j M = some z) : Cn E mX2_isOver d [rf E j] M (fun v N => v = some (vi z) ∧ M = N) := by
  refine V.entry (by decide +kernel) (Nat.le_of_ble_eq_true rfl) ?_
  exact v_X2_isOver_0 hj hd hF ⟨rfl, rfl⟩
abbrev mX2_wantedOf : MI := (yX2_wantedOf, cX2_wantedOf, 2, (some .int))
theorem okX2_wantedOf : OKV mX2_wantedOf 1 := ⟨gw_637, gw_18, gw_60, gw_638, (by decide +kernel), (by decide)⟩
def f_X2_wantedOf (j : Nat) (x1 : Int) (M : Mem) : Option (Int) :=
  if wr (M j 13) = 1 then
    if 1 ≤ wr (M j 14) then
      (ivtdiv x1 ((M j 14) + 1)).bind fun v1 =>
      some v1
    else
      some x1
  else if wr (M j 13) = 2 then
    some (4 * (M j 14))
  else if wr (M j 13) = 3 then
    some 0
  else if wr (M j 13) = 4 then
    some ((M j 6) * (M j 14))
  else 
    some x1
set_option maxRecDepth 10000 in
theorem v_X2_wantedOf_0 {E : En} {d : Nat} {Q : Po} {j : Nat} {x1 : Int} {M : Mem} {z : Int} (hj : isX2 j) (hd : 1 ≤ d) (hF : f_X2_wantedOf j x1 M = some z) (hK : Q (some (vi z)) M) : V E mX2_wantedOf d 0 [(0, rf E j), (1, vi x1)] [] M Q := by
  unfold f_X2_wantedOf at hF
  refine V.aload_n 0 0 0 rfl dX2_wantedOf_0 rfl ?_
  refine V.get (ltX2 hj) (hcX2 hj E _) rfl inX2 13 (by decide) rfl gw_171 dX2_wantedOf_1 ?_
  by_cases hs1 : wr (M j 13) = 1
  · rw [if_pos hs1] at hF
    refine V.tableIn (a := 1) (tgt := 36) (off := 32) hs1 dX2_wantedOf_4 (by decide) (by decide) rfl (by decide) ?_
    refine V.aload_n 0 0 0 rfl dX2_wantedOf_36 rfl ?_
    refine V.get (ltX2 hj) (hcX2 hj E _) rfl inX2 14 (by decide) rfl gw_173 dX2_wantedOf_37 ?_
    refine V.iconst 1 dX2_wantedOf_40 ?_
    refine V.icmp_ge (tgt := 48) rfl wr_1 dX2_wantedOf_41 (by decide) (fun hc => ?_) (fun hc => ?_)
    · rw [if_pos hc] at hF
      refine V.iload_n 1 1 1 rfl dX2_wantedOf_48 rfl ?_
      refine V.aload_n 0 0 0 rfl dX2_wantedOf_49 rfl ?_
      refine V.get (ltX2 hj) (hcX2 hj E _) rfl inX2 14 (by decide) rfl gw_173 dX2_wantedOf_50 ?_
      refine V.iconst 1 dX2_wantedOf_53 ?_
      refine V.iadd dX2_wantedOf_54 ?_
      replace hF := Option.bind_eq_some_iff.mp hF
      obtain ⟨v1, hv1, hF⟩ := hF
      refine V.idiv (ivtdiv_some hv1).1 dX2_wantedOf_55 ?_
      rw [← (ivtdiv_some hv1).2]
      cases Option.some.inj hF
      exact V.iret rfl dX2_wantedOf_56 hK
    · rw [if_neg hc] at hF
      refine V.iload_n 1 1 1 rfl dX2_wantedOf_44 rfl ?_
      refine V.goto (tgt := 56) dX2_wantedOf_45 (by decide) ?_
      cases Option.some.inj hF
      exact V.iret rfl dX2_wantedOf_56 hK
  rw [if_neg hs1] at hF
  by_cases hs2 : wr (M j 13) = 2
  · rw [if_pos hs2] at hF
    refine V.tableIn (a := 2) (tgt := 57) (off := 53) hs2 dX2_wantedOf_4 (by decide) (by decide) rfl (by decide) ?_
    refine V.iconst 4 dX2_wantedOf_57 ?_
    refine V.aload_n 0 0 0 rfl dX2_wantedOf_58 rfl ?_
    refine V.get (ltX2 hj) (hcX2 hj E _) rfl inX2 14 (by decide) rfl gw_173 dX2_wantedOf_59 ?_
    refine V.imul dX2_wantedOf_62 ?_
    cases Option.some.inj hF
    exact V.iret rfl dX2_wantedOf_63 hK
  rw [if_neg hs2] at hF
  by_cases hs3 : wr (M j 13) = 3
  · rw [if_pos hs3] at hF
    refine V.tableIn (a := 3) (tgt := 64) (off := 60) hs3 dX2_wantedOf_4 (by decide) (by decide) rfl (by decide) ?_
    refine V.iconst 0 dX2_wantedOf_64 ?_
    cases Option.some.inj hF
    exact V.iret rfl dX2_wantedOf_65 hK
  rw [if_neg hs3] at hF
  by_cases hs4 : wr (M j 13) = 4
  · rw [if_pos hs4] at hF
    refine V.tableIn (a := 4) (tgt := 66) (off := 62) hs4 dX2_wantedOf_4 (by decide) (by decide) rfl (by decide) ?_
    refine V.aload_n 0 0 0 rfl dX2_wantedOf_66 rfl ?_
    refine V.get (ltX2 hj) (hcX2 hj E _) rfl inX2 6 (by decide) rfl gw_147 dX2_wantedOf_67 ?_
    refine V.aload_n 0 0 0 rfl dX2_wantedOf_70 rfl ?_
    refine V.get (ltX2 hj) (hcX2 hj E _) rfl inX2 14 (by decide) rfl gw_173 dX2_wantedOf_71 ?_
    refine V.imul dX2_wantedOf_74 ?_
    cases Option.some.inj hF
    exact V.iret rfl dX2_wantedOf_75 hK
  rw [if_neg hs4] at hF
  refine V.tableOut (tgt := 76) rfl dX2_wantedOf_4 (by omega) (by decide) ?_
  refine V.iload_n 1 1 1 rfl dX2_wantedOf_76 rfl ?_
  cases Option.some.inj hF
  exact V.iret rfl dX2_wantedOf_77 hK
theorem c_X2_wantedOf {E : En} {d : Nat} {j : Nat} {x1 : Int} {M : Mem} {z : Int} (hj : isX2 j) (hd : 1 ≤ d) (hF : f_X2_wantedOf j x1 M = some z) : Cn E mX2_wantedOf d [rf E j, vi x1] M (fun v N => v = some (vi z) ∧ M = N) := by
  refine V.entry (by decide +kernel) (Nat.le_of_ble_eq_true rfl) ?_
  exact v_X2_wantedOf_0 hj hd hF ⟨rfl, rfl⟩
abbrev mX2_keptOf : MI := (yX2_keptOf, cX2_keptOf, 2, (some .int))
theorem okX2_keptOf : OKV mX2_keptOf 1 := ⟨gw_632, gw_633, gw_60, gw_634, (by decide +kernel), (by decide)⟩
def f_X2_keptOf (j : Nat) (x1 : Int) (M : Mem) : Option (Int) :=
  (f_X2_wantedOf j x1 M).bind fun v1 =>
  some (mnn (M j 8) (mnn x1 v1))
set_option maxRecDepth 10000 in
theorem v_X2_keptOf_0 {E : En} {d : Nat} {Q : Po} {j : Nat} {x1 : Int} {M : Mem} {z : Int} (hj : isX2 j) (hd : 2 ≤ d) (hF : f_X2_keptOf j x1 M = some z) (hK : Q (some (vi z)) M) : V E mX2_keptOf d 0 [(0, rf E j), (1, vi x1)] [] M Q := by
  unfold f_X2_keptOf at hF
  refine V.aload_n 0 0 0 rfl dX2_keptOf_0 rfl ?_
  refine V.get (ltX2 hj) (hcX2 hj E _) rfl inX2 8 (by decide) rfl gw_154 dX2_keptOf_1 ?_
  refine V.iload_n 1 1 1 rfl dX2_keptOf_4 rfl ?_
  refine V.aload_n 0 0 0 rfl dX2_keptOf_5 rfl ?_
  refine V.iload_n 1 1 1 rfl dX2_keptOf_6 rfl ?_
  replace hF := Option.bind_eq_some_iff.mp hF
  obtain ⟨v1, hv1, hF⟩ := hF
  refine V.callV (d' := d - 1) [vi x1] [vi x1, vi (M j 8)] (c_X2_wantedOf hj (by omega) hv1) okX2_wantedOf gw_635 rfl rfl (ltX2 hj) (hcX2 hj E _) rfl (Nat.le_of_ble_eq_true rfl) (by omega) dX2_keptOf_7 ?_
  rintro _ _ ⟨rfl, rfl⟩
  show V E mX2_keptOf d 10 [(0, rf E j), (1, vi x1)] [vi v1, vi x1, vi (M j 8)] M _
  refine V.rmin gw_601 (Nat.le_of_ble_eq_true rfl) (by omega) dX2_keptOf_10 ?_
  refine V.rmin gw_601 (Nat.le_of_ble_eq_true rfl) (by omega) dX2_keptOf_13 ?_
  cases Option.some.inj hF
  exact V.iret rfl dX2_keptOf_16 hK
theorem c_X2_keptOf {E : En} {d : Nat} {j : Nat} {x1 : Int} {M : Mem} {z : Int} (hj : isX2 j) (hd : 2 ≤ d) (hF : f_X2_keptOf j x1 M = some z) : Cn E mX2_keptOf d [rf E j, vi x1] M (fun v N => v = some (vi z) ∧ M = N) := by
  refine V.entry (by decide +kernel) (Nat.le_of_ble_eq_true rfl) ?_
  exact v_X2_keptOf_0 hj hd hF ⟨rfl, rfl⟩
abbrev mX2_pass : MI := (yX2_pass, cX2_pass, 5, (some .int))
theorem okX2_pass : OKV mX2_pass 2 := ⟨gw_611, gw_17, gw_60, gw_612, (by decide +kernel), (by decide)⟩
def f_X2_pass (n : Nat) (j : Nat) (x1 : Int) (x2 : Int) (M : Mem) : Option (Int × Mem) :=
  (f_X2_foodIn n j x1 M).bind fun v1 =>
  (f_X2_hungryOf j v1 M).bind fun v2 =>
  (f_X2_priceIn j x1 M).bind fun v3 =>
  (f_X2_leftOf j v1 M).bind fun v4 =>
  (some (st M j 17 ((M j 17) + (v3 * (v4 - x2))))).bind fun M5 =>
  (some (st M5 j 18 ((M5 j 18) + v2))).bind fun M6 =>
  (f_X2_unrotten j x2 M6).bind fun v7 =>
  (some (st M6 j 10 v7)).bind fun M8 =>
  (some (st M8 j 16 (bOr (M8 j 16) (bShl x1 (M8 j 15))))).bind fun M9 =>
  (some (st M9 j 15 ((M9 j 15) + 1))).bind fun M10 =>
  some (v2, M10)
set_option maxRecDepth 10000 in
theorem v_X2_pass_0 {E : En} {d : Nat} {Q : Po} {n : Nat} {j : Nat} {x1 : Int} {x2 : Int} {M : Mem} {z : Int × Mem} (hj : isX2 j) (hd : 3 ≤ d) (hF : f_X2_pass n j x1 x2 M = some z) (hK : Q (some (vi z.1)) z.2) : V E mX2_pass d 0 [(0, rf E j), (1, vi x1), (2, vi x2)] [] M Q := by
  unfold f_X2_pass at hF
  refine V.aload_n 0 0 0 rfl dX2_pass_0 rfl ?_
  refine V.iload_n 1 1 1 rfl dX2_pass_1 rfl ?_
  replace hF := Option.bind_eq_some_iff.mp hF
  obtain ⟨v1, hv1, hF⟩ := hF
  refine V.callV (d' := d - 1) [vi x1] [] (c_X2_foodIn hj (by omega) hv1) okX2_foodIn gw_589 rfl rfl (ltX2 hj) (hcX2 hj E _) rfl (Nat.le_of_ble_eq_true rfl) (by omega) dX2_pass_2 ?_
  rintro _ _ ⟨rfl, rfl⟩
  show V E mX2_pass d 5 [(0, rf E j), (1, vi x1), (2, vi x2)] [vi v1] M _
  refine V.istore_n 3 3 [(3, vi v1), (0, rf E j), (1, vi x1), (2, vi x2)] rfl dX2_pass_5 (by decide) rfl ?_
  refine V.aload_n 0 0 1 rfl dX2_pass_6 rfl ?_
  refine V.iload_n 3 3 0 rfl dX2_pass_7 rfl ?_
  replace hF := Option.bind_eq_some_iff.mp hF
  obtain ⟨v2, hv2, hF⟩ := hF
  refine V.callV (d' := d - 1) [vi v1] [] (c_X2_hungryOf hj (by omega) hv2) okX2_hungryOf gw_613 rfl rfl (ltX2 hj) (hcX2 hj E _) rfl (Nat.le_of_ble_eq_true rfl) (by omega) dX2_pass_8 ?_
  rintro _ _ ⟨rfl, rfl⟩
  show V E mX2_pass d 11 [(3, vi v1), (0, rf E j), (1, vi x1), (2, vi x2)] [vi v2] M _
  refine V.istore 4 [(4, vi v2), (3, vi v1), (0, rf E j), (1, vi x1), (2, vi x2)] dX2_pass_11 (by decide) rfl ?_
  refine V.aload_n 0 0 2 rfl dX2_pass_13 rfl ?_
  refine V.dup rfl dX2_pass_14 ?_
  refine V.get (ltX2 hj) (hcX2 hj E _) rfl inX2 17 (by decide) rfl gw_180 dX2_pass_15 ?_
  refine V.aload_n 0 0 2 rfl dX2_pass_18 rfl ?_
  refine V.iload_n 1 1 3 rfl dX2_pass_19 rfl ?_
  replace hF := Option.bind_eq_some_iff.mp hF
  obtain ⟨v3, hv3, hF⟩ := hF
  refine V.callV (d' := d - 1) [vi x1] [vi (M j 17), rf E j] (c_X2_priceIn hj (by omega) hv3) okX2_priceIn gw_617 rfl rfl (ltX2 hj) (hcX2 hj E _) rfl (Nat.le_of_ble_eq_true rfl) (by omega) dX2_pass_20 ?_
  rintro _ _ ⟨rfl, rfl⟩
  show V E mX2_pass d 23 [(4, vi v2), (3, vi v1), (0, rf E j), (1, vi x1), (2, vi x2)] [vi v3, vi (M j 17), rf E j] M _
  refine V.aload_n 0 0 2 rfl dX2_pass_23 rfl ?_
  refine V.iload_n 3 3 1 rfl dX2_pass_24 rfl ?_
  replace hF := Option.bind_eq_some_iff.mp hF
  obtain ⟨v4, hv4, hF⟩ := hF
  refine V.callV (d' := d - 1) [vi v1] [vi v3, vi (M j 17), rf E j] (c_X2_leftOf hj (by omega) hv4) okX2_leftOf gw_594 rfl rfl (ltX2 hj) (hcX2 hj E _) rfl (Nat.le_of_ble_eq_true rfl) (by omega) dX2_pass_25 ?_
  rintro _ _ ⟨rfl, rfl⟩
  show V E mX2_pass d 28 [(4, vi v2), (3, vi v1), (0, rf E j), (1, vi x1), (2, vi x2)] [vi v4, vi v3, vi (M j 17), rf E j] M _
  refine V.iload_n 2 2 4 rfl dX2_pass_28 rfl ?_
  refine V.isub dX2_pass_29 ?_
  refine V.imul dX2_pass_30 ?_
  refine V.iadd dX2_pass_31 ?_
  replace hF := Option.bind_eq_some_iff.mp hF
  obtain ⟨M5, hM5, hF⟩ := hF
  refine V.put (x := (M j 17) + (v3 * (v4 - x2))) (ty := .int) (Option.some.inj hM5) (ltX2 hj) (hcX2 hj E) rfl inX2 tyX2 tyX2_ok nmX2 (by decide) rfl (by decide +kernel) rfl rfl (Nat.le_of_ble_eq_true rfl) rfl gw_180 dX2_pass_32 ?_
  refine V.aload_n 0 0 2 rfl dX2_pass_35 rfl ?_
  refine V.dup rfl dX2_pass_36 ?_
  refine V.get (ltX2 hj) (hcX2 hj E _) rfl inX2 18 (by decide) rfl gw_182 dX2_pass_37 ?_
  refine V.iload 4 0 dX2_pass_40 rfl ?_
  refine V.iadd dX2_pass_42 ?_
  replace hF := Option.bind_eq_some_iff.mp hF
  obtain ⟨M6, hM6, hF⟩ := hF
  refine V.put (x := (M5 j 18) + v2) (ty := .int) (Option.some.inj hM6) (ltX2 hj) (hcX2 hj E) rfl inX2 tyX2 tyX2_ok nmX2 (by decide) rfl (by decide +kernel) rfl rfl (Nat.le_of_ble_eq_true rfl) rfl gw_182 dX2_pass_43 ?_
  refine V.aload_n 0 0 2 rfl dX2_pass_46 rfl ?_
  refine V.aload_n 0 0 2 rfl dX2_pass_47 rfl ?_
  refine V.iload_n 2 2 4 rfl dX2_pass_48 rfl ?_
  replace hF := Option.bind_eq_some_iff.mp hF
  obtain ⟨v7, hv7, hF⟩ := hF
  refine V.callV (d' := d - 1) [vi x2] [rf E j] (c_X2_unrotten hj (by omega) hv7) okX2_unrotten gw_618 rfl rfl (ltX2 hj) (hcX2 hj E _) rfl (Nat.le_of_ble_eq_true rfl) (by omega) dX2_pass_49 ?_
  rintro _ _ ⟨rfl, rfl⟩
  show V E mX2_pass d 52 [(4, vi v2), (3, vi v1), (0, rf E j), (1, vi x1), (2, vi x2)] [vi v7, rf E j] M6 _
  replace hF := Option.bind_eq_some_iff.mp hF
  obtain ⟨M8, hM8, hF⟩ := hF
  refine V.put (x := v7) (ty := .int) (Option.some.inj hM8) (ltX2 hj) (hcX2 hj E) rfl inX2 tyX2 tyX2_ok nmX2 (by decide) rfl (by decide +kernel) rfl rfl (Nat.le_of_ble_eq_true rfl) rfl gw_162 dX2_pass_52 ?_
  refine V.aload_n 0 0 2 rfl dX2_pass_55 rfl ?_
  refine V.dup rfl dX2_pass_56 ?_
  refine V.get (ltX2 hj) (hcX2 hj E _) rfl inX2 16 (by decide) rfl gw_178 dX2_pass_57 ?_
  refine V.iload_n 1 1 3 rfl dX2_pass_60 rfl ?_
  refine V.aload_n 0 0 2 rfl dX2_pass_61 rfl ?_
  refine V.get (ltX2 hj) (hcX2 hj E _) rfl inX2 15 (by decide) rfl gw_175 dX2_pass_62 ?_
  refine V.ishl dX2_pass_65 ?_
  refine V.ior dX2_pass_66 ?_
  replace hF := Option.bind_eq_some_iff.mp hF
  obtain ⟨M9, hM9, hF⟩ := hF
  refine V.put (x := bOr (M8 j 16) (bShl x1 (M8 j 15))) (ty := .int) (Option.some.inj hM9) (ltX2 hj) (hcX2 hj E) rfl inX2 tyX2 tyX2_ok nmX2 (by decide) rfl (by decide +kernel) rfl rfl (Nat.le_of_ble_eq_true rfl) rfl gw_178 dX2_pass_67 ?_
  refine V.aload_n 0 0 2 rfl dX2_pass_70 rfl ?_
  refine V.dup rfl dX2_pass_71 ?_
  refine V.get (ltX2 hj) (hcX2 hj E _) rfl inX2 15 (by decide) rfl gw_175 dX2_pass_72 ?_
  refine V.iconst 1 dX2_pass_75 ?_
  refine V.iadd dX2_pass_76 ?_
  replace hF := Option.bind_eq_some_iff.mp hF
  obtain ⟨M10, hM10, hF⟩ := hF
  refine V.put (x := (M9 j 15) + 1) (ty := .int) (Option.some.inj hM10) (ltX2 hj) (hcX2 hj E) rfl inX2 tyX2 tyX2_ok nmX2 (by decide) rfl (by decide +kernel) rfl rfl (Nat.le_of_ble_eq_true rfl) rfl gw_175 dX2_pass_77 ?_
  refine V.iload 4 0 dX2_pass_80 rfl ?_
  cases Option.some.inj hF
  exact V.iret rfl dX2_pass_82 hK
theorem c_X2_pass {E : En} {d : Nat} {n : Nat} {j : Nat} {x1 : Int} {x2 : Int} {M : Mem} {zr : Int} {zM : Mem} (hj : isX2 j) (hd : 3 ≤ d) (hF : f_X2_pass n j x1 x2 M = some (zr, zM)) : Cn E mX2_pass d [rf E j, vi x1, vi x2] M (fun v N => v = some (vi zr) ∧ zM = N) := by
  refine V.entry (by decide +kernel) (Nat.le_of_ble_eq_true rfl) ?_
  exact v_X2_pass_0 hj hd hF ⟨rfl, rfl⟩
abbrev mX2_passTold : MI := (yX2_passTold, cX2_passTold, 3, (some .int))
theorem okX2_passTold : OKV mX2_passTold 2 := ⟨gw_585, gw_586, gw_60, gw_587, (by decide +kernel), (by decide)⟩
def f_X2_passTold (n : Nat) (j : Nat) (x1 : Int) (x2 : Int) (M : Mem) : Option (Int × Mem) :=
  (f_X5_isFlag x1 M).bind fun v1 =>
  if wr v1 = 0 then
    some ((-1), M)
  else
    (f_X2_foodIn n j x1 M).bind fun v2 =>
    (f_X2_leftOf j v2 M).bind fun v3 =>
    (f_X5_within x2 0 (mnn (M j 8) v3) M).bind fun v4 =>
    if wr v4 = 0 then
      some ((-1), M)
    else
      (f_X2_isOver j M).bind fun v5 =>
      if wr v5 = 0 then
        (f_X2_pass n j x1 x2 M).bind fun (v6, M7) =>
        some (v6, M7)
      else
        some ((-3), M)
set_option maxRecDepth 10000 in
theorem v_X2_passTold_0 {E : En} {d : Nat} {Q : Po} {n : Nat} {j : Nat} {x1 : Int} {x2 : Int} {M : Mem} {z : Int × Mem} (hj : isX2 j) (hd : 4 ≤ d) (hF : f_X2_passTold n j x1 x2 M = some z) (hK : Q (some (vi z.1)) z.2) : V E mX2_passTold d 0 [(0, rf E j), (1, vi x1), (2, vi x2)] [] M Q := by
  unfold f_X2_passTold at hF
  refine V.iload_n 1 1 1 rfl dX2_passTold_0 rfl ?_
  replace hF := Option.bind_eq_some_iff.mp hF
  obtain ⟨v1, hv1, hF⟩ := hF
  refine V.callSN (d' := d - 1) (host := "FatLean") [vi x1] [] (c_X5_isFlag (by omega) hv1) okX5_isFlag (nw_7) rfl rfl (Nat.le_of_ble_eq_true rfl) (by omega) dX2_passTold_1 ?_
  rintro _ _ ⟨rfl, rfl⟩
  show V E mX2_passTold d 4 [(0, rf E j), (1, vi x1), (2, vi x2)] [vi v1] M _
  refine V.if_eq (tgt := 31) rfl dX2_passTold_4 (by decide) (fun hc => ?_) (fun hc => ?_)
  · rw [if_pos hc] at hF
    refine V.iconst (-1) dX2_passTold_31 ?_
    cases Option.some.inj hF
    exact V.iret rfl dX2_passTold_32 hK
  · rw [if_neg hc] at hF
    refine V.iload_n 2 2 2 rfl dX2_passTold_7 rfl ?_
    refine V.iconst 0 dX2_passTold_8 ?_
    refine V.aload_n 0 0 0 rfl dX2_passTold_9 rfl ?_
    refine V.get (ltX2 hj) (hcX2 hj E _) rfl inX2 8 (by decide) rfl gw_154 dX2_passTold_10 ?_
    refine V.aload_n 0 0 0 rfl dX2_passTold_13 rfl ?_
    refine V.aload_n 0 0 0 rfl dX2_passTold_14 rfl ?_
    refine V.iload_n 1 1 1 rfl dX2_passTold_15 rfl ?_
    replace hF := Option.bind_eq_some_iff.mp hF
    obtain ⟨v2, hv2, hF⟩ := hF
    refine V.callV (d' := d - 1) [vi x1] [rf E j, vi (M j 8), vi 0, vi x2] (c_X2_foodIn hj (by omega) hv2) okX2_foodIn gw_589 rfl rfl (ltX2 hj) (hcX2 hj E _) rfl (Nat.le_of_ble_eq_true rfl) (by omega) dX2_passTold_16 ?_
    rintro _ _ ⟨rfl, rfl⟩
    show V E mX2_passTold d 19 [(0, rf E j), (1, vi x1), (2, vi x2)] [vi v2, rf E j, vi (M j 8), vi 0, vi x2] M _
    replace hF := Option.bind_eq_some_iff.mp hF
    obtain ⟨v3, hv3, hF⟩ := hF
    refine V.callV (d' := d - 1) [vi v2] [vi (M j 8), vi 0, vi x2] (c_X2_leftOf hj (by omega) hv3) okX2_leftOf gw_594 rfl rfl (ltX2 hj) (hcX2 hj E _) rfl (Nat.le_of_ble_eq_true rfl) (by omega) dX2_passTold_19 ?_
    rintro _ _ ⟨rfl, rfl⟩
    show V E mX2_passTold d 22 [(0, rf E j), (1, vi x1), (2, vi x2)] [vi v3, vi (M j 8), vi 0, vi x2] M _
    refine V.rmin gw_601 (Nat.le_of_ble_eq_true rfl) (by omega) dX2_passTold_22 ?_
    replace hF := Option.bind_eq_some_iff.mp hF
    obtain ⟨v4, hv4, hF⟩ := hF
    refine V.callSN (d' := d - 1) (host := "FatLean") [vi x2, vi 0, vi (mnn (M j 8) v3)] [] (c_X5_within (by omega) hv4) okX5_within (nw_8) rfl rfl (Nat.le_of_ble_eq_true rfl) (by omega) dX2_passTold_25 ?_
    rintro _ _ ⟨rfl, rfl⟩
    show V E mX2_passTold d 28 [(0, rf E j), (1, vi x1), (2, vi x2)] [vi v4] M _
    refine V.if_ne (tgt := 33) rfl dX2_passTold_28 (by decide) (fun hc => ?_) (fun hc => ?_)
    · rw [if_neg hc] at hF
      refine V.aload_n 0 0 0 rfl dX2_passTold_33 rfl ?_
      replace hF := Option.bind_eq_some_iff.mp hF
      obtain ⟨v5, hv5, hF⟩ := hF
      refine V.callV (d' := d - 1) [] [] (c_X2_isOver hj (by omega) hv5) okX2_isOver gw_605 rfl rfl (ltX2 hj) (hcX2 hj E _) rfl (Nat.le_of_ble_eq_true rfl) (by omega) dX2_passTold_34 ?_
      rintro _ _ ⟨rfl, rfl⟩
      show V E mX2_passTold d 37 [(0, rf E j), (1, vi x1), (2, vi x2)] [vi v5] M _
      refine V.if_eq (tgt := 45) rfl dX2_passTold_37 (by decide) (fun hc => ?_) (fun hc => ?_)
      · rw [if_pos hc] at hF
        refine V.aload_n 0 0 0 rfl dX2_passTold_45 rfl ?_
        refine V.iload_n 1 1 1 rfl dX2_passTold_46 rfl ?_
        refine V.iload_n 2 2 2 rfl dX2_passTold_47 rfl ?_
        replace hF := Option.bind_eq_some_iff.mp hF
        obtain ⟨⟨v6, M7⟩, hv6, hF⟩ := hF
        dsimp only at hF
        refine V.callV (d' := d - 1) [vi x1, vi x2] [] (c_X2_pass hj (by omega) hv6) okX2_pass gw_609 rfl rfl (ltX2 hj) (hcX2 hj E _) rfl (Nat.le_of_ble_eq_true rfl) (by omega) dX2_passTold_48 ?_
        rintro _ _ ⟨rfl, rfl⟩
        show V E mX2_passTold d 51 [(0, rf E j), (1, vi x1), (2, vi x2)] [vi v6] M7 _
        cases Option.some.inj hF
        exact V.iret rfl dX2_passTold_51 hK
      · rw [if_neg hc] at hF
        refine V.bipush (-3) (-3) (by decide) dX2_passTold_40 ?_
        refine V.goto (tgt := 51) dX2_passTold_42 (by decide) ?_
        cases Option.some.inj hF
        exact V.iret rfl dX2_passTold_51 hK
    · rw [if_pos hc] at hF
      refine V.iconst (-1) dX2_passTold_31 ?_
      cases Option.some.inj hF
      exact V.iret rfl dX2_passTold_32 hK
theorem c_X2_passTold {E : En} {d : Nat} {n : Nat} {j : Nat} {x1 : Int} {x2 : Int} {M : Mem} {zr : Int} {zM : Mem} (hj : isX2 j) (hd : 4 ≤ d) (hF : f_X2_passTold n j x1 x2 M = some (zr, zM)) : Cn E mX2_passTold d [rf E j, vi x1, vi x2] M (fun v N => v = some (vi zr) ∧ zM = N) := by
  refine V.entry (by decide +kernel) (Nat.le_of_ble_eq_true rfl) ?_
  exact v_X2_passTold_0 hj hd hF ⟨rfl, rfl⟩
abbrev mX2_passByHim : MI := (yX2_passByHim, cX2_passByHim, 2, (some .int))
theorem okX2_passByHim : OKV mX2_passByHim 1 := ⟨gw_628, gw_629, gw_60, gw_630, (by decide +kernel), (by decide)⟩
def f_X2_passByHim (n : Nat) (j : Nat) (x1 : Int) (M : Mem) : Option (Int × Mem) :=
  (f_X2_foodIn n j x1 M).bind fun v1 =>
  (f_X2_leftOf j v1 M).bind fun v2 =>
  (f_X2_keptOf j v2 M).bind fun v3 =>
  (f_X2_pass n j x1 v3 M).bind fun (v4, M5) =>
  some (v4, M5)
set_option maxRecDepth 10000 in
theorem v_X2_passByHim_0 {E : En} {d : Nat} {Q : Po} {n : Nat} {j : Nat} {x1 : Int} {M : Mem} {z : Int × Mem} (hj : isX2 j) (hd : 4 ≤ d) (hF : f_X2_passByHim n j x1 M = some z) (hK : Q (some (vi z.1)) z.2) : V E mX2_passByHim d 0 [(0, rf E j), (1, vi x1)] [] M Q := by
  unfold f_X2_passByHim at hF
  refine V.aload_n 0 0 0 rfl dX2_passByHim_0 rfl ?_
  refine V.iload_n 1 1 1 rfl dX2_passByHim_1 rfl ?_
  refine V.aload_n 0 0 0 rfl dX2_passByHim_2 rfl ?_
  refine V.aload_n 0 0 0 rfl dX2_passByHim_3 rfl ?_
  refine V.aload_n 0 0 0 rfl dX2_passByHim_4 rfl ?_
  refine V.iload_n 1 1 1 rfl dX2_passByHim_5 rfl ?_
  replace hF := Option.bind_eq_some_iff.mp hF
  obtain ⟨v1, hv1, hF⟩ := hF
  refine V.callV (d' := d - 1) [vi x1] [rf E j, rf E j, vi x1, rf E j] (c_X2_foodIn hj (by omega) hv1) okX2_foodIn gw_589 rfl rfl (ltX2 hj) (hcX2 hj E _) rfl (Nat.le_of_ble_eq_true rfl) (by omega) dX2_passByHim_6 ?_
  rintro _ _ ⟨rfl, rfl⟩
  show V E mX2_passByHim d 9 [(0, rf E j), (1, vi x1)] [vi v1, rf E j, rf E j, vi x1, rf E j] M _
  replace hF := Option.bind_eq_some_iff.mp hF
  obtain ⟨v2, hv2, hF⟩ := hF
  refine V.callV (d' := d - 1) [vi v1] [rf E j, vi x1, rf E j] (c_X2_leftOf hj (by omega) hv2) okX2_leftOf gw_594 rfl rfl (ltX2 hj) (hcX2 hj E _) rfl (Nat.le_of_ble_eq_true rfl) (by omega) dX2_passByHim_9 ?_
  rintro _ _ ⟨rfl, rfl⟩
  show V E mX2_passByHim d 12 [(0, rf E j), (1, vi x1)] [vi v2, rf E j, vi x1, rf E j] M _
  replace hF := Option.bind_eq_some_iff.mp hF
  obtain ⟨v3, hv3, hF⟩ := hF
  refine V.callV (d' := d - 1) [vi v2] [vi x1, rf E j] (c_X2_keptOf hj (by omega) hv3) okX2_keptOf gw_631 rfl rfl (ltX2 hj) (hcX2 hj E _) rfl (Nat.le_of_ble_eq_true rfl) (by omega) dX2_passByHim_12 ?_
  rintro _ _ ⟨rfl, rfl⟩
  show V E mX2_passByHim d 15 [(0, rf E j), (1, vi x1)] [vi v3, vi x1, rf E j] M _
  replace hF := Option.bind_eq_some_iff.mp hF
  obtain ⟨⟨v4, M5⟩, hv4, hF⟩ := hF
  dsimp only at hF
  refine V.callV (d' := d - 1) [vi x1, vi v3] [] (c_X2_pass hj (by omega) hv4) okX2_pass gw_609 rfl rfl (ltX2 hj) (hcX2 hj E _) rfl (Nat.le_of_ble_eq_true rfl) (by omega) dX2_passByHim_15 ?_
  rintro _ _ ⟨rfl, rfl⟩
  show V E mX2_passByHim d 18 [(0, rf E j), (1, vi x1)] [vi v4] M5 _
  cases Option.some.inj hF
  exact V.iret rfl dX2_passByHim_18 hK
theorem c_X2_passByHim {E : En} {d : Nat} {n : Nat} {j : Nat} {x1 : Int} {M : Mem} {zr : Int} {zM : Mem} (hj : isX2 j) (hd : 4 ≤ d) (hF : f_X2_passByHim n j x1 M = some (zr, zM)) : Cn E mX2_passByHim d [rf E j, vi x1] M (fun v N => v = some (vi zr) ∧ zM = N) := by
  refine V.entry (by decide +kernel) (Nat.le_of_ble_eq_true rfl) ?_
  exact v_X2_passByHim_0 hj hd hF ⟨rfl, rfl⟩
abbrev mX2_follow : MI := (yX2_follow, cX2_follow, 4, none)
theorem okX2_follow : OKV mX2_follow 2 := ⟨gw_649, gw_650, gw_60, gw_651, (by decide +kernel), (by decide)⟩
def f_X2_follow_2 (n : Nat) (j : Nat) (x1 : Int) (x2 : Int) (x3 : Int) (M : Mem) : Option ((Int × Mem) ⊕ (Mem)) :=
  if wr x2 ≤ wr x3 then
    some (.inr M)
  else
    (f_X2_isOver j M).bind fun v1 =>
    if wr v1 = 0 then
      (f_X2_fatIn j x1 (M j 15) M).bind fun v2 =>
      (f_X2_passByHim n j v2 M).bind fun (v3, M4) =>
      some (.inl (x3 + 1, M4))
    else
      some (.inr M)
set_option maxRecDepth 10000 in
theorem v_X2_follow_2 {E : En} {d : Nat} {Q : Po} {n : Nat} {j : Nat} {x1 : Int} {x2 : Int} {x3 : Int} {M : Mem} {z : (Int × Mem) ⊕ (Mem)} (hj : isX2 j) (hd : 5 ≤ d) (hF : f_X2_follow_2 n j x1 x2 x3 M = some z) (hC0 : ∀ s' : Int × Mem, z = (.inl s') → V E mX2_follow d 2 [(0, rf E j), (1, vi x1), (2, vi x2), (3, vi (s'.1))] [] s'.2 Q) (hX : ∀ z0 : Mem, z = (.inr z0) → Q none z0) : V E mX2_follow d 2 [(0, rf E j), (1, vi x1), (2, vi x2), (3, vi x3)] [] M Q := by
  unfold f_X2_follow_2 at hF
  refine V.iload_n 3 3 3 rfl dX2_follow_2 rfl ?_
  refine V.iload_n 2 2 2 rfl dX2_follow_3 rfl ?_
  refine V.icmp_ge (tgt := 34) rfl rfl dX2_follow_4 (by decide) (fun hc => ?_) (fun hc => ?_)
  · rw [if_pos hc] at hF
    cases Option.some.inj hF
    exact V.vret rfl dX2_follow_34 (hX _ rfl)
  · rw [if_neg hc] at hF
    refine V.aload_n 0 0 0 rfl dX2_follow_7 rfl ?_
    replace hF := Option.bind_eq_some_iff.mp hF
    obtain ⟨v1, hv1, hF⟩ := hF
    refine V.callV (d' := d - 1) [] [] (c_X2_isOver hj (by omega) hv1) okX2_isOver gw_605 rfl rfl (ltX2 hj) (hcX2 hj E _) rfl (Nat.le_of_ble_eq_true rfl) (by omega) dX2_follow_8 ?_
    rintro _ _ ⟨rfl, rfl⟩
    show V E mX2_follow d 11 [(0, rf E j), (1, vi x1), (2, vi x2), (3, vi x3)] [vi v1] M _
    refine V.if_ne (tgt := 34) rfl dX2_follow_11 (by decide) (fun hc => ?_) (fun hc => ?_)
    · rw [if_neg hc] at hF
      cases Option.some.inj hF
      exact V.vret rfl dX2_follow_34 (hX _ rfl)
    · rw [if_pos hc] at hF
      refine V.aload_n 0 0 0 rfl dX2_follow_14 rfl ?_
      refine V.aload_n 0 0 0 rfl dX2_follow_15 rfl ?_
      refine V.iload_n 1 1 1 rfl dX2_follow_16 rfl ?_
      refine V.aload_n 0 0 0 rfl dX2_follow_17 rfl ?_
      refine V.get (ltX2 hj) (hcX2 hj E _) rfl inX2 15 (by decide) rfl gw_175 dX2_follow_18 ?_
      replace hF := Option.bind_eq_some_iff.mp hF
      obtain ⟨v2, hv2, hF⟩ := hF
      refine V.callV (d' := d - 1) [vi x1, vi (M j 15)] [rf E j] (c_X2_fatIn hj (by omega) hv2) okX2_fatIn gw_652 rfl rfl (ltX2 hj) (hcX2 hj E _) rfl (Nat.le_of_ble_eq_true rfl) (by omega) dX2_follow_21 ?_
      rintro _ _ ⟨rfl, rfl⟩
      show V E mX2_follow d 24 [(0, rf E j), (1, vi x1), (2, vi x2), (3, vi x3)] [vi v2, rf E j] M _
      replace hF := Option.bind_eq_some_iff.mp hF
      obtain ⟨⟨v3, M4⟩, hv3, hF⟩ := hF
      dsimp only at hF
      refine V.callV (d' := d - 1) [vi v2] [] (c_X2_passByHim hj (by omega) hv3) okX2_passByHim gw_653 rfl rfl (ltX2 hj) (hcX2 hj E _) rfl (Nat.le_of_ble_eq_true rfl) (by omega) dX2_follow_24 ?_
      rintro _ _ ⟨rfl, rfl⟩
      show V E mX2_follow d 27 [(0, rf E j), (1, vi x1), (2, vi x2), (3, vi x3)] [vi v3] M4 _
      refine V.pop rfl dX2_follow_27 ?_
      refine V.iinc 3 3 1 [(3, vi (x3 + 1)), (0, rf E j), (1, vi x1), (2, vi x2)] dX2_follow_28 rfl (by decide) rfl ?_
      refine V.goto (tgt := 2) dX2_follow_31 (by decide) ?_
      cases Option.some.inj hF
      refine V.sub _ [1, 2, 3, 0] rfl ?_
      exact hC0 _ rfl
theorem l_X2_follow_2 {E : En} {d : Nat} {Q : Po} {n : Nat} {j : Nat} {x1 : Int} {x2 : Int} {k : Nat} {s : Int × Mem} {z : Mem} (hj : isX2 j) (hd : 5 ≤ d) (hF : lp (fun s => f_X2_follow_2 n j x1 x2 s.1 s.2) k s = some z) (hK : Q none z) : V E mX2_follow d 2 [(0, rf E j), (1, vi x1), (2, vi x2), (3, vi s.1)] [] s.2 Q := by
  refine lp_ind (P := fun s => V E mX2_follow d 2 [(0, rf E j), (1, vi x1), (2, vi x2), (3, vi s.1)] [] s.2 Q) (z0 := z) ?_ k s hF
  intro s z' hF hc hx
  exact v_X2_follow_2 hj hd hF (fun s' e => hc s' e) (fun z0 e => by rw [hx _ e]; exact hK)
def f_X2_follow (n : Nat) (j : Nat) (x1 : Int) (x2 : Int) (M : Mem) : Option (Mem) :=
  lp (fun s => f_X2_follow_2 n j x1 x2 s.1 s.2) n (0, M)
set_option maxRecDepth 10000 in
theorem v_X2_follow_0 {E : En} {d : Nat} {Q : Po} {n : Nat} {j : Nat} {x1 : Int} {x2 : Int} {M : Mem} {z : Mem} (hj : isX2 j) (hd : 5 ≤ d) (hF : f_X2_follow n j x1 x2 M = some z) (hK : Q none z) : V E mX2_follow d 0 [(0, rf E j), (1, vi x1), (2, vi x2)] [] M Q := by
  unfold f_X2_follow at hF
  refine V.iconst 0 dX2_follow_0 ?_
  refine V.istore_n 3 3 [(3, vi 0), (0, rf E j), (1, vi x1), (2, vi x2)] rfl dX2_follow_1 (by decide) rfl ?_
  refine V.sub _ [1, 2, 3, 0] rfl ?_
  exact l_X2_follow_2 hj hd hF hK
theorem c_X2_follow {E : En} {d : Nat} {n : Nat} {j : Nat} {x1 : Int} {x2 : Int} {M : Mem} {z : Mem} (hj : isX2 j) (hd : 5 ≤ d) (hF : f_X2_follow n j x1 x2 M = some z) : Cn E mX2_follow d [rf E j, vi x1, vi x2] M (fun v N => v = none ∧ z = N) := by
  refine V.entry (by decide +kernel) (Nat.le_of_ble_eq_true rfl) ?_
  exact v_X2_follow_0 hj hd hF ⟨rfl, rfl⟩
abbrev mX2_firstHunger : MI := (yX2_firstHunger, cX2_firstHunger, 3, (some .int))
theorem okX2_firstHunger : OKV mX2_firstHunger 1 := ⟨gw_659, gw_660, gw_60, gw_661, (by decide +kernel), (by decide)⟩
def f_X2_firstHunger_5 (n : Nat) (j : Nat) (x1 : Int) (x2 : Int) (M : Mem) : Option ((Int × Mem) ⊕ (Int × Mem)) :=
  if 8 ≤ wr x2 then
    some (.inr ((-4), M))
  else
    (f_X2_fatIn j x1 x2 M).bind fun v1 =>
    (f_X2_passByHim n j v1 M).bind fun (v2, M3) =>
    if wr v2 ≤ 0 then
      some (.inl (x2 + 1, M3))
    else
      some (.inr (x2, M3))
set_option maxRecDepth 10000 in
theorem v_X2_firstHunger_5 {E : En} {d : Nat} {Q : Po} {n : Nat} {j : Nat} {x1 : Int} {x2 : Int} {M : Mem} {z : (Int × Mem) ⊕ (Int × Mem)} (hj : isX2 j) (hd : 5 ≤ d) (hF : f_X2_firstHunger_5 n j x1 x2 M = some z) (hC0 : ∀ s' : Int × Mem, z = (.inl s') → V E mX2_firstHunger d 5 [(0, rf E j), (1, vi x1), (2, vi (s'.1))] [] s'.2 Q) (hX : ∀ z0 : Int × Mem, z = (.inr z0) → Q (some (vi z0.1)) z0.2) : V E mX2_firstHunger d 5 [(0, rf E j), (1, vi x1), (2, vi x2)] [] M Q := by
  unfold f_X2_firstHunger_5 at hF
  refine V.iload_n 2 2 2 rfl dX2_firstHunger_5 rfl ?_
  refine V.bipush 8 8 (by decide) dX2_firstHunger_6 ?_
  refine V.icmp_ge (tgt := 32) rfl wr_8 dX2_firstHunger_8 (by decide) (fun hc => ?_) (fun hc => ?_)
  · rw [if_pos hc] at hF
    refine V.bipush (-4) (-4) (by decide) dX2_firstHunger_32 ?_
    cases Option.some.inj hF
    exact V.iret rfl dX2_firstHunger_34 (hX _ rfl)
  · rw [if_neg hc] at hF
    refine V.aload_n 0 0 0 rfl dX2_firstHunger_11 rfl ?_
    refine V.aload_n 0 0 0 rfl dX2_firstHunger_12 rfl ?_
    refine V.iload_n 1 1 1 rfl dX2_firstHunger_13 rfl ?_
    refine V.iload_n 2 2 2 rfl dX2_firstHunger_14 rfl ?_
    replace hF := Option.bind_eq_some_iff.mp hF
    obtain ⟨v1, hv1, hF⟩ := hF
    refine V.callV (d' := d - 1) [vi x1, vi x2] [rf E j] (c_X2_fatIn hj (by omega) hv1) okX2_fatIn gw_652 rfl rfl (ltX2 hj) (hcX2 hj E _) rfl (Nat.le_of_ble_eq_true rfl) (by omega) dX2_firstHunger_15 ?_
    rintro _ _ ⟨rfl, rfl⟩
    show V E mX2_firstHunger d 18 [(0, rf E j), (1, vi x1), (2, vi x2)] [vi v1, rf E j] M _
    replace hF := Option.bind_eq_some_iff.mp hF
    obtain ⟨⟨v2, M3⟩, hv2, hF⟩ := hF
    dsimp only at hF
    refine V.callV (d' := d - 1) [vi v1] [] (c_X2_passByHim hj (by omega) hv2) okX2_passByHim gw_653 rfl rfl (ltX2 hj) (hcX2 hj E _) rfl (Nat.le_of_ble_eq_true rfl) (by omega) dX2_firstHunger_18 ?_
    rintro _ _ ⟨rfl, rfl⟩
    show V E mX2_firstHunger d 21 [(0, rf E j), (1, vi x1), (2, vi x2)] [vi v2] M3 _
    refine V.if_le (tgt := 26) rfl dX2_firstHunger_21 (by decide) (fun hc => ?_) (fun hc => ?_)
    · rw [if_pos hc] at hF
      refine V.iinc 2 2 1 [(2, vi (x2 + 1)), (0, rf E j), (1, vi x1)] dX2_firstHunger_26 rfl (by decide) rfl ?_
      refine V.goto (tgt := 5) dX2_firstHunger_29 (by decide) ?_
      cases Option.some.inj hF
      refine V.sub _ [1, 2, 0] rfl ?_
      exact hC0 _ rfl
    · rw [if_neg hc] at hF
      refine V.iload_n 2 2 2 rfl dX2_firstHunger_24 rfl ?_
      cases Option.some.inj hF
      exact V.iret rfl dX2_firstHunger_25 (hX _ rfl)
theorem l_X2_firstHunger_5 {E : En} {d : Nat} {Q : Po} {n : Nat} {j : Nat} {x1 : Int} {k : Nat} {s : Int × Mem} {z : Int × Mem} (hj : isX2 j) (hd : 5 ≤ d) (hF : lp (fun s => f_X2_firstHunger_5 n j x1 s.1 s.2) k s = some z) (hK : Q (some (vi z.1)) z.2) : V E mX2_firstHunger d 5 [(0, rf E j), (1, vi x1), (2, vi s.1)] [] s.2 Q := by
  refine lp_ind (P := fun s => V E mX2_firstHunger d 5 [(0, rf E j), (1, vi x1), (2, vi s.1)] [] s.2 Q) (z0 := z) ?_ k s hF
  intro s z' hF hc hx
  exact v_X2_firstHunger_5 hj hd hF (fun s' e => hc s' e) (fun z0 e => by rw [hx _ e]; exact hK)
def f_X2_firstHunger (n : Nat) (j : Nat) (x1 : Int) (M : Mem) : Option (Int × Mem) :=
  lp (fun s => f_X2_firstHunger_5 n j x1 s.1 s.2) n (M j 15, M)
set_option maxRecDepth 10000 in
theorem v_X2_firstHunger_0 {E : En} {d : Nat} {Q : Po} {n : Nat} {j : Nat} {x1 : Int} {M : Mem} {z : Int × Mem} (hj : isX2 j) (hd : 5 ≤ d) (hF : f_X2_firstHunger n j x1 M = some z) (hK : Q (some (vi z.1)) z.2) : V E mX2_firstHunger d 0 [(0, rf E j), (1, vi x1)] [] M Q := by
  unfold f_X2_firstHunger at hF
  refine V.aload_n 0 0 0 rfl dX2_firstHunger_0 rfl ?_
  refine V.get (ltX2 hj) (hcX2 hj E _) rfl inX2 15 (by decide) rfl gw_175 dX2_firstHunger_1 ?_
  refine V.istore_n 2 2 [(2, vi (M j 15)), (0, rf E j), (1, vi x1)] rfl dX2_firstHunger_4 (by decide) rfl ?_
  refine V.sub _ [1, 2, 0] rfl ?_
  exact l_X2_firstHunger_5 hj hd hF hK
theorem c_X2_firstHunger {E : En} {d : Nat} {n : Nat} {j : Nat} {x1 : Int} {M : Mem} {zr : Int} {zM : Mem} (hj : isX2 j) (hd : 5 ≤ d) (hF : f_X2_firstHunger n j x1 M = some (zr, zM)) : Cn E mX2_firstHunger d [rf E j, vi x1] M (fun v N => v = some (vi zr) ∧ zM = N) := by
  refine V.entry (by decide +kernel) (Nat.le_of_ble_eq_true rfl) ?_
  exact v_X2_firstHunger_0 hj hd hF ⟨rfl, rfl⟩
abbrev mX2_canBe : MI := (yX2_canBe, cX2_canBe, 3, (some .boolean))
theorem okX2_canBe : OKV mX2_canBe 1 := ⟨gw_523, gw_524, gw_60, gw_525, (by decide +kernel), (by decide)⟩
def f_X2_canBe (j : Nat) (x1 : Int) (M : Mem) : Option (Int) :=
  (rd M (j + 3) 4 x1).bind fun v1 =>
  if wr (bAnd v1 ((bShl 1 (M j 15)) - 1)) = wr (M j 16) then
    some 1
  else
    some 0
set_option maxRecDepth 10000 in
theorem v_X2_canBe_0 {E : En} {d : Nat} {Q : Po} {j : Nat} {x1 : Int} {M : Mem} {z : Int} (hj : isX2 j) (hd : 1 ≤ d) (hF : f_X2_canBe j x1 M = some z) (hK : Q (some (vi z)) M) : V E mX2_canBe d 0 [(0, rf E j), (1, vi x1)] [] M Q := by
  unfold f_X2_canBe at hF
  refine V.iconst 1 dX2_canBe_0 ?_
  refine V.aload_n 0 0 0 rfl dX2_canBe_1 rfl ?_
  refine V.get (ltX2 hj) (hcX2 hj E _) rfl inX2 15 (by decide) rfl gw_175 dX2_canBe_2 ?_
  refine V.ishl dX2_canBe_5 ?_
  refine V.iconst 1 dX2_canBe_6 ?_
  refine V.isub dX2_canBe_7 ?_
  refine V.istore_n 2 2 [(2, vi ((bShl 1 (M j 15)) - 1)), (0, rf E j), (1, vi x1)] rfl dX2_canBe_8 (by decide) rfl ?_
  refine V.aload_n 0 0 1 rfl dX2_canBe_9 rfl ?_
  refine V.get (ltX2 hj) (hcX2 hj E _) rfl inX2 2 (by decide) rfl gw_138 dX2_canBe_10 ?_
  refine V.iload_n 1 1 2 rfl dX2_canBe_13 rfl ?_
  replace hF := Option.bind_eq_some_iff.mp hF
  obtain ⟨v1, hv1, hF⟩ := hF
  refine V.iald (ar_X2_2 hj) hv1 dX2_canBe_14 ?_
  refine V.iload_n 2 2 0 rfl dX2_canBe_15 rfl ?_
  refine V.iand dX2_canBe_16 ?_
  refine V.aload_n 0 0 1 rfl dX2_canBe_17 rfl ?_
  refine V.get (ltX2 hj) (hcX2 hj E _) rfl inX2 16 (by decide) rfl gw_178 dX2_canBe_18 ?_
  refine V.icmp_ne (tgt := 28) rfl rfl dX2_canBe_21 (by decide) (fun hc => ?_) (fun hc => ?_)
  · rw [if_neg hc] at hF
    refine V.iconst 0 dX2_canBe_28 ?_
    cases Option.some.inj hF
    exact V.zret rfl (Or.inl rfl) dX2_canBe_29 hK
  · rw [if_pos hc] at hF
    refine V.iconst 1 dX2_canBe_24 ?_
    refine V.goto (tgt := 29) dX2_canBe_25 (by decide) ?_
    cases Option.some.inj hF
    exact V.zret rfl (Or.inr rfl) dX2_canBe_29 hK
theorem c_X2_canBe {E : En} {d : Nat} {j : Nat} {x1 : Int} {M : Mem} {z : Int} (hj : isX2 j) (hd : 1 ≤ d) (hF : f_X2_canBe j x1 M = some z) : Cn E mX2_canBe d [rf E j, vi x1] M (fun v N => v = some (vi z) ∧ M = N) := by
  refine V.entry (by decide +kernel) (Nat.le_of_ble_eq_true rfl) ?_
  exact v_X2_canBe_0 hj hd hF ⟨rfl, rfl⟩
abbrev mX2_possible : MI := (yX2_possible, cX2_possible, 3, (some .int))
theorem okX2_possible : OKV mX2_possible 0 := ⟨gw_667, gw_668, gw_60, gw_669, (by decide +kernel), (by decide)⟩
def f_X2_possible_26 (n : Nat) (j : Nat) (x1 : Int) (x2 : Int) (M : Mem) : Option ((Int × Int) ⊕ (Int)) :=
  some (.inl (x1, x2 + 1))
set_option maxRecDepth 10000 in
theorem v_X2_possible_26 {E : En} {d : Nat} {Q : Po} {n : Nat} {j : Nat} {x1 : Int} {x2 : Int} {M : Mem} {z : (Int × Int) ⊕ (Int)} (hj : isX2 j) (hd : 2 ≤ d) (hF : f_X2_possible_26 n j x1 x2 M = some z) (hC0 : ∀ s' : Int × Int, z = (.inl s') → V E mX2_possible d 4 [(0, rf E j), (1, vi (s'.1)), (2, vi (s'.2))] [] M Q) (hX : ∀ z0 : Int, z = (.inr z0) → Q (some (vi z0)) M) : V E mX2_possible d 26 [(0, rf E j), (1, vi x1), (2, vi x2)] [] M Q := by
  unfold f_X2_possible_26 at hF
  refine V.iinc 2 2 1 [(2, vi (x2 + 1)), (0, rf E j), (1, vi x1)] dX2_possible_26 rfl (by decide) rfl ?_
  refine V.goto (tgt := 4) dX2_possible_29 (by decide) ?_
  cases Option.some.inj hF
  refine V.sub _ [1, 2, 0] rfl ?_
  exact hC0 _ rfl
def f_X2_possible_4 (n : Nat) (j : Nat) (x1 : Int) (x2 : Int) (M : Mem) : Option ((Int × Int) ⊕ (Int)) :=
  if wr (M j 5) ≤ wr x2 then
    some (.inr x1)
  else
    (f_X2_canBe j x2 M).bind fun v1 =>
    if wr v1 = 0 then
      f_X2_possible_26 n j x1 x2 M
    else
      f_X2_possible_26 n j (bOr x1 (bShl 1 x2)) x2 M
set_option maxRecDepth 10000 in
theorem v_X2_possible_4 {E : En} {d : Nat} {Q : Po} {n : Nat} {j : Nat} {x1 : Int} {x2 : Int} {M : Mem} {z : (Int × Int) ⊕ (Int)} (hj : isX2 j) (hd : 2 ≤ d) (hF : f_X2_possible_4 n j x1 x2 M = some z) (hC0 : ∀ s' : Int × Int, z = (.inl s') → V E mX2_possible d 4 [(0, rf E j), (1, vi (s'.1)), (2, vi (s'.2))] [] M Q) (hX : ∀ z0 : Int, z = (.inr z0) → Q (some (vi z0)) M) : V E mX2_possible d 4 [(0, rf E j), (1, vi x1), (2, vi x2)] [] M Q := by
  unfold f_X2_possible_4 at hF
  refine V.iload_n 2 2 2 rfl dX2_possible_4 rfl ?_
  refine V.aload_n 0 0 0 rfl dX2_possible_5 rfl ?_
  refine V.get (ltX2 hj) (hcX2 hj E _) rfl inX2 5 (by decide) rfl gw_144 dX2_possible_6 ?_
  refine V.icmp_ge (tgt := 32) rfl rfl dX2_possible_9 (by decide) (fun hc => ?_) (fun hc => ?_)
  · rw [if_pos hc] at hF
    refine V.iload_n 1 1 1 rfl dX2_possible_32 rfl ?_
    cases Option.some.inj hF
    exact V.iret rfl dX2_possible_33 (hX _ rfl)
  · rw [if_neg hc] at hF
    refine V.aload_n 0 0 0 rfl dX2_possible_12 rfl ?_
    refine V.iload_n 2 2 2 rfl dX2_possible_13 rfl ?_
    replace hF := Option.bind_eq_some_iff.mp hF
    obtain ⟨v1, hv1, hF⟩ := hF
    refine V.callV (d' := d - 1) [vi x2] [] (c_X2_canBe hj (by omega) hv1) okX2_canBe gw_670 rfl rfl (ltX2 hj) (hcX2 hj E _) rfl (Nat.le_of_ble_eq_true rfl) (by omega) dX2_possible_14 ?_
    rintro _ _ ⟨rfl, rfl⟩
    show V E mX2_possible d 17 [(0, rf E j), (1, vi x1), (2, vi x2)] [vi v1] M _
    refine V.if_eq (tgt := 26) rfl dX2_possible_17 (by decide) (fun hc => ?_) (fun hc => ?_)
    · rw [if_pos hc] at hF
      exact v_X2_possible_26 hj hd hF hC0 hX
    · rw [if_neg hc] at hF
      refine V.iload_n 1 1 1 rfl dX2_possible_20 rfl ?_
      refine V.iconst 1 dX2_possible_21 ?_
      refine V.iload_n 2 2 2 rfl dX2_possible_22 rfl ?_
      refine V.ishl dX2_possible_23 ?_
      refine V.ior dX2_possible_24 ?_
      refine V.istore_n 1 1 [(1, vi (bOr x1 (bShl 1 x2))), (0, rf E j), (2, vi x2)] rfl dX2_possible_25 (by decide) rfl ?_
      refine V.sub _ [1, 0, 2] rfl ?_
      exact v_X2_possible_26 hj hd hF hC0 hX
theorem l_X2_possible_4 {E : En} {d : Nat} {Q : Po} {n : Nat} {j : Nat} {M : Mem} {k : Nat} {s : Int × Int} {z : Int} (hj : isX2 j) (hd : 2 ≤ d) (hF : lp (fun s => f_X2_possible_4 n j s.1 s.2 M) k s = some z) (hK : Q (some (vi z)) M) : V E mX2_possible d 4 [(0, rf E j), (1, vi s.1), (2, vi s.2)] [] M Q := by
  refine lp_ind (P := fun s => V E mX2_possible d 4 [(0, rf E j), (1, vi s.1), (2, vi s.2)] [] M Q) (z0 := z) ?_ k s hF
  intro s z' hF hc hx
  exact v_X2_possible_4 hj hd hF (fun s' e => hc s' e) (fun z0 e => by rw [hx _ e]; exact hK)
def f_X2_possible (n : Nat) (j : Nat) (M : Mem) : Option (Int) :=
  lp (fun s => f_X2_possible_4 n j s.1 s.2 M) n (0, 0)
set_option maxRecDepth 10000 in
theorem v_X2_possible_0 {E : En} {d : Nat} {Q : Po} {n : Nat} {j : Nat} {M : Mem} {z : Int} (hj : isX2 j) (hd : 2 ≤ d) (hF : f_X2_possible n j M = some z) (hK : Q (some (vi z)) M) : V E mX2_possible d 0 [(0, rf E j)] [] M Q := by
  unfold f_X2_possible at hF
  refine V.iconst 0 dX2_possible_0 ?_
  refine V.istore_n 1 1 [(1, vi 0), (0, rf E j)] rfl dX2_possible_1 (by decide) rfl ?_
  refine V.iconst 0 dX2_possible_2 ?_
  refine V.istore_n 2 2 [(2, vi 0), (1, vi 0), (0, rf E j)] rfl dX2_possible_3 (by decide) rfl ?_
  refine V.sub _ [2, 1, 0] rfl ?_
  exact l_X2_possible_4 hj hd hF hK
theorem c_X2_possible {E : En} {d : Nat} {n : Nat} {j : Nat} {M : Mem} {z : Int} (hj : isX2 j) (hd : 2 ≤ d) (hF : f_X2_possible n j M = some z) : Cn E mX2_possible d [rf E j] M (fun v N => v = some (vi z) ∧ M = N) := by
  refine V.entry (by decide +kernel) (Nat.le_of_ble_eq_true rfl) ?_
  exact v_X2_possible_0 hj hd hF ⟨rfl, rfl⟩
