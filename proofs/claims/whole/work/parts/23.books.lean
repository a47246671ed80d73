abbrev mX0_note : MI := (yX0_note, cX0_note, 3, (some .boolean))
theorem okX0_note : OKV mX0_note 2 := ⟨gw_772, gw_773, gw_62, gw_774, (by decide +kernel), (by decide)⟩
def f_X0_note (x1 : Int) (x2 : Int) (M : Mem) : Option (Int × Mem) :=
  if wr (M 22 2) < 6 then
    (wt M 23 6 (M 22 2) x1).bind fun M1 =>
    (wt M1 24 6 (M1 22 2) x2).bind fun M2 =>
    (some (st M2 22 2 ((M2 22 2) + 1))).bind fun M3 =>
    some (1, M3)
  else
    some (0, M)
set_option maxRecDepth 10000 in
theorem v_X0_note_0 {E : En} {d : Nat} {Q : Po} {x1 : Int} {x2 : Int} {M : Mem} {z : Int × Mem}  (hd : 1 ≤ d) (hF : f_X0_note x1 x2 M = some z) (hK : Q (some (vi z.1)) z.2) : V E mX0_note d 0 [(0, rf E 22), (1, vi x1), (2, vi x2)] [] M Q := by
  unfold f_X0_note at hF
  refine V.aload_n 0 0 0 rfl dX0_note_0 rfl ?_
  refine V.get (by decide) (hcX0 E _) rfl inX0 2 (by decide) rfl gw_252 dX0_note_1 ?_
  refine V.bipush 6 6 (by decide) dX0_note_4 ?_
  refine V.icmp_lt (tgt := 11) rfl wr_6 dX0_note_6 (by decide) (fun hc => ?_) (fun hc => ?_)
  · rw [if_pos hc] at hF
    refine V.aload_n 0 0 0 rfl dX0_note_11 rfl ?_
    refine V.get (by decide) (hcX0 E _) rfl inX0 0 (by decide) rfl gw_250 dX0_note_12 ?_
    refine V.aload_n 0 0 0 rfl dX0_note_15 rfl ?_
    refine V.get (by decide) (hcX0 E _) rfl inX0 2 (by decide) rfl gw_252 dX0_note_16 ?_
    refine V.iload_n 1 1 1 rfl dX0_note_19 rfl ?_
    replace hF := Option.bind_eq_some_iff.mp hF
    obtain ⟨M1, hM1, hF⟩ := hF
    refine V.iast ar_23 hM1 dX0_note_20 ?_
    refine V.aload_n 0 0 0 rfl dX0_note_21 rfl ?_
    refine V.get (by decide) (hcX0 E _) rfl inX0 1 (by decide) rfl gw_251 dX0_note_22 ?_
    refine V.aload_n 0 0 0 rfl dX0_note_25 rfl ?_
    refine V.get (by decide) (hcX0 E _) rfl inX0 2 (by decide) rfl gw_252 dX0_note_26 ?_
    refine V.iload_n 2 2 2 rfl dX0_note_29 rfl ?_
    replace hF := Option.bind_eq_some_iff.mp hF
    obtain ⟨M2, hM2, hF⟩ := hF
    refine V.iast ar_24 hM2 dX0_note_30 ?_
    refine V.aload_n 0 0 0 rfl dX0_note_31 rfl ?_
    refine V.dup rfl dX0_note_32 ?_
    refine V.get (by decide) (hcX0 E _) rfl inX0 2 (by decide) rfl gw_252 dX0_note_33 ?_
    refine V.iconst 1 dX0_note_36 ?_
    refine V.iadd dX0_note_37 ?_
    replace hF := Option.bind_eq_some_iff.mp hF
    obtain ⟨M3, hM3, hF⟩ := hF
    refine V.put (x := (M2 22 2) + 1) (ty := .int) (Option.some.inj hM3) (by decide) (hcX0 E) rfl inX0 tyX0 tyX0_ok nmX0 (by decide) rfl (by decide +kernel) rfl rfl (Nat.le_of_ble_eq_true rfl) rfl gw_252 dX0_note_38 ?_
    refine V.iconst 1 dX0_note_41 ?_
    cases Option.some.inj hF
    exact V.zret rfl (Or.inr rfl) dX0_note_42 hK
  · rw [if_neg hc] at hF
    refine V.iconst 0 dX0_note_9 ?_
    cases Option.some.inj hF
    exact V.zret rfl (Or.inl rfl) dX0_note_10 hK
theorem c_X0_note {E : En} {d : Nat} {x1 : Int} {x2 : Int} {M : Mem} {zr : Int} {zM : Mem}  (hd : 1 ≤ d) (hF : f_X0_note x1 x2 M = some (zr, zM)) : Cn E mX0_note d [rf E 22, vi x1, vi x2] M (fun v N => v = some (vi zr) ∧ zM = N) := by
  refine V.entry (by decide +kernel) (Nat.le_of_ble_eq_true rfl) ?_
  exact v_X0_note_0  hd hF ⟨rfl, rfl⟩
abbrev mX0_agree : MI := (yX0_agree, cX0_agree, 4, (some .boolean))
theorem okX0_agree : OKV mX0_agree 2 := ⟨gw_789, gw_790, gw_62, gw_791, (by decide +kernel), (by decide)⟩
def f_X0_agree_32 (n : Nat) (x1 : Int) (x2 : Int) (x3 : Int) (M : Mem) : Option ((Int) ⊕ (Int)) :=
  some (.inl (x3 + 1))
set_option maxRecDepth 10000 in
theorem v_X0_agree_32 {E : En} {d : Nat} {Q : Po} {n : Nat} {x1 : Int} {x2 : Int} {x3 : Int} {M : Mem} {z : (Int) ⊕ (Int)}  (hd : 1 ≤ d) (hF : f_X0_agree_32 n x1 x2 x3 M = some z) (hC0 : ∀ s' : Int, z = (.inl s') → V E mX0_agree d 2 [(0, rf E 22), (1, vi x1), (2, vi x2), (3, vi (s'))] [] M Q) (hX : ∀ z0 : Int, z = (.inr z0) → Q (some (vi z0)) M) : V E mX0_agree d 32 [(0, rf E 22), (1, vi x1), (2, vi x2), (3, vi x3)] [] M Q := by
  unfold f_X0_agree_32 at hF
  refine V.iinc 3 3 1 [(3, vi (x3 + 1)), (0, rf E 22), (1, vi x1), (2, vi x2)] dX0_agree_32 rfl (by decide) rfl ?_
  refine V.goto (tgt := 2) dX0_agree_35 (by decide) ?_
  cases Option.some.inj hF
  refine V.sub _ [1, 2, 3, 0] rfl ?_
  exact hC0 _ rfl
def f_X0_agree_2 (n : Nat) (x1 : Int) (x2 : Int) (x3 : Int) (M : Mem) : Option ((Int) ⊕ (Int)) :=
  if wr (M 22 2) ≤ wr x3 then
    some (.inr 1)
  else
    (rd M 23 6 x3).bind fun v1 =>
    if wr v1 = wr x1 then
      (rd M 24 6 x3).bind fun v2 =>
      if wr v2 = wr x2 then
        f_X0_agree_32 n x1 x2 x3 M
      else
        some (.inr 0)
    else
      f_X0_agree_32 n x1 x2 x3 M
set_option maxRecDepth 10000 in
theorem v_X0_agree_2 {E : En} {d : Nat} {Q : Po} {n : Nat} {x1 : Int} {x2 : Int} {x3 : Int} {M : Mem} {z : (Int) ⊕ (Int)}  (hd : 1 ≤ d) (hF : f_X0_agree_2 n x1 x2 x3 M = some z) (hC0 : ∀ s' : Int, z = (.inl s') → V E mX0_agree d 2 [(0, rf E 22), (1, vi x1), (2, vi x2), (3, vi (s'))] [] M Q) (hX : ∀ z0 : Int, z = (.inr z0) → Q (some (vi z0)) M) : V E mX0_agree d 2 [(0, rf E 22), (1, vi x1), (2, vi x2), (3, vi x3)] [] M Q := by
  unfold f_X0_agree_2 at hF
  refine V.iload_n 3 3 3 rfl dX0_agree_2 rfl ?_
  refine V.aload_n 0 0 0 rfl dX0_agree_3 rfl ?_
  refine V.get (by decide) (hcX0 E _) rfl inX0 2 (by decide) rfl gw_252 dX0_agree_4 ?_
  refine V.icmp_ge (tgt := 38) rfl rfl dX0_agree_7 (by decide) (fun hc => ?_) (fun hc => ?_)
  · rw [if_pos hc] at hF
    refine V.iconst 1 dX0_agree_38 ?_
    cases Option.some.inj hF
    exact V.zret rfl (Or.inr rfl) dX0_agree_39 (hX _ rfl)
  · rw [if_neg hc] at hF
    refine V.aload_n 0 0 0 rfl dX0_agree_10 rfl ?_
    refine V.get (by decide) (hcX0 E _) rfl inX0 0 (by decide) rfl gw_250 dX0_agree_11 ?_
    refine V.iload_n 3 3 3 rfl dX0_agree_14 rfl ?_
    replace hF := Option.bind_eq_some_iff.mp hF
    obtain ⟨v1, hv1, hF⟩ := hF
    refine V.iald ar_23 hv1 dX0_agree_15 ?_
    refine V.iload_n 1 1 1 rfl dX0_agree_16 rfl ?_
    refine V.icmp_ne (tgt := 32) rfl rfl dX0_agree_17 (by decide) (fun hc => ?_) (fun hc => ?_)
    · rw [if_neg hc] at hF
      exact v_X0_agree_32 hd hF hC0 hX
    · rw [if_pos hc] at hF
      refine V.aload_n 0 0 0 rfl dX0_agree_20 rfl ?_
      refine V.get (by decide) (hcX0 E _) rfl inX0 1 (by decide) rfl gw_251 dX0_agree_21 ?_
      refine V.iload_n 3 3 3 rfl dX0_agree_24 rfl ?_
      replace hF := Option.bind_eq_some_iff.mp hF
      obtain ⟨v2, hv2, hF⟩ := hF
      refine V.iald ar_24 hv2 dX0_agree_25 ?_
      refine V.iload_n 2 2 2 rfl dX0_agree_26 rfl ?_
      refine V.icmp_eq (tgt := 32) rfl rfl dX0_agree_27 (by decide) (fun hc => ?_) (fun hc => ?_)
      · rw [if_pos hc] at hF
        exact v_X0_agree_32 hd hF hC0 hX
      · rw [if_neg hc] at hF
        refine V.iconst 0 dX0_agree_30 ?_
        cases Option.some.inj hF
        exact V.zret rfl (Or.inl rfl) dX0_agree_31 (hX _ rfl)
theorem l_X0_agree_2 {E : En} {d : Nat} {Q : Po} {n : Nat} {x1 : Int} {x2 : Int} {M : Mem} {k : Nat} {s : Int} {z : Int}  (hd : 1 ≤ d) (hF : lp (fun s => f_X0_agree_2 n x1 x2 s M) k s = some z) (hK : Q (some (vi z)) M) : V E mX0_agree d 2 [(0, rf E 22), (1, vi x1), (2, vi x2), (3, vi s)] [] M Q := by
  refine lp_ind (P := fun s => V E mX0_agree d 2 [(0, rf E 22), (1, vi x1), (2, vi x2), (3, vi s)] [] M Q) (z0 := z) ?_ k s hF
  intro s z' hF hc hx
  exact v_X0_agree_2 hd hF (fun s' e => hc s' e) (fun z0 e => by rw [hx _ e]; exact hK)
def f_X0_agree (n : Nat) (x1 : Int) (x2 : Int) (M : Mem) : Option (Int) :=
  lp (fun s => f_X0_agree_2 n x1 x2 s M) n 0
set_option maxRecDepth 10000 in
theorem v_X0_agree_0 {E : En} {d : Nat} {Q : Po} {n : Nat} {x1 : Int} {x2 : Int} {M : Mem} {z : Int}  (hd : 1 ≤ d) (hF : f_X0_agree n x1 x2 M = some z) (hK : Q (some (vi z)) M) : V E mX0_agree d 0 [(0, rf E 22), (1, vi x1), (2, vi x2)] [] M Q := by
  unfold f_X0_agree at hF
  refine V.iconst 0 dX0_agree_0 ?_
  refine V.istore_n 3 3 [(3, vi 0), (0, rf E 22), (1, vi x1), (2, vi x2)] rfl dX0_agree_1 (by decide) rfl ?_
  refine V.sub _ [1, 2, 3, 0] rfl ?_
  exact l_X0_agree_2 hd hF hK
theorem c_X0_agree {E : En} {d : Nat} {n : Nat} {x1 : Int} {x2 : Int} {M : Mem} {z : Int}  (hd : 1 ≤ d) (hF : f_X0_agree n x1 x2 M = some z) : Cn E mX0_agree d [rf E 22, vi x1, vi x2] M (fun v N => v = some (vi z) ∧ M = N) := by
  refine V.entry (by decide +kernel) (Nat.le_of_ble_eq_true rfl) ?_
  exact v_X0_agree_0  hd hF ⟨rfl, rfl⟩
abbrev mX4_isNothing : MI := (yX4_isNothing, cX4_isNothing, 1, (some .boolean))
theorem okX4_isNothing : OKV mX4_isNothing 0 := ⟨gw_837, gw_838, gw_63, gw_839, (by decide +kernel), (by decide)⟩
def f_X4_isNothing (j : Nat) (M : Mem) : Option (Int) :=
  if 0 ≤ wr (M j 1) then
    some 0
  else
    some 1
set_option maxRecDepth 10000 in
theorem v_X4_isNothing_0 {E : En} {d : Nat} {Q : Po} {j : Nat} {M : Mem} {z : Int} (hj : isX4 j) (hd : 1 ≤ d) (hF : f_X4_isNothing j M = some z) (hK : Q (some (vi z)) M) : V E mX4_isNothing d 0 [(0, rf E j)] [] M Q := by
  unfold f_X4_isNothing at hF
  refine V.aload_n 0 0 0 rfl dX4_isNothing_0 rfl ?_
  refine V.get (ltX4 hj) (hcX4 hj E _) rfl inX4 1 (by decide) rfl gw_271 dX4_isNothing_1 ?_
  refine V.if_ge (tgt := 11) rfl dX4_isNothing_4 (by decide) (fun hc => ?_) (fun hc => ?_)
  · rw [if_pos hc] at hF
    refine V.iconst 0 dX4_isNothing_11 ?_
    cases Option.some.inj hF
    exact V.zret rfl (Or.inl rfl) dX4_isNothing_12 hK
  · rw [if_neg hc] at hF
    refine V.iconst 1 dX4_isNothing_7 ?_
    refine V.goto (tgt := 12) dX4_isNothing_8 (by decide) ?_
    cases Option.some.inj hF
    exact V.zret rfl (Or.inr rfl) dX4_isNothing_12 hK
theorem c_X4_isNothing {E : En} {d : Nat} {j : Nat} {M : Mem} {z : Int} (hj : isX4 j) (hd : 1 ≤ d) (hF : f_X4_isNothing j M = some z) : Cn E mX4_isNothing d [rf E j] M (fun v N => v = some (vi z) ∧ M = N) := by
  refine V.entry (by decide +kernel) (Nat.le_of_ble_eq_true rfl) ?_
  exact v_X4_isNothing_0 hj hd hF ⟨rfl, rfl⟩
abbrev mX4_renew : MI := (yX4_renew, cX4_renew, 3, none)
theorem okX4_renew : OKV mX4_renew 2 := ⟨gw_824, gw_825, gw_63, gw_826, (by decide +kernel), (by decide)⟩
def f_X4_renew (j : Nat) (x1 : Int) (x2 : Int) (M : Mem) : Option (Mem) :=
  (some (st M j 2 x1)).bind fun M1 =>
  (some (st M1 j 1 x2)).bind fun M2 =>
  (some (fil M2 (j + 1) 40 0)).bind fun M3 =>
  some M3
set_option maxRecDepth 10000 in
theorem v_X4_renew_0 {E : En} {d : Nat} {Q : Po} {j : Nat} {x1 : Int} {x2 : Int} {M : Mem} {z : Mem} (hj : isX4 j) (hd : 3 ≤ d) (hF : f_X4_renew j x1 x2 M = some z) (hK : Q none z) : V E mX4_renew d 0 [(0, rf E j), (1, vi x1), (2, vi x2)] [] M Q := by
  unfold f_X4_renew at hF
  refine V.aload_n 0 0 0 rfl dX4_renew_0 rfl ?_
  refine V.iload_n 1 1 1 rfl dX4_renew_1 rfl ?_
  replace hF := Option.bind_eq_some_iff.mp hF
  obtain ⟨M1, hM1, hF⟩ := hF
  refine V.put (x := x1) (ty := .int) (Option.some.inj hM1) (ltX4 hj) (hcX4 hj E) rfl inX4 tyX4 tyX4_ok nmX4 (by decide) rfl (by decide +kernel) rfl rfl (Nat.le_of_ble_eq_true rfl) rfl gw_273 dX4_renew_2 ?_
  refine V.aload_n 0 0 0 rfl dX4_renew_5 rfl ?_
  refine V.iload_n 2 2 2 rfl dX4_renew_6 rfl ?_
  replace hF := Option.bind_eq_some_iff.mp hF
  obtain ⟨M2, hM2, hF⟩ := hF
  refine V.put (x := x2) (ty := .int) (Option.some.inj hM2) (ltX4 hj) (hcX4 hj E) rfl inX4 tyX4 tyX4_ok nmX4 (by decide) rfl (by decide +kernel) rfl rfl (Nat.le_of_ble_eq_true rfl) rfl gw_271 dX4_renew_7 ?_
  refine V.aload_n 0 0 0 rfl dX4_renew_10 rfl ?_
  refine V.get (ltX4 hj) (hcX4 hj E _) rfl inX4 0 (by decide) rfl gw_269 dX4_renew_11 ?_
  refine V.iconst 0 dX4_renew_14 ?_
  replace hF := Option.bind_eq_some_iff.mp hF
  obtain ⟨M3, hM3, hF⟩ := hF
  refine V.callS (d' := d - 1) [rf E (j + 1), vi 0] [] (c_J7_fill_53178 (ar_X4_0 hj) (by omega) hM3) okJ7_fill_53178 gw_827 rfl rfl (Nat.le_of_ble_eq_true rfl) (by omega) dX4_renew_15 ?_
  rintro _ _ ⟨rfl, rfl⟩
  show V E mX4_renew d 18 [(0, rf E j), (1, vi x1), (2, vi x2)] [] M3 _
  cases Option.some.inj hF
  exact V.vret rfl dX4_renew_18 hK
theorem c_X4_renew {E : En} {d : Nat} {j : Nat} {x1 : Int} {x2 : Int} {M : Mem} {z : Mem} (hj : isX4 j) (hd : 3 ≤ d) (hF : f_X4_renew j x1 x2 M = some z) : Cn E mX4_renew d [rf E j, vi x1, vi x2] M (fun v N => v = none ∧ z = N) := by
  refine V.entry (by decide +kernel) (Nat.le_of_ble_eq_true rfl) ?_
  exact v_X4_renew_0 hj hd hF ⟨rfl, rfl⟩
abbrev mX4_put : MI := (yX4_put, cX4_put, 3, none)
theorem okX4_put : OKV mX4_put 2 := ⟨gw_842, gw_843, gw_63, gw_844, (by decide +kernel), (by decide)⟩
def f_X4_put_31 (j : Nat) (s0 : Int) (s1 : Int) (t2 : Nat) (M : Mem) : Option (Mem) :=
  (wt M t2 40 s1 s0).bind fun M1 =>
  some M1
set_option maxRecDepth 10000 in
theorem v_X4_put_31 {E : En} {d : Nat} {Q : Po} {j : Nat} {s0 : Int} {s1 : Int} {t2 : Nat} {M : Mem} {z : Mem} (hj : isX4 j) (ht2 : isI t2 40) (hd : 1 ≤ d) (hF : f_X4_put_31 j s0 s1 t2 M = some z) (hK : Q none z) : V E mX4_put d 31 [] [vi s0, vi s1, rf E t2] M Q := by
  unfold f_X4_put_31 at hF
  replace hF := Option.bind_eq_some_iff.mp hF
  obtain ⟨M1, hM1, hF⟩ := hF
  refine V.iast ht2 hM1 dX4_put_31 ?_
  cases Option.some.inj hF
  exact V.vret rfl dX4_put_32 hK
def f_X4_put (j : Nat) (x1 : Int) (x2 : Int) (M : Mem) : Option (Mem) :=
  if wr (M j 2) = 0 then
    f_X4_put_31 j (b8 x2) x1 (j + 1) M
  else
    if wr (M j 2) = 1 then
      f_X4_put_31 j (b16 x2) x1 (j + 1) M
    else
      f_X4_put_31 j x2 x1 (j + 1) M
set_option maxRecDepth 10000 in
theorem v_X4_put_0 {E : En} {d : Nat} {Q : Po} {j : Nat} {x1 : Int} {x2 : Int} {M : Mem} {z : Mem} (hj : isX4 j) (hd : 1 ≤ d) (hF : f_X4_put j x1 x2 M = some z) (hK : Q none z) : V E mX4_put d 0 [(0, rf E j), (1, vi x1), (2, vi x2)] [] M Q := by
  unfold f_X4_put at hF
  refine V.aload_n 0 0 0 rfl dX4_put_0 rfl ?_
  refine V.get (ltX4 hj) (hcX4 hj E _) rfl inX4 0 (by decide) rfl gw_269 dX4_put_1 ?_
  refine V.iload_n 1 1 1 rfl dX4_put_4 rfl ?_
  refine V.aload_n 0 0 0 rfl dX4_put_5 rfl ?_
  refine V.get (ltX4 hj) (hcX4 hj E _) rfl inX4 2 (by decide) rfl gw_273 dX4_put_6 ?_
  refine V.if_ne (tgt := 17) rfl dX4_put_9 (by decide) (fun hc => ?_) (fun hc => ?_)
  · rw [if_neg hc] at hF
    refine V.aload_n 0 0 0 rfl dX4_put_17 rfl ?_
    refine V.get (ltX4 hj) (hcX4 hj E _) rfl inX4 2 (by decide) rfl gw_273 dX4_put_18 ?_
    refine V.iconst 1 dX4_put_21 ?_
    refine V.icmp_ne (tgt := 30) rfl wr_1 dX4_put_22 (by decide) (fun hc => ?_) (fun hc => ?_)
    · rw [if_neg hc] at hF
      refine V.iload_n 2 2 2 rfl dX4_put_30 rfl ?_
      refine V.sub _ [] rfl ?_
      exact v_X4_put_31 hj (ar_X4_0 hj) hd hF hK
    · rw [if_pos hc] at hF
      refine V.iload_n 2 2 2 rfl dX4_put_25 rfl ?_
      refine V.i2s dX4_put_26 ?_
      refine V.goto (tgt := 31) dX4_put_27 (by decide) ?_
      refine V.sub _ [] rfl ?_
      exact v_X4_put_31 hj (ar_X4_0 hj) hd hF hK
  · rw [if_pos hc] at hF
    refine V.iload_n 2 2 2 rfl dX4_put_12 rfl ?_
    refine V.i2b dX4_put_13 ?_
    refine V.goto (tgt := 31) dX4_put_14 (by decide) ?_
    refine V.sub _ [] rfl ?_
    exact v_X4_put_31 hj (ar_X4_0 hj) hd hF hK
theorem c_X4_put {E : En} {d : Nat} {j : Nat} {x1 : Int} {x2 : Int} {M : Mem} {z : Mem} (hj : isX4 j) (hd : 1 ≤ d) (hF : f_X4_put j x1 x2 M = some z) : Cn E mX4_put d [rf E j, vi x1, vi x2] M (fun v N => v = none ∧ z = N) := by
  refine V.entry (by decide +kernel) (Nat.le_of_ble_eq_true rfl) ?_
  exact v_X4_put_0 hj hd hF ⟨rfl, rfl⟩
abbrev mX4_faultAt : MI := (yX4_faultAt, cX4_faultAt, 2, (some .int))
theorem okX4_faultAt : OKV mX4_faultAt 1 := ⟨gw_833, gw_834, gw_63, gw_835, (by decide +kernel), (by decide)⟩
def f_X4_faultAt (j : Nat) (x1 : Int) (M : Mem) : Option (Int) :=
  (f_X4_isNothing j M).bind fun v1 =>
  if wr v1 = 0 then
    (f_X5_within x1 0 ((M j 1) - 1) M).bind fun v2 =>
    if wr v2 = 0 then
      some 2
    else
      some 0
  else
    some 1
set_option maxRecDepth 10000 in
theorem v_X4_faultAt_0 {E : En} {d : Nat} {Q : Po} {j : Nat} {x1 : Int} {M : Mem} {z : Int} (hj : isX4 j) (hd : 2 ≤ d) (hF : f_X4_faultAt j x1 M = some z) (hK : Q (some (vi z)) M) : V E mX4_faultAt d 0 [(0, rf E j), (1, vi x1)] [] M Q := by
  unfold f_X4_faultAt at hF
  refine V.aload_n 0 0 0 rfl dX4_faultAt_0 rfl ?_
  replace hF := Option.bind_eq_some_iff.mp hF
  obtain ⟨v1, hv1, hF⟩ := hF
  refine V.callV (d' := d - 1) [] [] (c_X4_isNothing hj (by omega) hv1) okX4_isNothing gw_836 rfl rfl (ltX4 hj) (hcX4 hj E _) rfl (Nat.le_of_ble_eq_true rfl) (by omega) dX4_faultAt_1 ?_
  rintro _ _ ⟨rfl, rfl⟩
  show V E mX4_faultAt d 4 [(0, rf E j), (1, vi x1)] [vi v1] M _
  refine V.if_eq (tgt := 9) rfl dX4_faultAt_4 (by decide) (fun hc => ?_) (fun hc => ?_)
  · rw [if_pos hc] at hF
    refine V.iload_n 1 1 1 rfl dX4_faultAt_9 rfl ?_
    refine V.iconst 0 dX4_faultAt_10 ?_
    refine V.aload_n 0 0 0 rfl dX4_faultAt_11 rfl ?_
    refine V.get (ltX4 hj) (hcX4 hj E _) rfl inX4 1 (by decide) rfl gw_271 dX4_faultAt_12 ?_
    refine V.iconst 1 dX4_faultAt_15 ?_
    refine V.isub dX4_faultAt_16 ?_
    replace hF := Option.bind_eq_some_iff.mp hF
    obtain ⟨v2, hv2, hF⟩ := hF
    refine V.callSN (d' := d - 1) (host := "FatLean") [vi x1, vi 0, vi ((M j 1) - 1)] [] (c_X5_within (by omega) hv2) okX5_within (nw_10) rfl rfl (Nat.le_of_ble_eq_true rfl) (by omega) dX4_faultAt_17 ?_
    rintro _ _ ⟨rfl, rfl⟩
    show V E mX4_faultAt d 20 [(0, rf E j), (1, vi x1)] [vi v2] M _
    refine V.if_eq (tgt := 27) rfl dX4_faultAt_20 (by decide) (fun hc => ?_) (fun hc => ?_)
    · rw [if_pos hc] at hF
      refine V.iconst 2 dX4_faultAt_27 ?_
      cases Option.some.inj hF
      exact V.iret rfl dX4_faultAt_28 hK
    · rw [if_neg hc] at hF
      refine V.iconst 0 dX4_faultAt_23 ?_
      refine V.goto (tgt := 28) dX4_faultAt_24 (by decide) ?_
      cases Option.some.inj hF
      exact V.iret rfl dX4_faultAt_28 hK
  · rw [if_neg hc] at hF
    refine V.iconst 1 dX4_faultAt_7 ?_
    cases Option.some.inj hF
    exact V.iret rfl dX4_faultAt_8 hK
theorem c_X4_faultAt {E : En} {d : Nat} {j : Nat} {x1 : Int} {M : Mem} {z : Int} (hj : isX4 j) (hd : 2 ≤ d) (hF : f_X4_faultAt j x1 M = some z) : Cn E mX4_faultAt d [rf E j, vi x1] M (fun v N => v = some (vi z) ∧ M = N) := by
  refine V.entry (by decide +kernel) (Nat.le_of_ble_eq_true rfl) ?_
  exact v_X4_faultAt_0 hj hd hF ⟨rfl, rfl⟩
abbrev mX4_faultOfYear : MI := (yX4_faultOfYear, cX4_faultOfYear, 4, (some .int))
theorem okX4_faultOfYear : OKV mX4_faultOfYear 2 := ⟨gw_850, gw_851, gw_63, gw_852, (by decide +kernel), (by decide)⟩
def f_X4_faultOfYear_17 (j : Nat) (x2 : Int) (M : Mem) : Option (Int) :=
  (f_X4_faultAt j x2 M).bind fun v1 =>
  if wr v1 = 0 then
    (f_X4_faultAt j (x2 + 1) M).bind fun v2 =>
    some v2
  else
    some v1
set_option maxRecDepth 10000 in
theorem v_X4_faultOfYear_17 {E : En} {d : Nat} {Q : Po} {j : Nat} {x2 : Int} {M : Mem} {z : Int} (hj : isX4 j) (hd : 3 ≤ d) (hF : f_X4_faultOfYear_17 j x2 M = some z) (hK : Q (some (vi z)) M) : V E mX4_faultOfYear d 17 [(0, rf E j), (2, vi x2)] [] M Q := by
  unfold f_X4_faultOfYear_17 at hF
  refine V.aload_n 0 0 0 rfl dX4_faultOfYear_17 rfl ?_
  refine V.iload_n 2 2 1 rfl dX4_faultOfYear_18 rfl ?_
  replace hF := Option.bind_eq_some_iff.mp hF
  obtain ⟨v1, hv1, hF⟩ := hF
  refine V.callV (d' := d - 1) [vi x2] [] (c_X4_faultAt hj (by omega) hv1) okX4_faultAt gw_853 rfl rfl (ltX4 hj) (hcX4 hj E _) rfl (Nat.le_of_ble_eq_true rfl) (by omega) dX4_faultOfYear_19 ?_
  rintro _ _ ⟨rfl, rfl⟩
  show V E mX4_faultOfYear d 22 [(0, rf E j), (2, vi x2)] [vi v1] M _
  refine V.istore_n 3 3 [(3, vi v1), (0, rf E j), (2, vi x2)] rfl dX4_faultOfYear_22 (by decide) rfl ?_
  refine V.iload_n 3 3 0 rfl dX4_faultOfYear_23 rfl ?_
  refine V.if_eq (tgt := 31) rfl dX4_faultOfYear_24 (by decide) (fun hc => ?_) (fun hc => ?_)
  · rw [if_pos hc] at hF
    refine V.aload_n 0 0 1 rfl dX4_faultOfYear_31 rfl ?_
    refine V.iload_n 2 2 2 rfl dX4_faultOfYear_32 rfl ?_
    refine V.iconst 1 dX4_faultOfYear_33 ?_
    refine V.iadd dX4_faultOfYear_34 ?_
    replace hF := Option.bind_eq_some_iff.mp hF
    obtain ⟨v2, hv2, hF⟩ := hF
    refine V.callV (d' := d - 1) [vi (x2 + 1)] [] (c_X4_faultAt hj (by omega) hv2) okX4_faultAt gw_853 rfl rfl (ltX4 hj) (hcX4 hj E _) rfl (Nat.le_of_ble_eq_true rfl) (by omega) dX4_faultOfYear_35 ?_
    rintro _ _ ⟨rfl, rfl⟩
    show V E mX4_faultOfYear d 38 [(3, vi v1), (0, rf E j), (2, vi x2)] [vi v2] M _
    cases Option.some.inj hF
    exact V.iret rfl dX4_faultOfYear_38 hK
  · rw [if_neg hc] at hF
    refine V.iload_n 3 3 0 rfl dX4_faultOfYear_27 rfl ?_
    refine V.goto (tgt := 38) dX4_faultOfYear_28 (by decide) ?_
    cases Option.some.inj hF
    exact V.iret rfl dX4_faultOfYear_38 hK
def f_X4_faultOfYear (j : Nat) (x1 : Int) (x2 : Int) (M : Mem) : Option (Int) :=
  (f_X4_isNothing j M).bind fun v1 =>
  if wr v1 = 0 then
    if wr (M j 2) = wr x1 then
      f_X4_faultOfYear_17 j x2 M
    else
      some 3
  else
    f_X4_faultOfYear_17 j x2 M
set_option maxRecDepth 10000 in
theorem v_X4_faultOfYear_0 {E : En} {d : Nat} {Q : Po} {j : Nat} {x1 : Int} {x2 : Int} {M : Mem} {z : Int} (hj : isX4 j) (hd : 3 ≤ d) (hF : f_X4_faultOfYear j x1 x2 M = some z) (hK : Q (some (vi z)) M) : V E mX4_faultOfYear d 0 [(0, rf E j), (1, vi x1), (2, vi x2)] [] M Q := by
  unfold f_X4_faultOfYear at hF
  refine V.aload_n 0 0 0 rfl dX4_faultOfYear_0 rfl ?_
  replace hF := Option.bind_eq_some_iff.mp hF
  obtain ⟨v1, hv1, hF⟩ := hF
  refine V.callV (d' := d - 1) [] [] (c_X4_isNothing hj (by omega) hv1) okX4_isNothing gw_836 rfl rfl (ltX4 hj) (hcX4 hj E _) rfl (Nat.le_of_ble_eq_true rfl) (by omega) dX4_faultOfYear_1 ?_
  rintro _ _ ⟨rfl, rfl⟩
  show V E mX4_faultOfYear d 4 [(0, rf E j), (1, vi x1), (2, vi x2)] [vi v1] M _
  refine V.if_ne (tgt := 17) rfl dX4_faultOfYear_4 (by decide) (fun hc => ?_) (fun hc => ?_)
  · rw [if_neg hc] at hF
    refine V.sub _ [0, 2] rfl ?_
    exact v_X4_faultOfYear_17 hj hd hF hK
  · rw [if_pos hc] at hF
    refine V.aload_n 0 0 0 rfl dX4_faultOfYear_7 rfl ?_
    refine V.get (ltX4 hj) (hcX4 hj E _) rfl inX4 2 (by decide) rfl gw_273 dX4_faultOfYear_8 ?_
    refine V.iload_n 1 1 1 rfl dX4_faultOfYear_11 rfl ?_
    refine V.icmp_eq (tgt := 17) rfl rfl dX4_faultOfYear_12 (by decide) (fun hc => ?_) (fun hc => ?_)
    · rw [if_pos hc] at hF
      refine V.sub _ [0, 2] rfl ?_
      exact v_X4_faultOfYear_17 hj hd hF hK
    · rw [if_neg hc] at hF
      refine V.iconst 3 dX4_faultOfYear_15 ?_
      cases Option.some.inj hF
      exact V.iret rfl dX4_faultOfYear_16 hK
theorem c_X4_faultOfYear {E : En} {d : Nat} {j : Nat} {x1 : Int} {x2 : Int} {M : Mem} {z : Int} (hj : isX4 j) (hd : 3 ≤ d) (hF : f_X4_faultOfYear j x1 x2 M = some z) : Cn E mX4_faultOfYear d [rf E j, vi x1, vi x2] M (fun v N => v = some (vi z) ∧ M = N) := by
  refine V.entry (by decide +kernel) (Nat.le_of_ble_eq_true rfl) ?_
  exact v_X4_faultOfYear_0 hj hd hF ⟨rfl, rfl⟩
