abbrev mX5_has : MI := (yX5_has, cX5_has, 2, (some .boolean))
theorem okX5_has : OKS mX5_has 2 := ⟨gw_453, gw_58, gw_454, (by decide +kernel), (by decide)⟩
def f_X5_has (x0 : Int) (x1 : Int) (M : Mem) : Option (Int) :=
  if wr (bAnd (bShr x0 x1) 1) = 1 then
    some 1
  else
    some 0
set_option maxRecDepth 10000 in
theorem v_X5_has_0 {E : En} {d : Nat} {Q : Po} {x0 : Int} {x1 : Int} {M : Mem} {z : Int}  (hd : 1 ≤ d) (hF : f_X5_has x0 x1 M = some z) (hK : Q (some (vi z)) M) : V E mX5_has d 0 [(0, vi x0), (1, vi x1)] [] M Q := by
  unfold f_X5_has at hF
  refine V.iload_n 0 0 0 rfl dX5_has_0 rfl ?_
  refine V.iload_n 1 1 1 rfl dX5_has_1 rfl ?_
  refine V.ishr dX5_has_2 ?_
  refine V.iconst 1 dX5_has_3 ?_
  refine V.iand dX5_has_4 ?_
  refine V.iconst 1 dX5_has_5 ?_
  refine V.icmp_ne (tgt := 13) rfl wr_1 dX5_has_6 (by decide) (fun hc => ?_) (fun hc => ?_)
  · rw [if_neg hc] at hF
    refine V.iconst 0 dX5_has_13 ?_
    cases Option.some.inj hF
    exact V.zret rfl (Or.inl rfl) dX5_has_14 hK
  · rw [if_pos hc] at hF
    refine V.iconst 1 dX5_has_9 ?_
    refine V.goto (tgt := 14) dX5_has_10 (by decide) ?_
    cases Option.some.inj hF
    exact V.zret rfl (Or.inr rfl) dX5_has_14 hK
theorem c_X5_has {E : En} {d : Nat} {x0 : Int} {x1 : Int} {M : Mem} {z : Int}  (hd : 1 ≤ d) (hF : f_X5_has x0 x1 M = some z) : Cn E mX5_has d [vi x0, vi x1] M (fun v N => v = some (vi z) ∧ M = N) := by
  refine V.entry (by decide +kernel) (Nat.le_of_ble_eq_true rfl) ?_
  exact v_X5_has_0  hd hF ⟨rfl, rfl⟩
abbrev mX5_isFlag : MI := (yX5_isFlag, cX5_isFlag, 1, (some .boolean))
theorem okX5_isFlag : OKS mX5_isFlag 1 := ⟨gw_508, gw_58, gw_509, (by decide +kernel), (by decide)⟩
def f_X5_isFlag (x0 : Int) (M : Mem) : Option (Int) :=
  if wr x0 = 0 then
    some 1
  else
    if wr x0 = 1 then
      some 1
    else
      some 0
set_option maxRecDepth 10000 in
theorem v_X5_isFlag_0 {E : En} {d : Nat} {Q : Po} {x0 : Int} {M : Mem} {z : Int}  (hd : 1 ≤ d) (hF : f_X5_isFlag x0 M = some z) (hK : Q (some (vi z)) M) : V E mX5_isFlag d 0 [(0, vi x0)] [] M Q := by
  unfold f_X5_isFlag at hF
  refine V.iload_n 0 0 0 rfl dX5_isFlag_0 rfl ?_
  refine V.if_eq (tgt := 9) rfl dX5_isFlag_1 (by decide) (fun hc => ?_) (fun hc => ?_)
  · rw [if_pos hc] at hF
    refine V.iconst 1 dX5_isFlag_9 ?_
    refine V.goto (tgt := 14) dX5_isFlag_10 (by decide) ?_
    cases Option.some.inj hF
    exact V.zret rfl (Or.inr rfl) dX5_isFlag_14 hK
  · rw [if_neg hc] at hF
    refine V.iload_n 0 0 0 rfl dX5_isFlag_4 rfl ?_
    refine V.iconst 1 dX5_isFlag_5 ?_
    refine V.icmp_ne (tgt := 13) rfl wr_1 dX5_isFlag_6 (by decide) (fun hc => ?_) (fun hc => ?_)
    · rw [if_neg hc] at hF
      refine V.iconst 0 dX5_isFlag_13 ?_
      cases Option.some.inj hF
      exact V.zret rfl (Or.inl rfl) dX5_isFlag_14 hK
    · rw [if_pos hc] at hF
      refine V.iconst 1 dX5_isFlag_9 ?_
      refine V.goto (tgt := 14) dX5_isFlag_10 (by decide) ?_
      cases Option.some.inj hF
      exact V.zret rfl (Or.inr rfl) dX5_isFlag_14 hK
theorem c_X5_isFlag {E : En} {d : Nat} {x0 : Int} {M : Mem} {z : Int}  (hd : 1 ≤ d) (hF : f_X5_isFlag x0 M = some z) : Cn E mX5_isFlag d [vi x0] M (fun v N => v = some (vi z) ∧ M = N) := by
  refine V.entry (by decide +kernel) (Nat.le_of_ble_eq_true rfl) ?_
  exact v_X5_isFlag_0  hd hF ⟨rfl, rfl⟩
abbrev mX5_within : MI := (yX5_within, cX5_within, 3, (some .boolean))
theorem okX5_within : OKS mX5_within 3 := ⟨gw_315, gw_58, gw_316, (by decide +kernel), (by decide)⟩
def f_X5_within (x0 : Int) (x1 : Int) (x2 : Int) (M : Mem) : Option (Int) :=
  if wr x0 < wr x1 then
    some 0
  else
    if wr x2 < wr x0 then
      some 0
    else
      some 1
set_option maxRecDepth 10000 in
theorem v_X5_within_0 {E : En} {d : Nat} {Q : Po} {x0 : Int} {x1 : Int} {x2 : Int} {M : Mem} {z : Int}  (hd : 1 ≤ d) (hF : f_X5_within x0 x1 x2 M = some z) (hK : Q (some (vi z)) M) : V E mX5_within d 0 [(0, vi x0), (1, vi x1), (2, vi x2)] [] M Q := by
  unfold f_X5_within at hF
  refine V.iload_n 0 0 0 rfl dX5_within_0 rfl ?_
  refine V.iload_n 1 1 1 rfl dX5_within_1 rfl ?_
  refine V.icmp_lt (tgt := 14) rfl rfl dX5_within_2 (by decide) (fun hc => ?_) (fun hc => ?_)
  · rw [if_pos hc] at hF
    refine V.iconst 0 dX5_within_14 ?_
    cases Option.some.inj hF
    exact V.zret rfl (Or.inl rfl) dX5_within_15 hK
  · rw [if_neg hc] at hF
    refine V.iload_n 0 0 0 rfl dX5_within_5 rfl ?_
    refine V.iload_n 2 2 2 rfl dX5_within_6 rfl ?_
    refine V.icmp_gt (tgt := 14) rfl rfl dX5_within_7 (by decide) (fun hc => ?_) (fun hc => ?_)
    · rw [if_pos hc] at hF
      refine V.iconst 0 dX5_within_14 ?_
      cases Option.some.inj hF
      exact V.zret rfl (Or.inl rfl) dX5_within_15 hK
    · rw [if_neg hc] at hF
      refine V.iconst 1 dX5_within_10 ?_
      refine V.goto (tgt := 15) dX5_within_11 (by decide) ?_
      cases Option.some.inj hF
      exact V.zret rfl (Or.inr rfl) dX5_within_15 hK
theorem c_X5_within {E : En} {d : Nat} {x0 : Int} {x1 : Int} {x2 : Int} {M : Mem} {z : Int}  (hd : 1 ≤ d) (hF : f_X5_within x0 x1 x2 M = some z) : Cn E mX5_within d [vi x0, vi x1, vi x2] M (fun v N => v = some (vi z) ∧ M = N) := by
  refine V.entry (by decide +kernel) (Nat.le_of_ble_eq_true rfl) ?_
  exact v_X5_within_0  hd hF ⟨rfl, rfl⟩
abbrev mX5_isRot : MI := (yX5_isRot, cX5_isRot, 1, (some .boolean))
theorem okX5_isRot : OKS mX5_isRot 1 := ⟨gw_461, gw_58, gw_462, (by decide +kernel), (by decide)⟩
def f_X5_isRot (x0 : Int) (M : Mem) : Option (Int) :=
  if wr x0 = 1 then
    some 0
  else
    (f_X5_within x0 0 9 M).bind fun v1 =>
    if wr v1 = 0 then
      some 0
    else
      some 1
set_option maxRecDepth 10000 in
theorem v_X5_isRot_0 {E : En} {d : Nat} {Q : Po} {x0 : Int} {M : Mem} {z : Int}  (hd : 2 ≤ d) (hF : f_X5_isRot x0 M = some z) (hK : Q (some (vi z)) M) : V E mX5_isRot d 0 [(0, vi x0)] [] M Q := by
  unfold f_X5_isRot at hF
  refine V.iload_n 0 0 0 rfl dX5_isRot_0 rfl ?_
  refine V.iconst 1 dX5_isRot_1 ?_
  refine V.icmp_eq (tgt := 19) rfl wr_1 dX5_isRot_2 (by decide) (fun hc => ?_) (fun hc => ?_)
  · rw [if_pos hc] at hF
    refine V.iconst 0 dX5_isRot_19 ?_
    cases Option.some.inj hF
    exact V.zret rfl (Or.inl rfl) dX5_isRot_20 hK
  · rw [if_neg hc] at hF
    refine V.iload_n 0 0 0 rfl dX5_isRot_5 rfl ?_
    refine V.iconst 0 dX5_isRot_6 ?_
    refine V.bipush 9 9 (by decide) dX5_isRot_7 ?_
    replace hF := Option.bind_eq_some_iff.mp hF
    obtain ⟨v1, hv1, hF⟩ := hF
    refine V.callS (d' := d - 1) [vi x0, vi 0, vi 9] [] (c_X5_within (by omega) hv1) okX5_within gw_314 rfl rfl (Nat.le_of_ble_eq_true rfl) (by omega) dX5_isRot_9 ?_
    rintro _ _ ⟨rfl, rfl⟩
    show V E mX5_isRot d 12 [(0, vi x0)] [vi v1] M _
    refine V.if_eq (tgt := 19) rfl dX5_isRot_12 (by decide) (fun hc => ?_) (fun hc => ?_)
    · rw [if_pos hc] at hF
      refine V.iconst 0 dX5_isRot_19 ?_
      cases Option.some.inj hF
      exact V.zret rfl (Or.inl rfl) dX5_isRot_20 hK
    · rw [if_neg hc] at hF
      refine V.iconst 1 dX5_isRot_15 ?_
      refine V.goto (tgt := 20) dX5_isRot_16 (by decide) ?_
      cases Option.some.inj hF
      exact V.zret rfl (Or.inr rfl) dX5_isRot_20 hK
theorem c_X5_isRot {E : En} {d : Nat} {x0 : Int} {M : Mem} {z : Int}  (hd : 2 ≤ d) (hF : f_X5_isRot x0 M = some z) : Cn E mX5_isRot d [vi x0] M (fun v N => v = some (vi z) ∧ M = N) := by
  refine V.entry (by decide +kernel) (Nat.le_of_ble_eq_true rfl) ?_
  exact v_X5_isRot_0  hd hF ⟨rfl, rfl⟩
abbrev mX5_fault : MI := (yX5_fault, cX5_fault, 1, (some .int))
theorem okX5_fault : OKV mX5_fault 0 := ⟨gw_492, gw_493, gw_58, gw_494, (by decide +kernel), (by decide)⟩
def f_X5_fault (M : Mem) : Option (Int) :=
  some (M 1 2)
set_option maxRecDepth 10000 in
theorem v_X5_fault_0 {E : En} {d : Nat} {Q : Po} {M : Mem} {z : Int}  (hd : 1 ≤ d) (hF : f_X5_fault M = some z) (hK : Q (some (vi z)) M) : V E mX5_fault d 0 [(0, rf E 0)] [] M Q := by
  unfold f_X5_fault at hF
  refine V.aload_n 0 0 0 rfl dX5_fault_0 rfl ?_
  refine V.get (by decide) (hcX5 E _) rfl inX5 0 (by decide) rfl gw_282 dX5_fault_1 ?_
  refine V.get (by decide) (hcX3 E _) rfl inX3 2 (by decide) rfl gw_91 dX5_fault_4 ?_
  cases Option.some.inj hF
  exact V.iret rfl dX5_fault_7 hK
theorem c_X5_fault {E : En} {d : Nat} {M : Mem} {z : Int}  (hd : 1 ≤ d) (hF : f_X5_fault M = some z) : Cn E mX5_fault d [rf E 0] M (fun v N => v = some (vi z) ∧ M = N) := by
  refine V.entry (by decide +kernel) (Nat.le_of_ble_eq_true rfl) ?_
  exact v_X5_fault_0  hd hF ⟨rfl, rfl⟩
abbrev mX5_rule : MI := (yX5_rule, cX5_rule, 2, (some .int))
theorem okX5_rule : OKV mX5_rule 1 := ⟨gw_496, gw_497, gw_58, gw_498, (by decide +kernel), (by decide)⟩
def f_X5_rule (x1 : Int) (M : Mem) : Option (Int) :=
  if wr x1 = 0 then
    some (M 3 4)
  else if wr x1 = 1 then
    some (M 3 5)
  else if wr x1 = 2 then
    some (M 3 6)
  else if wr x1 = 3 then
    some (M 3 7)
  else if wr x1 = 4 then
    some (M 3 8)
  else if wr x1 = 5 then
    some (M 3 9)
  else if wr x1 = 6 then
    some (M 3 10)
  else if wr x1 = 7 then
    some (M 3 11)
  else if wr x1 = 8 then
    some (M 3 12)
  else if wr x1 = 9 then
    some (M 3 13)
  else if wr x1 = 10 then
    some (M 3 14)
  else if wr x1 = 11 then
    some (M 3 15)
  else if wr x1 = 12 then
    some (M 3 17)
  else if wr x1 = 13 then
    some (M 3 18)
  else 
    some (-1)
set_option maxRecDepth 10000 in
theorem v_X5_rule_0 {E : En} {d : Nat} {Q : Po} {x1 : Int} {M : Mem} {z : Int}  (hd : 1 ≤ d) (hF : f_X5_rule x1 M = some z) (hK : Q (some (vi z)) M) : V E mX5_rule d 0 [(0, rf E 0), (1, vi x1)] [] M Q := by
  unfold f_X5_rule at hF
  refine V.iload_n 1 1 1 rfl dX5_rule_0 rfl ?_
  by_cases hs0 : wr x1 = 0
  · rw [if_pos hs0] at hF
    refine V.tableIn (a := 0) (tgt := 72) (off := 71) hs0 dX5_rule_1 (by decide) (by decide) rfl (by decide) ?_
    refine V.aload_n 0 0 0 rfl dX5_rule_72 rfl ?_
    refine V.get (by decide) (hcX5 E _) rfl inX5 1 (by decide) rfl gw_283 dX5_rule_73 ?_
    refine V.get (ltX2 is_3) (hcX2 is_3 E _) rfl inX2 4 (by decide) rfl gw_142 dX5_rule_76 ?_
    cases Option.some.inj hF
    exact V.iret rfl dX5_rule_79 hK
  rw [if_neg hs0] at hF
  by_cases hs1 : wr x1 = 1
  · rw [if_pos hs1] at hF
    refine V.tableIn (a := 1) (tgt := 80) (off := 79) hs1 dX5_rule_1 (by decide) (by decide) rfl (by decide) ?_
    refine V.aload_n 0 0 0 rfl dX5_rule_80 rfl ?_
    refine V.get (by decide) (hcX5 E _) rfl inX5 1 (by decide) rfl gw_283 dX5_rule_81 ?_
    refine V.get (ltX2 is_3) (hcX2 is_3 E _) rfl inX2 5 (by decide) rfl gw_145 dX5_rule_84 ?_
    cases Option.some.inj hF
    exact V.iret rfl dX5_rule_87 hK
  rw [if_neg hs1] at hF
  by_cases hs2 : wr x1 = 2
  · rw [if_pos hs2] at hF
    refine V.tableIn (a := 2) (tgt := 88) (off := 87) hs2 dX5_rule_1 (by decide) (by decide) rfl (by decide) ?_
    refine V.aload_n 0 0 0 rfl dX5_rule_88 rfl ?_
    refine V.get (by decide) (hcX5 E _) rfl inX5 1 (by decide) rfl gw_283 dX5_rule_89 ?_
    refine V.get (ltX2 is_3) (hcX2 is_3 E _) rfl inX2 6 (by decide) rfl gw_148 dX5_rule_92 ?_
    cases Option.some.inj hF
    exact V.iret rfl dX5_rule_95 hK
  rw [if_neg hs2] at hF
  by_cases hs3 : wr x1 = 3
  · rw [if_pos hs3] at hF
    refine V.tableIn (a := 3) (tgt := 96) (off := 95) hs3 dX5_rule_1 (by decide) (by decide) rfl (by decide) ?_
    refine V.aload_n 0 0 0 rfl dX5_rule_96 rfl ?_
    refine V.get (by decide) (hcX5 E _) rfl inX5 1 (by decide) rfl gw_283 dX5_rule_97 ?_
    refine V.get (ltX2 is_3) (hcX2 is_3 E _) rfl inX2 7 (by decide) rfl gw_152 dX5_rule_100 ?_
    cases Option.some.inj hF
    exact V.iret rfl dX5_rule_103 hK
  rw [if_neg hs3] at hF
  by_cases hs4 : wr x1 = 4
  · rw [if_pos hs4] at hF
    refine V.tableIn (a := 4) (tgt := 104) (off := 103) hs4 dX5_rule_1 (by decide) (by decide) rfl (by decide) ?_
    refine V.aload_n 0 0 0 rfl dX5_rule_104 rfl ?_
    refine V.get (by decide) (hcX5 E _) rfl inX5 1 (by decide) rfl gw_283 dX5_rule_105 ?_
    refine V.get (ltX2 is_3) (hcX2 is_3 E _) rfl inX2 8 (by decide) rfl gw_156 dX5_rule_108 ?_
    cases Option.some.inj hF
    exact V.iret rfl dX5_rule_111 hK
  rw [if_neg hs4] at hF
  by_cases hs5 : wr x1 = 5
  · rw [if_pos hs5] at hF
    refine V.tableIn (a := 5) (tgt := 112) (off := 111) hs5 dX5_rule_1 (by decide) (by decide) rfl (by decide) ?_
    refine V.aload_n 0 0 0 rfl dX5_rule_112 rfl ?_
    refine V.get (by decide) (hcX5 E _) rfl inX5 1 (by decide) rfl gw_283 dX5_rule_113 ?_
    refine V.get (ltX2 is_3) (hcX2 is_3 E _) rfl inX2 9 (by decide) rfl gw_159 dX5_rule_116 ?_
    cases Option.some.inj hF
    exact V.iret rfl dX5_rule_119 hK
  rw [if_neg hs5] at hF
  by_cases hs6 : wr x1 = 6
  · rw [if_pos hs6] at hF
    refine V.tableIn (a := 6) (tgt := 120) (off := 119) hs6 dX5_rule_1 (by decide) (by decide) rfl (by decide) ?_
    refine V.aload_n 0 0 0 rfl dX5_rule_120 rfl ?_
    refine V.get (by decide) (hcX5 E _) rfl inX5 1 (by decide) rfl gw_283 dX5_rule_121 ?_
    refine V.get (ltX2 is_3) (hcX2 is_3 E _) rfl inX2 10 (by decide) rfl gw_163 dX5_rule_124 ?_
    cases Option.some.inj hF
    exact V.iret rfl dX5_rule_127 hK
  rw [if_neg hs6] at hF
  by_cases hs7 : wr x1 = 7
  · rw [if_pos hs7] at hF
    refine V.tableIn (a := 7) (tgt := 128) (off := 127) hs7 dX5_rule_1 (by decide) (by decide) rfl (by decide) ?_
    refine V.aload_n 0 0 0 rfl dX5_rule_128 rfl ?_
    refine V.get (by decide) (hcX5 E _) rfl inX5 1 (by decide) rfl gw_283 dX5_rule_129 ?_
    refine V.get (ltX2 is_3) (hcX2 is_3 E _) rfl inX2 11 (by decide) rfl gw_166 dX5_rule_132 ?_
    cases Option.some.inj hF
    exact V.iret rfl dX5_rule_135 hK
  rw [if_neg hs7] at hF
  by_cases hs8 : wr x1 = 8
  · rw [if_pos hs8] at hF
    refine V.tableIn (a := 8) (tgt := 136) (off := 135) hs8 dX5_rule_1 (by decide) (by decide) rfl (by decide) ?_
    refine V.aload_n 0 0 0 rfl dX5_rule_136 rfl ?_
    refine V.get (by decide) (hcX5 E _) rfl inX5 1 (by decide) rfl gw_283 dX5_rule_137 ?_
    refine V.get (ltX2 is_3) (hcX2 is_3 E _) rfl inX2 12 (by decide) rfl gw_169 dX5_rule_140 ?_
    cases Option.some.inj hF
    exact V.iret rfl dX5_rule_143 hK
  rw [if_neg hs8] at hF
  by_cases hs9 : wr x1 = 9
  · rw [if_pos hs9] at hF
    refine V.tableIn (a := 9) (tgt := 144) (off := 143) hs9 dX5_rule_1 (by decide) (by decide) rfl (by decide) ?_
    refine V.aload_n 0 0 0 rfl dX5_rule_144 rfl ?_
    refine V.get (by decide) (hcX5 E _) rfl inX5 1 (by decide) rfl gw_283 dX5_rule_145 ?_
    refine V.get (ltX2 is_3) (hcX2 is_3 E _) rfl inX2 13 (by decide) rfl gw_172 dX5_rule_148 ?_
    cases Option.some.inj hF
    exact V.iret rfl dX5_rule_151 hK
  rw [if_neg hs9] at hF
  by_cases hs10 : wr x1 = 10
  · rw [if_pos hs10] at hF
    refine V.tableIn (a := 10) (tgt := 152) (off := 151) hs10 dX5_rule_1 (by decide) (by decide) rfl (by decide) ?_
    refine V.aload_n 0 0 0 rfl dX5_rule_152 rfl ?_
    refine V.get (by decide) (hcX5 E _) rfl inX5 1 (by decide) rfl gw_283 dX5_rule_153 ?_
    refine V.get (ltX2 is_3) (hcX2 is_3 E _) rfl inX2 14 (by decide) rfl gw_174 dX5_rule_156 ?_
    cases Option.some.inj hF
    exact V.iret rfl dX5_rule_159 hK
  rw [if_neg hs10] at hF
  by_cases hs11 : wr x1 = 11
  · rw [if_pos hs11] at hF
    refine V.tableIn (a := 11) (tgt := 160) (off := 159) hs11 dX5_rule_1 (by decide) (by decide) rfl (by decide) ?_
    refine V.aload_n 0 0 0 rfl dX5_rule_160 rfl ?_
    refine V.get (by decide) (hcX5 E _) rfl inX5 1 (by decide) rfl gw_283 dX5_rule_161 ?_
    refine V.get (ltX2 is_3) (hcX2 is_3 E _) rfl inX2 15 (by decide) rfl gw_177 dX5_rule_164 ?_
    cases Option.some.inj hF
    exact V.iret rfl dX5_rule_167 hK
  rw [if_neg hs11] at hF
  by_cases hs12 : wr x1 = 12
  · rw [if_pos hs12] at hF
    refine V.tableIn (a := 12) (tgt := 168) (off := 167) hs12 dX5_rule_1 (by decide) (by decide) rfl (by decide) ?_
    refine V.aload_n 0 0 0 rfl dX5_rule_168 rfl ?_
    refine V.get (by decide) (hcX5 E _) rfl inX5 1 (by decide) rfl gw_283 dX5_rule_169 ?_
    refine V.get (ltX2 is_3) (hcX2 is_3 E _) rfl inX2 17 (by decide) rfl gw_181 dX5_rule_172 ?_
    cases Option.some.inj hF
    exact V.iret rfl dX5_rule_175 hK
  rw [if_neg hs12] at hF
  by_cases hs13 : wr x1 = 13
  · rw [if_pos hs13] at hF
    refine V.tableIn (a := 13) (tgt := 176) (off := 175) hs13 dX5_rule_1 (by decide) (by decide) rfl (by decide) ?_
    refine V.aload_n 0 0 0 rfl dX5_rule_176 rfl ?_
    refine V.get (by decide) (hcX5 E _) rfl inX5 1 (by decide) rfl gw_283 dX5_rule_177 ?_
    refine V.get (ltX2 is_3) (hcX2 is_3 E _) rfl inX2 18 (by decide) rfl gw_183 dX5_rule_180 ?_
    cases Option.some.inj hF
    exact V.iret rfl dX5_rule_183 hK
  rw [if_neg hs13] at hF
  refine V.tableOut (tgt := 184) rfl dX5_rule_1 (by omega) (by decide) ?_
  refine V.iconst (-1) dX5_rule_184 ?_
  cases Option.some.inj hF
  exact V.iret rfl dX5_rule_185 hK
theorem c_X5_rule {E : En} {d : Nat} {x1 : Int} {M : Mem} {z : Int}  (hd : 1 ≤ d) (hF : f_X5_rule x1 M = some z) : Cn E mX5_rule d [rf E 0, vi x1] M (fun v N => v = some (vi z) ∧ M = N) := by
  refine V.entry (by decide +kernel) (Nat.le_of_ble_eq_true rfl) ?_
  exact v_X5_rule_0  hd hF ⟨rfl, rfl⟩
abbrev mX5_greatestDivisor : MI := (yX5_greatestDivisor, cX5_greatestDivisor, 6, (some .int))
theorem okX5_greatestDivisor : OKS mX5_greatestDivisor 2 := ⟨gw_693, gw_58, gw_694, (by decide +kernel), (by decide)⟩
def f_X5_greatestDivisor_7 (n : Nat) (x2 : Int) (x3 : Int) (x4 : Int) (M : Mem) : Option ((Int × Int × Int) ⊕ (Int)) :=
  if 64 ≤ wr x4 then
    some (.inr x2)
  else
    if wr x3 = 0 then
      some (.inr x2)
    else
      (ivtmod x2 x3).bind fun v1 =>
      some (.inl (x3, v1, x4 + 1))
set_option maxRecDepth 10000 in
theorem v_X5_greatestDivisor_7 {E : En} {d : Nat} {Q : Po} {n : Nat} {x2 : Int} {x3 : Int} {x4 : Int} {M : Mem} {z : (Int × Int × Int) ⊕ (Int)}  (hd : 1 ≤ d) (hF : f_X5_greatestDivisor_7 n x2 x3 x4 M = some z) (hC0 : ∀ s' : Int × Int × Int, z = (.inl s') → V E mX5_greatestDivisor d 7 [(2, vi (s'.1)), (3, vi (s'.2.1)), (4, vi (s'.2.2))] [] M Q) (hX : ∀ z0 : Int, z = (.inr z0) → Q (some (vi z0)) M) : V E mX5_greatestDivisor d 7 [(2, vi x2), (3, vi x3), (4, vi x4)] [] M Q := by
  unfold f_X5_greatestDivisor_7 at hF
  refine V.iload 4 2 dX5_greatestDivisor_7 rfl ?_
  refine V.bipush 64 64 (by decide) dX5_greatestDivisor_9 ?_
  refine V.icmp_ge (tgt := 34) rfl wr_64 dX5_greatestDivisor_11 (by decide) (fun hc => ?_) (fun hc => ?_)
  · rw [if_pos hc] at hF
    refine V.iload_n 2 2 0 rfl dX5_greatestDivisor_34 rfl ?_
    cases Option.some.inj hF
    exact V.iret rfl dX5_greatestDivisor_35 (hX _ rfl)
  · rw [if_neg hc] at hF
    refine V.iload_n 3 3 1 rfl dX5_greatestDivisor_14 rfl ?_
    refine V.if_eq (tgt := 34) rfl dX5_greatestDivisor_15 (by decide) (fun hc => ?_) (fun hc => ?_)
    · rw [if_pos hc] at hF
      refine V.iload_n 2 2 0 rfl dX5_greatestDivisor_34 rfl ?_
      cases Option.some.inj hF
      exact V.iret rfl dX5_greatestDivisor_35 (hX _ rfl)
    · rw [if_neg hc] at hF
      refine V.iload_n 2 2 0 rfl dX5_greatestDivisor_18 rfl ?_
      refine V.iload_n 3 3 1 rfl dX5_greatestDivisor_19 rfl ?_
      replace hF := Option.bind_eq_some_iff.mp hF
      obtain ⟨v1, hv1, hF⟩ := hF
      refine V.irem (ivtmod_some hv1).1 dX5_greatestDivisor_20 ?_
      rw [← (ivtmod_some hv1).2]
      refine V.istore 5 [(5, vi v1), (2, vi x2), (3, vi x3), (4, vi x4)] dX5_greatestDivisor_21 (by decide) rfl ?_
      refine V.iload_n 3 3 2 rfl dX5_greatestDivisor_23 rfl ?_
      refine V.istore_n 2 2 [(2, vi x3), (5, vi v1), (3, vi x3), (4, vi x4)] rfl dX5_greatestDivisor_24 (by decide) rfl ?_
      refine V.iload 5 1 dX5_greatestDivisor_25 rfl ?_
      refine V.istore_n 3 3 [(3, vi v1), (2, vi x3), (5, vi v1), (4, vi x4)] rfl dX5_greatestDivisor_27 (by decide) rfl ?_
      refine V.iinc 4 3 1 [(4, vi (x4 + 1)), (3, vi v1), (2, vi x3), (5, vi v1)] dX5_greatestDivisor_28 rfl (by decide) rfl ?_
      refine V.goto (tgt := 7) dX5_greatestDivisor_31 (by decide) ?_
      cases Option.some.inj hF
      refine V.sub _ [2, 1, 0] rfl ?_
      exact hC0 _ rfl
theorem l_X5_greatestDivisor_7 {E : En} {d : Nat} {Q : Po} {n : Nat} {M : Mem} {k : Nat} {s : Int × Int × Int} {z : Int}  (hd : 1 ≤ d) (hF : lp (fun s => f_X5_greatestDivisor_7 n s.1 s.2.1 s.2.2 M) k s = some z) (hK : Q (some (vi z)) M) : V E mX5_greatestDivisor d 7 [(2, vi s.1), (3, vi s.2.1), (4, vi s.2.2)] [] M Q := by
  refine lp_ind (P := fun s => V E mX5_greatestDivisor d 7 [(2, vi s.1), (3, vi s.2.1), (4, vi s.2.2)] [] M Q) (z0 := z) ?_ k s hF
  intro s z' hF hc hx
  exact v_X5_greatestDivisor_7 hd hF (fun s' e => hc s' e) (fun z0 e => by rw [hx _ e]; exact hK)
def f_X5_greatestDivisor (n : Nat) (x0 : Int) (x1 : Int) (M : Mem) : Option (Int) :=
  lp (fun s => f_X5_greatestDivisor_7 n s.1 s.2.1 s.2.2 M) n (x0, x1, 0)
set_option maxRecDepth 10000 in
theorem v_X5_greatestDivisor_0 {E : En} {d : Nat} {Q : Po} {n : Nat} {x0 : Int} {x1 : Int} {M : Mem} {z : Int}  (hd : 1 ≤ d) (hF : f_X5_greatestDivisor n x0 x1 M = some z) (hK : Q (some (vi z)) M) : V E mX5_greatestDivisor d 0 [(0, vi x0), (1, vi x1)] [] M Q := by
  unfold f_X5_greatestDivisor at hF
  refine V.iload_n 0 0 0 rfl dX5_greatestDivisor_0 rfl ?_
  refine V.istore_n 2 2 [(2, vi x0), (0, vi x0), (1, vi x1)] rfl dX5_greatestDivisor_1 (by decide) rfl ?_
  refine V.iload_n 1 1 2 rfl dX5_greatestDivisor_2 rfl ?_
  refine V.istore_n 3 3 [(3, vi x1), (2, vi x0), (0, vi x0), (1, vi x1)] rfl dX5_greatestDivisor_3 (by decide) rfl ?_
  refine V.iconst 0 dX5_greatestDivisor_4 ?_
  refine V.istore 4 [(4, vi 0), (3, vi x1), (2, vi x0), (0, vi x0), (1, vi x1)] dX5_greatestDivisor_5 (by decide) rfl ?_
  refine V.sub _ [2, 1, 0] rfl ?_
  exact l_X5_greatestDivisor_7 hd hF hK
theorem c_X5_greatestDivisor {E : En} {d : Nat} {n : Nat} {x0 : Int} {x1 : Int} {M : Mem} {z : Int}  (hd : 1 ≤ d) (hF : f_X5_greatestDivisor n x0 x1 M = some z) : Cn E mX5_greatestDivisor d [vi x0, vi x1] M (fun v N => v = some (vi z) ∧ M = N) := by
  refine V.entry (by decide +kernel) (Nat.le_of_ble_eq_true rfl) ?_
  exact v_X5_greatestDivisor_0  hd hF ⟨rfl, rfl⟩
abbrev mX5_fraction : MI := (yX5_fraction, cX5_fraction, 4, (some .long))
theorem okX5_fraction : OKS mX5_fraction 3 := ⟨gw_687, gw_58, gw_688, (by decide +kernel), (by decide)⟩
def f_X5_fraction (n : Nat) (x0 : Int) (x1 : Int) (x2 : Int) (M : Mem) : Option (Int) :=
  (f_X5_greatestDivisor n (mab x0) x1 M).bind fun v1 =>
  if wr v1 = 0 then
    some (wr x2)
  else
    if wr x2 = 0 then
      (ivtdiv x0 v1).bind fun v3 =>
      some (wr v3)
    else
      (ivtdiv x1 v1).bind fun v2 =>
      some (wr v2)
set_option maxRecDepth 10000 in
theorem v_X5_fraction_0 {E : En} {d : Nat} {Q : Po} {n : Nat} {x0 : Int} {x1 : Int} {x2 : Int} {M : Mem} {z : Int}  (hd : 2 ≤ d) (hF : f_X5_fraction n x0 x1 x2 M = some z) (hK : Q (some (vl z)) M) : V E mX5_fraction d 0 [(0, vi x0), (1, vi x1), (2, vi x2)] [] M Q := by
  unfold f_X5_fraction at hF
  refine V.iload_n 0 0 0 rfl dX5_fraction_0 rfl ?_
  refine V.rabs gw_689 (Nat.le_of_ble_eq_true rfl) (by omega) dX5_fraction_1 ?_
  refine V.iload_n 1 1 1 rfl dX5_fraction_4 rfl ?_
  replace hF := Option.bind_eq_some_iff.mp hF
  obtain ⟨v1, hv1, hF⟩ := hF
  refine V.callS (d' := d - 1) [vi (mab x0), vi x1] [] (c_X5_greatestDivisor (by omega) hv1) okX5_greatestDivisor gw_692 rfl rfl (Nat.le_of_ble_eq_true rfl) (by omega) dX5_fraction_5 ?_
  rintro _ _ ⟨rfl, rfl⟩
  show V E mX5_fraction d 8 [(0, vi x0), (1, vi x1), (2, vi x2)] [vi v1] M _
  refine V.istore_n 3 3 [(3, vi v1), (0, vi x0), (1, vi x1), (2, vi x2)] rfl dX5_fraction_8 (by decide) rfl ?_
  refine V.iload_n 3 3 0 rfl dX5_fraction_9 rfl ?_
  refine V.if_ne (tgt := 16) rfl dX5_fraction_10 (by decide) (fun hc => ?_) (fun hc => ?_)
  · rw [if_neg hc] at hF
    refine V.iload_n 2 2 3 rfl dX5_fraction_16 rfl ?_
    refine V.if_ne (tgt := 27) rfl dX5_fraction_17 (by decide) (fun hc => ?_) (fun hc => ?_)
    · rw [if_neg hc] at hF
      refine V.iload_n 1 1 2 rfl dX5_fraction_27 rfl ?_
      refine V.iload_n 3 3 0 rfl dX5_fraction_28 rfl ?_
      replace hF := Option.bind_eq_some_iff.mp hF
      obtain ⟨v2, hv2, hF⟩ := hF
      refine V.idiv (ivtdiv_some hv2).1 dX5_fraction_29 ?_
      rw [← (ivtdiv_some hv2).2]
      refine V.i2l dX5_fraction_30 ?_
      cases Option.some.inj hF
      exact V.lret rfl dX5_fraction_31 hK
    · rw [if_pos hc] at hF
      refine V.iload_n 0 0 1 rfl dX5_fraction_20 rfl ?_
      refine V.iload_n 3 3 0 rfl dX5_fraction_21 rfl ?_
      replace hF := Option.bind_eq_some_iff.mp hF
      obtain ⟨v3, hv3, hF⟩ := hF
      refine V.idiv (ivtdiv_some hv3).1 dX5_fraction_22 ?_
      rw [← (ivtdiv_some hv3).2]
      refine V.i2l dX5_fraction_23 ?_
      refine V.goto (tgt := 31) dX5_fraction_24 (by decide) ?_
      cases Option.some.inj hF
      exact V.lret rfl dX5_fraction_31 hK
  · rw [if_pos hc] at hF
    refine V.iload_n 2 2 3 rfl dX5_fraction_13 rfl ?_
    refine V.i2l dX5_fraction_14 ?_
    cases Option.some.inj hF
    exact V.lret rfl dX5_fraction_15 hK
theorem c_X5_fraction {E : En} {d : Nat} {n : Nat} {x0 : Int} {x1 : Int} {x2 : Int} {M : Mem} {z : Int}  (hd : 2 ≤ d) (hF : f_X5_fraction n x0 x1 x2 M = some z) : Cn E mX5_fraction d [vi x0, vi x1, vi x2] M (fun v N => v = some (vl z) ∧ M = N) := by
  refine V.entry (by decide +kernel) (Nat.le_of_ble_eq_true rfl) ?_
  exact v_X5_fraction_0  hd hF ⟨rfl, rfl⟩
abbrev mX5_isSheet : MI := (yX5_isSheet, cX5_isSheet, 1, (some .boolean))
theorem okX5_isSheet : OKS mX5_isSheet 1 := ⟨gw_818, gw_58, gw_819, (by decide +kernel), (by decide)⟩
def f_X5_isSheet (x0 : Int) (M : Mem) : Option (Int) :=
  (f_X5_within x0 0 3 M).bind fun v1 =>
  (bz v1).bind fun v2 =>
  some v2
set_option maxRecDepth 10000 in
theorem v_X5_isSheet_0 {E : En} {d : Nat} {Q : Po} {x0 : Int} {M : Mem} {z : Int}  (hd : 2 ≤ d) (hF : f_X5_isSheet x0 M = some z) (hK : Q (some (vi z)) M) : V E mX5_isSheet d 0 [(0, vi x0)] [] M Q := by
  unfold f_X5_isSheet at hF
  refine V.iload_n 0 0 0 rfl dX5_isSheet_0 rfl ?_
  refine V.iconst 0 dX5_isSheet_1 ?_
  refine V.iconst 3 dX5_isSheet_2 ?_
  replace hF := Option.bind_eq_some_iff.mp hF
  obtain ⟨v1, hv1, hF⟩ := hF
  refine V.callS (d' := d - 1) [vi x0, vi 0, vi 3] [] (c_X5_within (by omega) hv1) okX5_within gw_314 rfl rfl (Nat.le_of_ble_eq_true rfl) (by omega) dX5_isSheet_3 ?_
  rintro _ _ ⟨rfl, rfl⟩
  show V E mX5_isSheet d 6 [(0, vi x0)] [vi v1] M _
  replace hF := Option.bind_eq_some_iff.mp hF
  obtain ⟨v2, hv2, hF⟩ := hF
  obtain ⟨hzv2, rfl⟩ := bz_some hv2
  cases Option.some.inj hF
  exact V.zret rfl hzv2 dX5_isSheet_6 hK
theorem c_X5_isSheet {E : En} {d : Nat} {x0 : Int} {M : Mem} {z : Int}  (hd : 2 ≤ d) (hF : f_X5_isSheet x0 M = some z) : Cn E mX5_isSheet d [vi x0] M (fun v N => v = some (vi z) ∧ M = N) := by
  refine V.entry (by decide +kernel) (Nat.le_of_ble_eq_true rfl) ?_
  exact v_X5_isSheet_0  hd hF ⟨rfl, rfl⟩
abbrev mX5_isLane : MI := (yX5_isLane, cX5_isLane, 1, (some .boolean))
theorem okX5_isLane : OKS mX5_isLane 1 := ⟨gw_821, gw_58, gw_822, (by decide +kernel), (by decide)⟩
def f_X5_isLane (x0 : Int) (M : Mem) : Option (Int) :=
  (f_X5_within x0 0 2 M).bind fun v1 =>
  (bz v1).bind fun v2 =>
  some v2
set_option maxRecDepth 10000 in
theorem v_X5_isLane_0 {E : En} {d : Nat} {Q : Po} {x0 : Int} {M : Mem} {z : Int}  (hd : 2 ≤ d) (hF : f_X5_isLane x0 M = some z) (hK : Q (some (vi z)) M) : V E mX5_isLane d 0 [(0, vi x0)] [] M Q := by
  unfold f_X5_isLane at hF
  refine V.iload_n 0 0 0 rfl dX5_isLane_0 rfl ?_
  refine V.iconst 0 dX5_isLane_1 ?_
  refine V.iconst 2 dX5_isLane_2 ?_
  replace hF := Option.bind_eq_some_iff.mp hF
  obtain ⟨v1, hv1, hF⟩ := hF
  refine V.callS (d' := d - 1) [vi x0, vi 0, vi 2] [] (c_X5_within (by omega) hv1) okX5_within gw_314 rfl rfl (Nat.le_of_ble_eq_true rfl) (by omega) dX5_isLane_3 ?_
  rintro _ _ ⟨rfl, rfl⟩
  show V E mX5_isLane d 6 [(0, vi x0)] [vi v1] M _
  replace hF := Option.bind_eq_some_iff.mp hF
  obtain ⟨v2, hv2, hF⟩ := hF
  obtain ⟨hzv2, rfl⟩ := bz_some hv2
  cases Option.some.inj hF
  exact V.zret rfl hzv2 dX5_isLane_6 hK
theorem c_X5_isLane {E : En} {d : Nat} {x0 : Int} {M : Mem} {z : Int}  (hd : 2 ≤ d) (hF : f_X5_isLane x0 M = some z) : Cn E mX5_isLane d [vi x0] M (fun v N => v = some (vi z) ∧ M = N) := by
  refine V.entry (by decide +kernel) (Nat.le_of_ble_eq_true rfl) ?_
  exact v_X5_isLane_0  hd hF ⟨rfl, rfl⟩
abbrev mX5_torn : MI := (yX5_torn, cX5_torn, 1, (some .int))
theorem okX5_torn : OKV mX5_torn 0 := ⟨gw_855, gw_856, gw_58, gw_857, (by decide +kernel), (by decide)⟩
def f_X5_torn (M : Mem) : Option (Int) :=
  some (M 0 8)
set_option maxRecDepth 10000 in
theorem v_X5_torn_0 {E : En} {d : Nat} {Q : Po} {M : Mem} {z : Int}  (hd : 1 ≤ d) (hF : f_X5_torn M = some z) (hK : Q (some (vi z)) M) : V E mX5_torn d 0 [(0, rf E 0)] [] M Q := by
  unfold f_X5_torn at hF
  refine V.aload_n 0 0 0 rfl dX5_torn_0 rfl ?_
  refine V.get (by decide) (hcX5 E _) rfl inX5 8 (by decide) rfl gw_290 dX5_torn_1 ?_
  cases Option.some.inj hF
  exact V.iret rfl dX5_torn_4 hK
theorem c_X5_torn {E : En} {d : Nat} {M : Mem} {z : Int}  (hd : 1 ≤ d) (hF : f_X5_torn M = some z) : Cn E mX5_torn d [rf E 0] M (fun v N => v = some (vi z) ∧ M = N) := by
  refine V.entry (by decide +kernel) (Nat.le_of_ble_eq_true rfl) ?_
  exact v_X5_torn_0  hd hF ⟨rfl, rfl⟩
abbrev mJ6_bitCount_0f7a4 : MI := (yJ6_bitCount_0f7a4, cJ6_bitCount_0f7a4, 1, (some .int))
theorem okJ6_bitCount_0f7a4 : OKS mJ6_bitCount_0f7a4 1 := ⟨gw_864, gw_72, gw_865, (by decide +kernel), (by decide)⟩
def f_J6_bitCount_0f7a4 (x0 : Int) (M : Mem) : Option (Int) :=
  (some (x0 - (bAnd (bUshr x0 1) 1431655765))).bind fun v1 =>
  (some ((bAnd v1 858993459) + (bAnd (bUshr v1 2) 858993459))).bind fun v2 =>
  (some (bAnd (v2 + (bUshr v2 4)) 252645135)).bind fun v3 =>
  (some ((v3 + (bUshr v3 8)) + (bUshr (v3 + (bUshr v3 8)) 16))).bind fun v4 =>
  some (bAnd v4 63)
set_option maxRecDepth 10000 in
theorem v_J6_bitCount_0f7a4_0 {E : En} {d : Nat} {Q : Po} {x0 : Int} {M : Mem} {z : Int}  (hd : 1 ≤ d) (hF : f_J6_bitCount_0f7a4 x0 M = some z) (hK : Q (some (vi z)) M) : V E mJ6_bitCount_0f7a4 d 0 [(0, vi x0)] [] M Q := by
  unfold f_J6_bitCount_0f7a4 at hF
  refine V.iload_n 0 0 0 rfl dJ6_bitCount_0f7a4_0 rfl ?_
  refine V.iload_n 0 0 0 rfl dJ6_bitCount_0f7a4_1 rfl ?_
  refine V.iconst 1 dJ6_bitCount_0f7a4_2 ?_
  refine V.iushr dJ6_bitCount_0f7a4_3 ?_
  refine V.ldcw 265 1431655765 1431655765 (by decide) gw_866 dJ6_bitCount_0f7a4_4 ?_
  refine V.iand dJ6_bitCount_0f7a4_7 ?_
  refine V.isub dJ6_bitCount_0f7a4_8 ?_
  replace hF := Option.bind_eq_some_iff.mp hF
  obtain ⟨v1, hv1, hF⟩ := hF
  refine V.nm (Option.some.inj hv1) ?_
  refine V.istore_n 0 0 [(0, vi v1)] rfl dJ6_bitCount_0f7a4_9 (by decide) rfl ?_
  refine V.iload_n 0 0 0 rfl dJ6_bitCount_0f7a4_10 rfl ?_
  refine V.ldcw 266 858993459 858993459 (by decide) gw_867 dJ6_bitCount_0f7a4_11 ?_
  refine V.iand dJ6_bitCount_0f7a4_14 ?_
  refine V.iload_n 0 0 0 rfl dJ6_bitCount_0f7a4_15 rfl ?_
  refine V.iconst 2 dJ6_bitCount_0f7a4_16 ?_
  refine V.iushr dJ6_bitCount_0f7a4_17 ?_
  refine V.ldcw 266 858993459 858993459 (by decide) gw_867 dJ6_bitCount_0f7a4_18 ?_
  refine V.iand dJ6_bitCount_0f7a4_21 ?_
  refine V.iadd dJ6_bitCount_0f7a4_22 ?_
  replace hF := Option.bind_eq_some_iff.mp hF
  obtain ⟨v2, hv2, hF⟩ := hF
  refine V.nm (Option.some.inj hv2) ?_
  refine V.istore_n 0 0 [(0, vi v2)] rfl dJ6_bitCount_0f7a4_23 (by decide) rfl ?_
  refine V.iload_n 0 0 0 rfl dJ6_bitCount_0f7a4_24 rfl ?_
  refine V.iload_n 0 0 0 rfl dJ6_bitCount_0f7a4_25 rfl ?_
  refine V.iconst 4 dJ6_bitCount_0f7a4_26 ?_
  refine V.iushr dJ6_bitCount_0f7a4_27 ?_
  refine V.iadd dJ6_bitCount_0f7a4_28 ?_
  refine V.ldcw 267 252645135 252645135 (by decide) gw_868 dJ6_bitCount_0f7a4_29 ?_
  refine V.iand dJ6_bitCount_0f7a4_32 ?_
  replace hF := Option.bind_eq_some_iff.mp hF
  obtain ⟨v3, hv3, hF⟩ := hF
  refine V.nm (Option.some.inj hv3) ?_
  refine V.istore_n 0 0 [(0, vi v3)] rfl dJ6_bitCount_0f7a4_33 (by decide) rfl ?_
  refine V.iload_n 0 0 0 rfl dJ6_bitCount_0f7a4_34 rfl ?_
  refine V.iload_n 0 0 0 rfl dJ6_bitCount_0f7a4_35 rfl ?_
  refine V.bipush 8 8 (by decide) dJ6_bitCount_0f7a4_36 ?_
  refine V.iushr dJ6_bitCount_0f7a4_38 ?_
  refine V.iadd dJ6_bitCount_0f7a4_39 ?_
  refine V.istore_n 0 0 [(0, vi (v3 + (bUshr v3 8)))] rfl dJ6_bitCount_0f7a4_40 (by decide) rfl ?_
  refine V.iload_n 0 0 0 rfl dJ6_bitCount_0f7a4_41 rfl ?_
  refine V.iload_n 0 0 0 rfl dJ6_bitCount_0f7a4_42 rfl ?_
  refine V.bipush 16 16 (by decide) dJ6_bitCount_0f7a4_43 ?_
  refine V.iushr dJ6_bitCount_0f7a4_45 ?_
  refine V.iadd dJ6_bitCount_0f7a4_46 ?_
  replace hF := Option.bind_eq_some_iff.mp hF
  obtain ⟨v4, hv4, hF⟩ := hF
  refine V.nm (Option.some.inj hv4) ?_
  refine V.istore_n 0 0 [(0, vi v4)] rfl dJ6_bitCount_0f7a4_47 (by decide) rfl ?_
  refine V.iload_n 0 0 0 rfl dJ6_bitCount_0f7a4_48 rfl ?_
  refine V.bipush 63 63 (by decide) dJ6_bitCount_0f7a4_49 ?_
  refine V.iand dJ6_bitCount_0f7a4_51 ?_
  cases Option.some.inj hF
  exact V.iret rfl dJ6_bitCount_0f7a4_52 hK
theorem c_J6_bitCount_0f7a4 {E : En} {d : Nat} {x0 : Int} {M : Mem} {z : Int}  (hd : 1 ≤ d) (hF : f_J6_bitCount_0f7a4 x0 M = some z) : Cn E mJ6_bitCount_0f7a4 d [vi x0] M (fun v N => v = some (vi z) ∧ M = N) := by
  refine V.entry (by decide +kernel) (Nat.le_of_ble_eq_true rfl) ?_
  exact v_J6_bitCount_0f7a4_0  hd hF ⟨rfl, rfl⟩
