/-! constructors: walked by a program (gen_init.py) -/
abbrev mX0_init : MI := (yX0_init, cX0_init, 1, none)
theorem okX0_init : OKI mX0_init := ⟨gw_247, gw_62, gw_248, rfl, (by decide +kernel), (by decide), rfl⟩
theorem dfX0 : ∀ j, j < 3 → defaultValue (tyX0 j) = vp_V [.null, .null, vi 0] j := by
  intro j hj
  rcases (show j = 0 ∨ j = 1 ∨ j = 2 by omega) with rfl | rfl | rfl <;> rfl
abbrev mX1_init : MI := (yX1_init, cX1_init, 1, none)
theorem okX1_init : OKI mX1_init := ⟨gw_226, gw_61, gw_227, rfl, (by decide +kernel), (by decide), rfl⟩
theorem dfX1 : ∀ j, j < 4 → defaultValue (tyX1 j) = vp_V [.null, .null, .null, vi 0] j := by
  intro j hj
  rcases (show j = 0 ∨ j = 1 ∨ j = 2 ∨ j = 3 by omega) with rfl | rfl | rfl | rfl <;> rfl
abbrev mX2_init : MI := (yX2_init, cX2_init, 1, none)
theorem okX2_init : OKI mX2_init := ⟨gw_125, gw_60, gw_126, rfl, (by decide +kernel), (by decide), rfl⟩
theorem dfX2 : ∀ j, j < 19 → defaultValue (tyX2 j) = vp_V [.null, .null, .null, .null, vi 0, vi 0, vi 0, vi 0, vi 0, vi 0, vi 0, vi 0, vi 0, vi 0, vi 0, vi 0, vi 0, vi 0, vi 0] j := by
  intro j hj
  rcases (show j = 0 ∨ j = 1 ∨ j = 2 ∨ j = 3 ∨ j = 4 ∨ j = 5 ∨ j = 6 ∨ j = 7 ∨ j = 8 ∨ j = 9 ∨ j = 10 ∨ j = 11 ∨ j = 12 ∨ j = 13 ∨ j = 14 ∨ j = 15 ∨ j = 16 ∨ j = 17 ∨ j = 18 by omega) with rfl | rfl | rfl | rfl | rfl | rfl | rfl | rfl | rfl | rfl | rfl | rfl | rfl | rfl | rfl | rfl | rfl | rfl | rfl <;> rfl
abbrev mX3_init : MI := (yX3_init, cX3_init, 1, none)
theorem okX3_init : OKI mX3_init := ⟨gw_84, gw_59, gw_85, rfl, (by decide +kernel), (by decide), rfl⟩
theorem dfX3 : ∀ j, j < 10 → defaultValue (tyX3 j) = vp_V [.null, vi 0, vi 0, vi 0, .null, vi 0, vi 0, vi 0, vi 0, vi 0] j := by
  intro j hj
  rcases (show j = 0 ∨ j = 1 ∨ j = 2 ∨ j = 3 ∨ j = 4 ∨ j = 5 ∨ j = 6 ∨ j = 7 ∨ j = 8 ∨ j = 9 by omega) with rfl | rfl | rfl | rfl | rfl | rfl | rfl | rfl | rfl | rfl <;> rfl
abbrev mX4_init : MI := (yX4_init, cX4_init, 1, none)
theorem okX4_init : OKI mX4_init := ⟨gw_266, gw_63, gw_267, rfl, (by decide +kernel), (by decide), rfl⟩
theorem dfX4 : ∀ j, j < 3 → defaultValue (tyX4 j) = vp_V [.null, vi 0, vi 0] j := by
  intro j hj
  rcases (show j = 0 ∨ j = 1 ∨ j = 2 by omega) with rfl | rfl | rfl <;> rfl
abbrev mX5_init : MI := (yX5_init, cX5_init, 2, none)
theorem okX5_init : OKI mX5_init := ⟨gw_76, gw_58, gw_77, rfl, (by decide +kernel), (by decide), rfl⟩
theorem dfX5 : ∀ j, j < 9 → defaultValue (tyX5 j) = vp_V [.null, .null, .null, .null, .null, .null, .null, .null, vi 0] j := by
  intro j hj
  rcases (show j = 0 ∨ j = 1 ∨ j = 2 ∨ j = 3 ∨ j = 4 ∨ j = 5 ∨ j = 6 ∨ j = 7 ∨ j = 8 by omega) with rfl | rfl | rfl | rfl | rfl | rfl | rfl | rfl | rfl <;> rfl
abbrev mX6_init : MI := (yX6_init, cX6_init, 1, none)
theorem okX6_init : OKI mX6_init := ⟨gw_872, gw_64, gw_873, rfl, (by decide +kernel), (by decide), rfl⟩
theorem dfX6 : ∀ j, j < 28 → defaultValue (tyX6 j) = vp_V [.null, vi 0, .null, vi 0, .null, .null, vi 0, vi 0, vi 0, .null, vi 0, vi 0, vi 0, vi 0, vi 0, vi 0, vi 0, vi 0, .null, .null, .null, .null, vi 0, .null, .null, .null, .null, vi 0] j := by
  intro j hj
  rcases (show j = 0 ∨ j = 1 ∨ j = 2 ∨ j = 3 ∨ j = 4 ∨ j = 5 ∨ j = 6 ∨ j = 7 ∨ j = 8 ∨ j = 9 ∨ j = 10 ∨ j = 11 ∨ j = 12 ∨ j = 13 ∨ j = 14 ∨ j = 15 ∨ j = 16 ∨ j = 17 ∨ j = 18 ∨ j = 19 ∨ j = 20 ∨ j = 21 ∨ j = 22 ∨ j = 23 ∨ j = 24 ∨ j = 25 ∨ j = 26 ∨ j = 27 by omega) with rfl | rfl | rfl | rfl | rfl | rfl | rfl | rfl | rfl | rfl | rfl | rfl | rfl | rfl | rfl | rfl | rfl | rfl | rfl | rfl | rfl | rfl | rfl | rfl | rfl | rfl | rfl | rfl <;> rfl
theorem c_X2_appoint_i (E : En) (pre : va_W) (a : Nat) (fs : List Value) (tl : va_W) (x y : Int) (hl : fs.length = 19) : Ci E mX2_appoint 0 0 0 [Value.ref a, vi x, vi y] pre ((a, .inr (2, fs)) :: tl) (fun suf => suf = (a, .inr (2, (fs.set 13 (vi x)).set 14 (vi y))) :: tl) := by
  refine I.entry (by decide +kernel) (Nat.le_of_ble_eq_true rfl) ?_
  refine I.aload0 dX2_appoint_0 rfl ?_
  refine I.iload_n 1 1 1 rfl dX2_appoint_1 rfl ?_
  refine I.put (i := 0) (f := 13) (ty := .int) (suf' := (a, .inr (2, fs.set 13 (vi x))) :: tl) rfl rfl inX2 tyX2 tyX2_ok nmX2 (by decide) rfl (by decide +kernel) rfl rfl (by rw [hl]; decide) rfl gw_171 dX2_appoint_2 ?_
  refine I.aload0 dX2_appoint_5 rfl ?_
  refine I.iload_n 2 2 2 rfl dX2_appoint_6 rfl ?_
  refine I.put (i := 0) (f := 14) (ty := .int) (suf' := (a, .inr (2, (fs.set 13 (vi x)).set 14 (vi y))) :: tl) rfl rfl inX2 tyX2 tyX2_ok nmX2 (by decide) rfl (by decide +kernel) rfl rfl (by rw [List.length_set, hl]; decide) rfl gw_173 dX2_appoint_7 ?_
  exact I.vret rfl (by decide) (by decide) dX2_appoint_10 rfl
set_option maxRecDepth 20000 in
theorem c_X2_begin_i (E : En) (pre : va_W) (a : Nat) (w0 w1 w2 w3 : Value) (tl : va_W) : Ci E mX2_begin 1 0 0 [Value.ref a] pre ((a, .inr (2, [w0, w1, w2, w3, vi 0, vi 0, vi 0, vi 0, vi 0, vi 0, vi 0, vi 0, vi 0, vi 0, vi 0, vi 0, vi 0, vi 0, vi 0])) :: tl) (fun suf => suf = (a, .inr (2, [w0, w1, w2, w3, vi 0, vi 0, vi 0, vi 0, vi 40, vi 0, vi 0, vi 1, vi 1, vi 0, vi 0, vi 0, vi 0, vi 0, vi 0])) :: tl) := by
  refine I.entry (by decide +kernel) (Nat.le_of_ble_eq_true rfl) ?_
  refine I.aload0 dX2_begin_0 rfl ?_
  refine I.iconst 0 dX2_begin_1 ?_
  refine I.put (i := 0) (f := 4) (ty := .int) (suf' := ((a, .inr (2, [w0, w1, w2, w3, vi 0, vi 0, vi 0, vi 0, vi 0, vi 0, vi 0, vi 0, vi 0, vi 0, vi 0, vi 0, vi 0, vi 0, vi 0])) :: tl)) rfl rfl inX2 tyX2 tyX2_ok nmX2 (by decide) rfl (by decide +kernel) rfl rfl (Nat.le_of_ble_eq_true rfl) rfl gw_141 dX2_begin_2 ?_
  refine I.aload0 dX2_begin_5 rfl ?_
  refine I.iconst 0 dX2_begin_6 ?_
  refine I.put (i := 0) (f := 5) (ty := .int) (suf' := ((a, .inr (2, [w0, w1, w2, w3, vi 0, vi 0, vi 0, vi 0, vi 0, vi 0, vi 0, vi 0, vi 0, vi 0, vi 0, vi 0, vi 0, vi 0, vi 0])) :: tl)) rfl rfl inX2 tyX2 tyX2_ok nmX2 (by decide) rfl (by decide +kernel) rfl rfl (Nat.le_of_ble_eq_true rfl) rfl gw_144 dX2_begin_7 ?_
  refine I.aload0 dX2_begin_10 rfl ?_
  refine I.iconst 0 dX2_begin_11 ?_
  refine I.put (i := 0) (f := 6) (ty := .int) (suf' := ((a, .inr (2, [w0, w1, w2, w3, vi 0, vi 0, vi 0, vi 0, vi 0, vi 0, vi 0, vi 0, vi 0, vi 0, vi 0, vi 0, vi 0, vi 0, vi 0])) :: tl)) rfl rfl inX2 tyX2 tyX2_ok nmX2 (by decide) rfl (by decide +kernel) rfl rfl (Nat.le_of_ble_eq_true rfl) rfl gw_147 dX2_begin_12 ?_
  refine I.aload0 dX2_begin_15 rfl ?_
  refine I.iconst 0 dX2_begin_16 ?_
  refine I.put (i := 0) (f := 7) (ty := .int) (suf' := ((a, .inr (2, [w0, w1, w2, w3, vi 0, vi 0, vi 0, vi 0, vi 0, vi 0, vi 0, vi 0, vi 0, vi 0, vi 0, vi 0, vi 0, vi 0, vi 0])) :: tl)) rfl rfl inX2 tyX2 tyX2_ok nmX2 (by decide) rfl (by decide +kernel) rfl rfl (Nat.le_of_ble_eq_true rfl) rfl gw_150 dX2_begin_17 ?_
  refine I.aload0 dX2_begin_20 rfl ?_
  refine I.bipush 40 (by decide) dX2_begin_21 ?_
  refine I.put (i := 0) (f := 8) (ty := .int) (suf' := ((a, .inr (2, [w0, w1, w2, w3, vi 0, vi 0, vi 0, vi 0, vi 40, vi 0, vi 0, vi 0, vi 0, vi 0, vi 0, vi 0, vi 0, vi 0, vi 0])) :: tl)) rfl rfl inX2 tyX2 tyX2_ok nmX2 (by decide) rfl (by decide +kernel) rfl rfl (Nat.le_of_ble_eq_true rfl) rfl gw_154 dX2_begin_23 ?_
  refine I.aload0 dX2_begin_26 rfl ?_
  refine I.iconst 0 dX2_begin_27 ?_
  refine I.put (i := 0) (f := 9) (ty := .int) (suf' := ((a, .inr (2, [w0, w1, w2, w3, vi 0, vi 0, vi 0, vi 0, vi 40, vi 0, vi 0, vi 0, vi 0, vi 0, vi 0, vi 0, vi 0, vi 0, vi 0])) :: tl)) rfl rfl inX2 tyX2 tyX2_ok nmX2 (by decide) rfl (by decide +kernel) rfl rfl (Nat.le_of_ble_eq_true rfl) rfl gw_158 dX2_begin_28 ?_
  refine I.aload0 dX2_begin_31 rfl ?_
  refine I.iconst 0 dX2_begin_32 ?_
  refine I.put (i := 0) (f := 10) (ty := .int) (suf' := ((a, .inr (2, [w0, w1, w2, w3, vi 0, vi 0, vi 0, vi 0, vi 40, vi 0, vi 0, vi 0, vi 0, vi 0, vi 0, vi 0, vi 0, vi 0, vi 0])) :: tl)) rfl rfl inX2 tyX2 tyX2_ok nmX2 (by decide) rfl (by decide +kernel) rfl rfl (Nat.le_of_ble_eq_true rfl) rfl gw_162 dX2_begin_33 ?_
  refine I.aload0 dX2_begin_36 rfl ?_
  refine I.iconst 1 dX2_begin_37 ?_
  refine I.put (i := 0) (f := 11) (ty := .int) (suf' := ((a, .inr (2, [w0, w1, w2, w3, vi 0, vi 0, vi 0, vi 0, vi 40, vi 0, vi 0, vi 1, vi 0, vi 0, vi 0, vi 0, vi 0, vi 0, vi 0])) :: tl)) rfl rfl inX2 tyX2 tyX2_ok nmX2 (by decide) rfl (by decide +kernel) rfl rfl (Nat.le_of_ble_eq_true rfl) rfl gw_165 dX2_begin_38 ?_
  refine I.aload0 dX2_begin_41 rfl ?_
  refine I.iconst 1 dX2_begin_42 ?_
  refine I.put (i := 0) (f := 12) (ty := .int) (suf' := ((a, .inr (2, [w0, w1, w2, w3, vi 0, vi 0, vi 0, vi 0, vi 40, vi 0, vi 0, vi 1, vi 1, vi 0, vi 0, vi 0, vi 0, vi 0, vi 0])) :: tl)) rfl rfl inX2 tyX2 tyX2_ok nmX2 (by decide) rfl (by decide +kernel) rfl rfl (Nat.le_of_ble_eq_true rfl) rfl gw_168 dX2_begin_43 ?_
  refine I.aload0 dX2_begin_46 rfl ?_
  refine I.iconst 0 dX2_begin_47 ?_
  refine I.iconst 0 dX2_begin_48 ?_
  refine I.callV (i := 0) [vi 0, vi 0] (c_X2_appoint_i E pre _ _ _ 0 0 rfl) okX2_appoint gw_132 rfl rfl rfl rfl (Nat.le_of_ble_eq_true rfl) (by decide) (by decide) (by decide) dX2_begin_49 (fun sf hq => ?_)
  subst hq
  refine I.aload0 dX2_begin_52 rfl ?_
  refine I.iconst 0 dX2_begin_53 ?_
  refine I.put (i := 0) (f := 15) (ty := .int) (suf' := ((a, .inr (2, [w0, w1, w2, w3, vi 0, vi 0, vi 0, vi 0, vi 40, vi 0, vi 0, vi 1, vi 1, vi 0, vi 0, vi 0, vi 0, vi 0, vi 0])) :: tl)) rfl rfl inX2 tyX2 tyX2_ok nmX2 (by decide) rfl (by decide +kernel) rfl rfl (Nat.le_of_ble_eq_true rfl) rfl gw_175 dX2_begin_54 ?_
  refine I.aload0 dX2_begin_57 rfl ?_
  refine I.iconst 0 dX2_begin_58 ?_
  refine I.put (i := 0) (f := 16) (ty := .int) (suf' := ((a, .inr (2, [w0, w1, w2, w3, vi 0, vi 0, vi 0, vi 0, vi 40, vi 0, vi 0, vi 1, vi 1, vi 0, vi 0, vi 0, vi 0, vi 0, vi 0])) :: tl)) rfl rfl inX2 tyX2 tyX2_ok nmX2 (by decide) rfl (by decide +kernel) rfl rfl (Nat.le_of_ble_eq_true rfl) rfl gw_178 dX2_begin_59 ?_
  refine I.aload0 dX2_begin_62 rfl ?_
  refine I.iconst 0 dX2_begin_63 ?_
  refine I.put (i := 0) (f := 17) (ty := .int) (suf' := ((a, .inr (2, [w0, w1, w2, w3, vi 0, vi 0, vi 0, vi 0, vi 40, vi 0, vi 0, vi 1, vi 1, vi 0, vi 0, vi 0, vi 0, vi 0, vi 0])) :: tl)) rfl rfl inX2 tyX2 tyX2_ok nmX2 (by decide) rfl (by decide +kernel) rfl rfl (Nat.le_of_ble_eq_true rfl) rfl gw_180 dX2_begin_64 ?_
  refine I.aload0 dX2_begin_67 rfl ?_
  refine I.iconst 0 dX2_begin_68 ?_
  refine I.put (i := 0) (f := 18) (ty := .int) (suf' := ((a, .inr (2, [w0, w1, w2, w3, vi 0, vi 0, vi 0, vi 0, vi 40, vi 0, vi 0, vi 1, vi 1, vi 0, vi 0, vi 0, vi 0, vi 0, vi 0])) :: tl)) rfl rfl inX2 tyX2 tyX2_ok nmX2 (by decide) rfl (by decide +kernel) rfl rfl (Nat.le_of_ble_eq_true rfl) rfl gw_182 dX2_begin_69 ?_
  exact I.vret rfl (by decide) (by decide) dX2_begin_72 rfl
set_option maxRecDepth 20000 in
set_option maxHeartbeats 4000000 in
theorem c_X0_init (E : En) (pre : va_W) {a : Nat} : Ci E mX0_init 1 2 12 [Value.ref a] pre [(a, .inr (0, [.null, .null, vi 0]))] (fun suf => ∃ q1 : Nat, ∃ q2 : Nat, suf = [(a, .inr (0, [.ref q1, .ref q2, vi 0])), (q1, arI E 6 zr), (q2, arI E 6 zr)]) := by
  refine I.entry (by decide +kernel) (Nat.le_of_ble_eq_true rfl) ?_
  refine I.aload0 dX0_init_0 rfl ?_
  refine I.objInit gw_249 gw_79 gw_80 (by decide) (Nat.le_of_ble_eq_true rfl) dX0_init_1 ?_
  refine I.aload0 dX0_init_4 rfl ?_
  refine I.bipush 6 (by decide) dX0_init_5 ?_
  refine I.newI (N := 6) (by decide) (by decide) (by decide) gw_121 (by decide) (by decide) dX0_init_7 (fun q1 => ?_)
  refine I.putF (i := 0) (f := 0) (ty := (.array .int)) (suf' := [(a, .inr (0, [.ref q1, .null, vi 0])), (q1, arI E 6 zr)]) rfl rfl inX0 tyX0 tyX0_ok nmX0 (by decide) rfl rfl rfl (by decide +kernel) rfl rfl (Nat.le_of_ble_eq_true rfl) rfl gw_250 dX0_init_9 ?_
  refine I.aload0 dX0_init_12 rfl ?_
  refine I.bipush 6 (by decide) dX0_init_13 ?_
  refine I.newI (N := 6) (by decide) (by decide) (by decide) gw_121 (by decide) (by decide) dX0_init_15 (fun q2 => ?_)
  refine I.putF (i := 0) (f := 1) (ty := (.array .int)) (suf' := [(a, .inr (0, [.ref q1, .ref q2, vi 0])), (q1, arI E 6 zr), (q2, arI E 6 zr)]) rfl rfl inX0 tyX0 tyX0_ok nmX0 (by decide) rfl rfl rfl (by decide +kernel) rfl rfl (Nat.le_of_ble_eq_true rfl) rfl gw_251 dX0_init_17 ?_
  exact I.vret rfl (by decide) (by decide) dX0_init_20 ⟨q1, q2, rfl⟩
set_option maxRecDepth 20000 in
set_option maxHeartbeats 4000000 in
theorem c_X1_init (E : En) (pre : va_W) {a : Nat} : Ci E mX1_init 1 8 293 [Value.ref a] pre [(a, .inr (1, [.null, .null, .null, vi 0]))] (fun suf => ∃ q1 : Nat, ∃ rr : Nat → Nat, ∃ q2 : Nat, suf = [(a, .inr (1, [.ref q1, .ref q2, .null, vi 0])), (q1, arR E 5 6 (fun i => if i < 6 then some (rr i) else none)), (rr 0, arI E 41 zr), (rr 1, arI E 41 zr), (rr 2, arI E 41 zr), (rr 3, arI E 41 zr), (rr 4, arI E 41 zr), (rr 5, arI E 41 zr), (q2, arI E 41 zr)]) := by
  refine I.entry (by decide +kernel) (Nat.le_of_ble_eq_true rfl) ?_
  refine I.aload0 dX1_init_0 rfl ?_
  refine I.objInit gw_228 gw_79 gw_80 (by decide) (Nat.le_of_ble_eq_true rfl) dX1_init_1 ?_
  refine I.aload0 dX1_init_4 rfl ?_
  refine I.bipush 6 (by decide) dX1_init_5 ?_
  refine I.bipush 41 (by decide) dX1_init_7 ?_
  refine I.mna (N := 6) (K := 41) (by decide) (by decide) (by decide) (by decide) (by decide) (by decide) (by decide) gw_229 gw_121 (by decide) (by decide) dX1_init_9 (fun q1 rr => ?_)
  refine I.putF (i := 0) (f := 0) (ty := (.array (.array .int))) (suf' := [(a, .inr (1, [.ref q1, .null, .null, vi 0])), (q1, arR E 5 6 (fun i => if i < 6 then some (rr i) else none)), (rr 0, arI E 41 zr), (rr 1, arI E 41 zr), (rr 2, arI E 41 zr), (rr 3, arI E 41 zr), (rr 4, arI E 41 zr), (rr 5, arI E 41 zr)]) rfl rfl inX1 tyX1 tyX1_ok nmX1 (by decide) rfl rfl rfl (by decide +kernel) rfl rfl (Nat.le_of_ble_eq_true rfl) rfl gw_231 dX1_init_13 ?_
  refine I.aload0 dX1_init_16 rfl ?_
  refine I.bipush 41 (by decide) dX1_init_17 ?_
  refine I.newI (N := 41) (by decide) (by decide) (by decide) gw_121 (by decide) (by decide) dX1_init_19 (fun q2 => ?_)
  refine I.putF (i := 0) (f := 1) (ty := (.array .int)) (suf' := [(a, .inr (1, [.ref q1, .ref q2, .null, vi 0])), (q1, arR E 5 6 (fun i => if i < 6 then some (rr i) else none)), (rr 0, arI E 41 zr), (rr 1, arI E 41 zr), (rr 2, arI E 41 zr), (rr 3, arI E 41 zr), (rr 4, arI E 41 zr), (rr 5, arI E 41 zr), (q2, arI E 41 zr)]) rfl rfl inX1 tyX1 tyX1_ok nmX1 (by decide) rfl rfl rfl (by decide +kernel) rfl rfl (Nat.le_of_ble_eq_true rfl) rfl gw_232 dX1_init_21 ?_
  exact I.vret rfl (by decide) (by decide) dX1_init_24 ⟨q1, rr, q2, rfl⟩
set_option maxRecDepth 20000 in
set_option maxHeartbeats 4000000 in
theorem c_X2_init (E : En) (pre : va_W) {a : Nat} : Ci E mX2_init 2 4 16 [Value.ref a] pre [(a, .inr (2, [.null, .null, .null, .null, vi 0, vi 0, vi 0, vi 0, vi 0, vi 0, vi 0, vi 0, vi 0, vi 0, vi 0, vi 0, vi 0, vi 0, vi 0]))] (fun suf => ∃ q1 : Nat, ∃ q2 : Nat, ∃ q3 : Nat, ∃ q4 : Nat, suf = [(a, .inr (2, [.ref q1, .ref q2, .ref q3, .ref q4, vi 0, vi 0, vi 0, vi 0, vi 40, vi 0, vi 0, vi 1, vi 1, vi 0, vi 0, vi 0, vi 0, vi 0, vi 0])), (q1, arI E 4 zr), (q2, arI E 4 zr), (q3, arI E 4 zr), (q4, arI E 4 zr)]) := by
  refine I.entry (by decide +kernel) (Nat.le_of_ble_eq_true rfl) ?_
  refine I.aload0 dX2_init_0 rfl ?_
  refine I.objInit gw_127 gw_79 gw_80 (by decide) (Nat.le_of_ble_eq_true rfl) dX2_init_1 ?_
  refine I.aload0 dX2_init_4 rfl ?_
  refine I.iconst 4 dX2_init_5 ?_
  refine I.newI (N := 4) (by decide) (by decide) (by decide) gw_121 (by decide) (by decide) dX2_init_6 (fun q1 => ?_)
  refine I.putF (i := 0) (f := 0) (ty := (.array .int)) (suf' := [(a, .inr (2, [.ref q1, .null, .null, .null, vi 0, vi 0, vi 0, vi 0, vi 0, vi 0, vi 0, vi 0, vi 0, vi 0, vi 0, vi 0, vi 0, vi 0, vi 0])), (q1, arI E 4 zr)]) rfl rfl inX2 tyX2 tyX2_ok nmX2 (by decide) rfl rfl rfl (by decide +kernel) rfl rfl (Nat.le_of_ble_eq_true rfl) rfl gw_136 dX2_init_8 ?_
  refine I.aload0 dX2_init_11 rfl ?_
  refine I.iconst 4 dX2_init_12 ?_
  refine I.newI (N := 4) (by decide) (by decide) (by decide) gw_121 (by decide) (by decide) dX2_init_13 (fun q2 => ?_)
  refine I.putF (i := 0) (f := 1) (ty := (.array .int)) (suf' := [(a, .inr (2, [.ref q1, .ref q2, .null, .null, vi 0, vi 0, vi 0, vi 0, vi 0, vi 0, vi 0, vi 0, vi 0, vi 0, vi 0, vi 0, vi 0, vi 0, vi 0])), (q1, arI E 4 zr), (q2, arI E 4 zr)]) rfl rfl inX2 tyX2 tyX2_ok nmX2 (by decide) rfl rfl rfl (by decide +kernel) rfl rfl (Nat.le_of_ble_eq_true rfl) rfl gw_137 dX2_init_15 ?_
  refine I.aload0 dX2_init_18 rfl ?_
  refine I.iconst 4 dX2_init_19 ?_
  refine I.newI (N := 4) (by decide) (by decide) (by decide) gw_121 (by decide) (by decide) dX2_init_20 (fun q3 => ?_)
  refine I.putF (i := 0) (f := 2) (ty := (.array .int)) (suf' := [(a, .inr (2, [.ref q1, .ref q2, .ref q3, .null, vi 0, vi 0, vi 0, vi 0, vi 0, vi 0, vi 0, vi 0, vi 0, vi 0, vi 0, vi 0, vi 0, vi 0, vi 0])), (q1, arI E 4 zr), (q2, arI E 4 zr), (q3, arI E 4 zr)]) rfl rfl inX2 tyX2 tyX2_ok nmX2 (by decide) rfl rfl rfl (by decide +kernel) rfl rfl (Nat.le_of_ble_eq_true rfl) rfl gw_138 dX2_init_22 ?_
  refine I.aload0 dX2_init_25 rfl ?_
  refine I.iconst 4 dX2_init_26 ?_
  refine I.newI (N := 4) (by decide) (by decide) (by decide) gw_121 (by decide) (by decide) dX2_init_27 (fun q4 => ?_)
  refine I.putF (i := 0) (f := 3) (ty := (.array .int)) (suf' := [(a, .inr (2, [.ref q1, .ref q2, .ref q3, .ref q4, vi 0, vi 0, vi 0, vi 0, vi 0, vi 0, vi 0, vi 0, vi 0, vi 0, vi 0, vi 0, vi 0, vi 0, vi 0])), (q1, arI E 4 zr), (q2, arI E 4 zr), (q3, arI E 4 zr), (q4, arI E 4 zr)]) rfl rfl inX2 tyX2 tyX2_ok nmX2 (by decide) rfl rfl rfl (by decide +kernel) rfl rfl (Nat.le_of_ble_eq_true rfl) rfl gw_139 dX2_init_29 ?_
  refine I.aload0 dX2_init_32 rfl ?_
  refine I.callV (i := 0) [] (c_X2_begin_i E pre _ _ _ _ _ _) okX2_begin gw_128 rfl rfl rfl rfl (Nat.le_of_ble_eq_true rfl) (by decide) (by decide) (by decide) dX2_init_33 (fun sf hq => ?_)
  subst hq
  exact I.vret rfl (by decide) (by decide) dX2_init_36 ⟨q1, q2, q3, q4, rfl⟩
set_option maxRecDepth 20000 in
set_option maxHeartbeats 4000000 in
theorem c_X3_init (E : En) (pre : va_W) {a : Nat} : Ci E mX3_init 1 1 160 [Value.ref a] pre [(a, .inr (3, [.null, vi 0, vi 0, vi 0, .null, vi 0, vi 0, vi 0, vi 0, vi 0]))] (fun suf => ∃ q1 : Nat, suf = [(a, .inr (3, [.ref q1, vi 0, vi 0, vi 0, .null, vi 0, vi 0, vi 0, vi 0, vi 0])), (q1, arI E 160 zr)]) := by
  refine I.entry (by decide +kernel) (Nat.le_of_ble_eq_true rfl) ?_
  refine I.aload0 dX3_init_0 rfl ?_
  refine I.objInit gw_86 gw_79 gw_80 (by decide) (Nat.le_of_ble_eq_true rfl) dX3_init_1 ?_
  refine I.aload0 dX3_init_4 rfl ?_
  refine I.sipush 160 (by decide) dX3_init_5 ?_
  refine I.newI (N := 160) (by decide) (by decide) (by decide) gw_121 (by decide) (by decide) dX3_init_8 (fun q1 => ?_)
  refine I.putF (i := 0) (f := 0) (ty := (.array .int)) (suf' := [(a, .inr (3, [.ref q1, vi 0, vi 0, vi 0, .null, vi 0, vi 0, vi 0, vi 0, vi 0])), (q1, arI E 160 zr)]) rfl rfl inX3 tyX3 tyX3_ok nmX3 (by decide) rfl rfl rfl (by decide +kernel) rfl rfl (Nat.le_of_ble_eq_true rfl) rfl gw_87 dX3_init_10 ?_
  exact I.vret rfl (by decide) (by decide) dX3_init_13 ⟨q1, rfl⟩
set_option maxRecDepth 20000 in
set_option maxHeartbeats 4000000 in
theorem c_X4_init (E : En) (pre : va_W) {a : Nat} : Ci E mX4_init 1 1 40 [Value.ref a] pre [(a, .inr (4, [.null, vi 0, vi 0]))] (fun suf => ∃ q1 : Nat, suf = [(a, .inr (4, [.ref q1, vi (-1), vi 0])), (q1, arI E 40 zr)]) := by
  refine I.entry (by decide +kernel) (Nat.le_of_ble_eq_true rfl) ?_
  refine I.aload0 dX4_init_0 rfl ?_
  refine I.objInit gw_268 gw_79 gw_80 (by decide) (Nat.le_of_ble_eq_true rfl) dX4_init_1 ?_
  refine I.aload0 dX4_init_4 rfl ?_
  refine I.bipush 40 (by decide) dX4_init_5 ?_
  refine I.newI (N := 40) (by decide) (by decide) (by decide) gw_121 (by decide) (by decide) dX4_init_7 (fun q1 => ?_)
  refine I.putF (i := 0) (f := 0) (ty := (.array .int)) (suf' := [(a, .inr (4, [.ref q1, vi 0, vi 0])), (q1, arI E 40 zr)]) rfl rfl inX4 tyX4 tyX4_ok nmX4 (by decide) rfl rfl rfl (by decide +kernel) rfl rfl (Nat.le_of_ble_eq_true rfl) rfl gw_269 dX4_init_9 ?_
  refine I.aload0 dX4_init_12 rfl ?_
  refine I.iconst (-1) dX4_init_13 ?_
  refine I.put (i := 0) (f := 1) (ty := .int) (suf' := [(a, .inr (4, [.ref q1, vi (-1), vi 0])), (q1, arI E 40 zr)]) rfl rfl inX4 tyX4 tyX4_ok nmX4 (by decide) rfl (by decide +kernel) rfl rfl (Nat.le_of_ble_eq_true rfl) rfl gw_271 dX4_init_14 ?_
  exact I.vret rfl (by decide) (by decide) dX4_init_17 ⟨q1, rfl⟩
