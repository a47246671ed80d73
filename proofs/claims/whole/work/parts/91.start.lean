/-! the law from its entry -/
theorem st_classes {s : State} {args : Array Value} (hts : ∀ w ∈ lw_tbl, w.before args s = true) : ∃ (dC : Nat → ClassId) (dI : Nat → Nat → Nat), ∀ (k : Nat) (q : vw_C), vwCl[k]? = some q → u_Kn s q.1 q.2.1 q.2.2 (dC k) (dI k) := by
  obtain ⟨c0, i0, h0⟩ := u_known (C := RX0) (T := TX0) (N := 3) (n := 3) hts (fun w hw => (inX0 w hw).1) (hts _ gw_245.1)
  obtain ⟨c1, i1, h1⟩ := u_known (C := RX1) (T := TX1) (N := 4) (n := 4) hts (fun w hw => (inX1 w hw).1) (hts _ gw_224.1)
  obtain ⟨c2, i2, h2⟩ := u_known (C := RX2) (T := TX2) (N := 19) (n := 19) hts (fun w hw => (inX2 w hw).1) (hts _ gw_123.1)
  obtain ⟨c3, i3, h3⟩ := u_known (C := RX3) (T := TX3) (N := 10) (n := 10) hts (fun w hw => (inX3 w hw).1) (hts _ gw_82.1)
  obtain ⟨c4, i4, h4⟩ := u_known (C := RX4) (T := TX4) (N := 3) (n := 3) hts (fun w hw => (inX4 w hw).1) (hts _ gw_264.1)
  obtain ⟨c5, i5, h5⟩ := u_known (C := RX5) (T := TX5) (N := 9) (n := 9) hts (fun w hw => (inX5 w hw).1) (hts _ gw_74.1)
  obtain ⟨c6, i6, h6⟩ := u_known (C := RX6) (T := TX6) (N := 28) (n := 28) hts (fun w hw => (inX6 w hw).1) (hts _ gw_870.1)
  refine ⟨fun k => match k with | 0 => c0 | 1 => c1 | 2 => c2 | 3 => c3 | 4 => c4 | 5 => c5 | _ => c6, fun k => match k with | 0 => i0 | 1 => i1 | 2 => i2 | 3 => i3 | 4 => i4 | 5 => i5 | _ => i6, ?_⟩
  intro k q hq
  match k, hq with
  | 0, hq => cases hq; exact h0
  | 1, hq => cases hq; exact h1
  | 2, hq => cases hq; exact h2
  | 3, hq => cases hq; exact h3
  | 4, hq => cases hq; exact h4
  | 5, hq => cases hq; exact h5
  | 6, hq => cases hq; exact h6
  | k + 7, hq => simp [vwCl] at hq
abbrev ta (f : Nat → ClassId) : List (ClassId × FieldType) := [(f 0, .int), (f 1, .boolean), (f 2, .long), (f 3, .object "FatLean$Court"), (f 4, .object "FatLean$Sheet"), (f 5, .array .int)]
theorem in_c : Cond.arrayOver (.object "FatLean$Court") ∈ lw_tbl := by decide +kernel
theorem in_s : Cond.arrayOver (.object "FatLean$Sheet") ∈ lw_tbl := by decide +kernel
theorem in_a : Cond.arrayOver (.array .int) ∈ lw_tbl := by decide +kernel
theorem st_arrays {s : State} {args : Array Value} (hts : ∀ w ∈ lw_tbl, w.before args s = true) : ∃ dA : Nat → ClassId, ∀ (k : Nat) (q : ClassId × FieldType), (ta dA)[k]? = some q → ArrOfT s q.1 q.2 ∧ va_RA s q.1 q.2 := by
  obtain ⟨c0, k0, m0, f0, g0, e0⟩ := Cond.arrayClass_spec (hts _ gw_121.1)
  obtain ⟨c1, k1, m1, f1, g1, e1⟩ := Cond.arrayClass_spec (hts _ gw_281.1)
  obtain ⟨c2, k2, m2, f2, g2, e2⟩ := Cond.arrayClass_spec (hts _ gw_960.1)
  obtain ⟨m3, c3, k3, a3, b3, g3, e3, f3⟩ := Cond.arrayOver_spec (hts _ in_c)
  obtain ⟨m4, c4, k4, a4, b4, g4, e4, f4⟩ := Cond.arrayOver_spec (hts _ in_s)
  obtain ⟨m5, c5, k5, a5, g5, e5, f5⟩ := gd_over (hts _ in_a)
  refine ⟨fun k => match k with | 0 => c0 | 1 => c1 | 2 => c2 | 3 => c3 | 4 => c4 | _ => c5, ?_⟩
  intro k q hq
  match k, hq with
  | 0, hq => cases hq; exact ⟨fun n z => ⟨fun k h => (by cases h), k0, g0, m0, e0⟩, f0⟩
  | 1, hq => cases hq; exact ⟨fun n z => ⟨fun k h => (by cases h), k1, g1, m1, e1⟩, f1⟩
  | 2, hq => cases hq; exact ⟨fun n z => ⟨fun k h => (by cases h), k2, g2, m2, e2⟩, f2⟩
  | 3, hq => cases hq; exact ⟨fun n z => ⟨fun k h => (by cases h), k3, g3, m3, e3⟩, k3, m3, g3, e3, a3, f3⟩
  | 4, hq => cases hq; exact ⟨fun n z => ⟨fun k h => (by cases h), k4, g4, m4, e4⟩, k4, m4, g4, e4, a4, f4⟩
  | 5, hq => cases hq; exact ⟨fun n z => ⟨fun k h => (by cases h), k5, g5, m5, e5⟩, f5⟩
  | k + 6, hq => simp at hq
def tmS (i : Nat) : Term := .string "FatLean$Scribe" ((strl.getD i (0, "")).1)
abbrev gvn : List Cond := flatC (Jvm.Cond.and given_1 narrow_1)
theorem g_ex : ∀ i : Fin 11, Cond.exactly (tmS i.val) "java/lang/String" ∈ gvn := by decide +kernel
theorem g_co : ∀ i : Fin 11, Cond.eq (.field (tmS i.val) "java/lang/String" "coder" "B") (.int 0) ∈ gvn := by decide +kernel
theorem g_ar : ∀ i : Fin 11, Cond.arrayOf (.field (tmS i.val) "java/lang/String" "value" "[B") .byte ∈ gvn := by decide +kernel
theorem g_le : ∀ i : Fin 11, Cond.eq (.length (.field (tmS i.val) "java/lang/String" "value" "[B")) (.int (Int32.ofNat (lenS.getD i.val 0))) ∈ gvn := by decide +kernel
theorem g_el : ∀ i : Fin 11, ∀ j : Fin 7, j.val < lenS.getD i.val 0 → Cond.eq (.elem (.field (tmS i.val) "java/lang/String" "value" "[B") (.int (Int32.ofNat j.val))) (.int ((bytS.getD i.val []).getD j.val 0)) ∈ gvn := by decide +kernel
theorem g_ne : ∀ i j : Fin 11, i ≠ j → Cond.not (Cond.eq (tmS i.val) (tmS j.val)) ∈ gvn ∨ Cond.not (Cond.eq (tmS j.val) (tmS i.val)) ∈ gvn := by decide +kernel
theorem g_l7 : ∀ i : Fin 11, lenS.getD i.val 0 ≤ 7 := by decide +kernel
theorem g_sr : ∀ i : Fin 11, Cond.stringRef "FatLean$Scribe" (strl.getD i.val (0, "")).1 (strl.getD i.val (0, "")).2 ∈ lw_tbl := by decide +kernel
theorem g_cs : Cond.eq (.static "java/lang/String" "COMPACT_STRINGS" "Z") (.int 1) ∈ gvn := by decide +kernel
theorem g_si : Cond.isRef (.static "jdk/internal/util/Preconditions" "SIOOBE_FORMATTER" "Ljava/util/function/BiFunction;") ∈ gvn := by decide +kernel
theorem g_lc : Cond.laysStatic "java/lang/String" "COMPACT_STRINGS" "Z" ∈ lw_tbl := by decide +kernel
theorem g_ls : Cond.laysStatic "jdk/internal/util/Preconditions" "SIOOBE_FORMATTER" "Ljava/util/function/BiFunction;" ∈ lw_tbl := by decide +kernel
theorem g_ic : Cond.initialized "java/lang/String" ∈ lw_tbl := by decide +kernel
theorem g_is : Cond.initialized "jdk/internal/util/Preconditions" ∈ lw_tbl := by decide +kernel
theorem g_nw : ∀ q ∈ nwl, Cond.methodLinkNest q.1 q.2.1 q.2.2.1 q.2.2.2 ∈ lw_tbl := by decide +kernel
theorem st_strings {s : State} {args : Array Value} {A : Nat → Prop} (hts : ∀ w ∈ lw_tbl, w.before args s = true) (hgv : (Jvm.Cond.and given_1 narrow_1).before args s = true) (hA : ∀ a : Nat, a < s.heap.size → ¬ A a) : ∃ aK aV : Nat → Nat, vk_S 11 lenS bytS aK aV A s s.heap ∧ ∀ (i : Nat) (q : Nat × String), strl[i]? = some q → vk_R "FatLean$Scribe" q.1 q.2 (aK i) s := by
  have hs := flat_of_before _ hgv
  obtain ⟨aK, aV, h1, h2⟩ := vk_Sof (args := args) (s := s) (N := 11) (tm := tmS) (len := lenS) (byt := bytS) (A := A) (fun i hi => by have := g_l7 ⟨i, hi⟩; dsimp only at this; omega) (fun i hi => hs _ (g_ex ⟨i, hi⟩)) (fun i hi => hs _ (g_co ⟨i, hi⟩)) (fun i hi => hs _ (g_ar ⟨i, hi⟩)) (fun i hi => hs _ (g_le ⟨i, hi⟩)) (fun i hi j hj => hs _ (g_el ⟨i, hi⟩ ⟨j, by have := g_l7 ⟨i, hi⟩; dsimp only at this; omega⟩ hj)) (fun i j hi hj hij => (g_ne ⟨i, hi⟩ ⟨j, hj⟩ (fun z => hij (by simpa using z))).elim (fun z => Or.inl (hs _ z)) (fun z => Or.inr (hs _ z))) hA
  refine ⟨aK, aV, h1, fun i q hq => ?_⟩
  have hi : i < 11 := (List.getElem?_eq_some_iff.mp hq).1
  have eq : strl.getD i (0, "") = q := by rw [List.getD_eq_getElem?_getD, hq]; rfl
  have a := h2 i hi
  have b := hts _ (g_sr ⟨i, hi⟩)
  unfold tmS at a
  dsimp only at b
  rw [eq] at a b
  exact vk_R.of b a
abbrev eZ (l : Launch) (B : Nat) (D : va_G) (dA : Nat → ClassId) (ad aK aV : Nat → Nat) : En := (l, B, D, dA, ad, aK, aV)
set_option maxRecDepth 100000 in
set_option maxHeartbeats 4000000 in
theorem whole_start {p : Program} {e : Env} {s : State} {m : MethodId} {below : List Frame} {meth : Method} {c : Code} (l : Launch) {b L : Nat} {xs : Nat → Int32} (hL : L ≤ 320) (C0 : lw_At p s m meth c b L xs) : W p l e room_1 s m #[Value.ref b] below meth c s.heap [] 0 0 (lw_Z below #[Value.ref b] s) (entryFrame m ([Value.ref b] : List Value).toArray 4) := by
  obtain ⟨hx, hb, hr, hml, hown, hts, hX, hbl, hlocks, hgv⟩ := id C0
  obtain ⟨dC, dI, hKc⟩ := st_classes hts
  obtain ⟨dA, hKa⟩ := st_arrays hts
  have hA0 : ∀ a : Nat, a < s.heap.size → ¬ (fun q : Nat => s.heap.size ≤ q) a := fun a h => Nat.not_le.mpr h
  obtain ⟨aK, aV, hvS, hvR⟩ := st_strings (A := fun q : Nat => s.heap.size ≤ q) hts hgv hA0
  have hs := flat_of_before _ hgv
  have hZ1 := va_Zof (A := fun q : Nat => s.heap.size ≤ q) (hts _ g_lc) (hts _ g_ic) (va_eqi (hs _ g_cs)) hA0
  have hZ2 := va_Zqof (A := fun q : Nat => s.heap.size ≤ q) (hts _ g_ls) (hts _ g_is) (hs _ g_si) hA0
  have hGW : ∀ w, GW w → ∀ a : Array Value, w.before a s = true := fun w hw a => word_at (State.WarmedH.refl s) (good_of_word hw.2) (hts w hw.1)
  have hNW : ∀ q ∈ nwl, va_Nw (.methodLinkNest q.1 q.2.1 q.2.2.1 q.2.2.2) s := fun q hq => va_Nw.of rfl (hts _ (g_nw q hq))
  generalize hE0 : eZ l s.heap.size (dC, dI) dA (fun _ => 0) aK aV = E0
  have eL0 : eL E0 = l := by rw [← hE0]
  have eB0 : eB E0 = s.heap.size := by rw [← hE0]
  have eD0 : eD E0 = (dC, dI) := by rw [← hE0]
  have eC0 : eC E0 = dA := by rw [← hE0]
  have hK : va_K (eD E0) vwCl (tys E0) s := by rw [← hE0]; exact ⟨hKc, hKa⟩
  have hG : SG E0 s := ⟨hK, hGW, hNW, by rw [eB0]; exact Nat.le_refl _, va_AO.of (hts _ in_c), va_AO.of (hts _ in_s), (hts _ in_a)⟩
  have hA : ∀ q : Nat, s.heap.size ≤ q → AA E0 q := fun q h => by show eB E0 ≤ q; rw [eB0]; exact h
  have hS : va_S (AA E0) s.heap s.heap [] := va_S.rf
  have hP : va_P (eD E0) vwCl [] s.heap := fun k q h => by simp at h
  have hD : va_D (AA E0) [] := ⟨fun i j p q h => by simp at h, fun k q h => by simp at h⟩
  have hl := lv_entry ([.ref b]) (n := 4) (Nat.le_of_ble_eq_true rfl)
  rw [lg_entry_eq]
  generalize (lg_sl ([.ref b]) ++ List.replicate (4 - (lg_sl ([.ref b])).length) Slot.unset).toArray = ls at hl ⊢
  have hl : lv_has ls 4 [(0, .ref b)] := hl
  rw [← eL0]
  refine va_new (ci := 5) (fs := [.null, .null, .null, .null, .null, .null, .null, .null, vi 0]) (C := RX5) (T := TX5) (N := 9) hx hb hts (fun w hw => (inX5 w hw).1) tyX5 tyX5_ok hown (hts _ gw_73.1) (hts _ gw_74.1) (hts _ gw_58.1) hK hP hD hS hA rfl dfX5 (Nat.le_of_ble_eq_true rfl) (Nat.le_of_ble_eq_true rfl) dL_law_0 (fun a H hP hD hS => ?_)
  refine lv_dup hx hb dL_law_3 rfl ?_
  have ht5 : ∀ w ∈ [Cond.code mX5_init.1 mX5_init.2.1 mX5_init.2.2.1 mX5_init.2.2.2], w.before #[Value.ref b] s = true := fun w h => by rw [List.mem_singleton.mp h]; exact hGW _ okX5_init.2.2.1 _
  have hg5 : ∀ w ∈ [Cond.code mX5_init.1 mX5_init.2.1 mX5_init.2.2.1 mX5_init.2.2.2], GW w := fun w h => by rw [List.mem_singleton.mp h]; exact okX5_init.2.2.1
  refine kk_runI (va_runI (As := []) (rest := [Value.ref a]) (b := a) (Ts := [Cond.code mX5_init.1 mX5_init.2.1 mX5_init.2.2.1 mX5_init.2.2.2]) (n := 0) (bytes := mX5_init.2.1) (maxL := mX5_init.2.2.1) ⟨hx, hb, hml, hown, ht5⟩ (c_X5_init E0 []) (cwI 0 ht5 (kk_good hg5) rfl rfl rfl (hts _ gw_58.1) (hts _ gw_75.1) (hts _ okX5_init.1.1) rfl okX5_init.2.2.2.2.1 ⟨Nat.le_of_ble_eq_true rfl, Nat.le_of_ble_eq_true rfl⟩) ⟨kk_blindI _, fun U hU hW => ⟨rfl, SG.moved hW (by rw [hU]; exact hS.1) hG, by rw [hU]; exact hP, hD⟩⟩ rfl rfl hl.1 rfl (Nat.le_of_ble_eq_true rfl) dL_law_4 ⟨Nat.le_of_ble_eq_true rfl, Nat.le_of_ble_eq_true rfl⟩) hS (fun suf H locs hq hP hD hS => ?_)
  obtain ⟨q1, q2, q3, q4, q5, q6, q7, q8, q9, q10, q11, q12, q13, q14, rr, q15, q16, q17, q18, q19, q20, q21, q22, q23, q24, q25, q26, q27, q28, q29, q30, q31, q32, q33, q34, q35, q36, q37, q38, q39, rfl⟩ := hq
  refine lv_astore_n (lv' := [(1, .ref a), (0, .ref b)]) hx hb dL_law_7 rfl hl (by decide) rfl (fun ls hl => ?_)
  refine va_new (ci := 6) (fs := [.null, vi 0, .null, vi 0, .null, .null, vi 0, vi 0, vi 0, .null, vi 0, vi 0, vi 0, vi 0, vi 0, vi 0, vi 0, vi 0, .null, .null, .null, .null, vi 0, .null, .null, .null, .null, vi 0]) (C := RX6) (T := TX6) (N := 28) hx hb hts (fun w hw => (inX6 w hw).1) tyX6 tyX6_ok hown (hts _ gw_869.1) (hts _ gw_870.1) (hts _ gw_64.1) hK hP hD hS hA rfl dfX6 (Nat.le_of_ble_eq_true rfl) (Nat.le_of_ble_eq_true rfl) dL_law_8 (fun a2 H hP hD hS => ?_)
  refine lv_dup hx hb dL_law_11 rfl ?_
  have ht6 : ∀ w ∈ [Cond.code mX6_init.1 mX6_init.2.1 mX6_init.2.2.1 mX6_init.2.2.2], w.before #[Value.ref b] s = true := fun w h => by rw [List.mem_singleton.mp h]; exact hGW _ okX6_init.2.2.1 _
  have hg6 : ∀ w ∈ [Cond.code mX6_init.1 mX6_init.2.1 mX6_init.2.2.1 mX6_init.2.2.2], GW w := fun w h => by rw [List.mem_singleton.mp h]; exact okX6_init.2.2.1
  refine kk_runI (va_runI (As := []) (rest := [Value.ref a2]) (b := a2) (Ts := [Cond.code mX6_init.1 mX6_init.2.1 mX6_init.2.2.1 mX6_init.2.2.2]) (n := 0) (bytes := mX6_init.2.1) (maxL := mX6_init.2.2.1) ⟨hx, hb, hml, hown, ht6⟩ (c_X6_init E0 _) (cwI 0 ht6 (kk_good hg6) rfl rfl rfl (hts _ gw_64.1) (hts _ gw_871.1) (hts _ okX6_init.1.1) rfl okX6_init.2.2.2.2.1 ⟨Nat.le_of_ble_eq_true rfl, Nat.le_of_ble_eq_true rfl⟩) ⟨kk_blindI _, fun U hU hW => ⟨rfl, SG.moved hW (by rw [hU]; exact hS.1) hG, by rw [hU]; exact hP, hD⟩⟩ rfl rfl hl.1 rfl (Nat.le_of_ble_eq_true rfl) dL_law_12 ⟨Nat.le_of_ble_eq_true rfl, Nat.le_of_ble_eq_true rfl⟩) hS (fun suf H locs hq hP hD hS => ?_)
  obtain ⟨p1, p2, p3, p4, p5, p6, p7, p8, p9, p10, p11, p12, p13, rfl⟩ := hq
  refine lv_astore_n (lv' := [(2, .ref a2), (1, .ref a), (0, .ref b)]) hx hb dL_law_15 rfl hl (by decide) rfl (fun ls hl => ?_)
  refine lv_iconst (v := Int32.ofInt ((0 : Nat) : Int)) hx hb dL_law_16 rfl ?_
  refine lv_istore_n (lv' := [(3, .int (Int32.ofInt ((0 : Nat) : Int))), (2, .ref a2), (1, .ref a), (0, .ref b)]) hx hb dL_law_17 rfl hl (by decide) rfl (fun ls hl => ?_)
  refine W.widen (k := 600000) (n := 7302250) (Nat.le_of_ble_eq_true rfl) (Nat.le_of_ble_eq_true rfl) ?_
  have hP2 : va_P (eD E0) vwCl (([(a, .inr (5, [.ref q1, .ref q3, .ref q8, .ref q13, .ref q16, .ref q19, .ref q20, .ref q21, vi 0])), (q1, .inr (3, [.ref q2, vi 0, vi 0, vi 0, .null, vi 0, vi 0, vi 0, vi 0, vi 0])), (q2, arI E0 160 zr), (q3, .inr (2, [.ref q4, .ref q5, .ref q6, .ref q7, vi 0, vi 0, vi 0, vi 0, vi 40, vi 0, vi 0, vi 1, vi 1, vi 0, vi 0, vi 0, vi 0, vi 0, vi 0])), (q4, arI E0 4 zr), (q5, arI E0 4 zr), (q6, arI E0 4 zr), (q7, arI E0 4 zr), (q8, .inr (2, [.ref q9, .ref q10, .ref q11, .ref q12, vi 0, vi 0, vi 0, vi 0, vi 40, vi 0, vi 0, vi 1, vi 1, vi 0, vi 0, vi 0, vi 0, vi 0, vi 0])), (q9, arI E0 4 zr), (q10, arI E0 4 zr), (q11, arI E0 4 zr), (q12, arI E0 4 zr), (q13, .inr (1, [.ref q14, .ref q15, .null, vi 0])), (q14, arR E0 5 6 (fun i => if i < 6 then some (rr i) else none)), (rr 0, arI E0 41 zr), (rr 1, arI E0 41 zr), (rr 2, arI E0 41 zr), (rr 3, arI E0 41 zr), (rr 4, arI E0 41 zr), (rr 5, arI E0 41 zr), (q15, arI E0 41 zr), (q16, .inr (0, [.ref q17, .ref q18, vi 0])), (q17, arI E0 6 zr), (q18, arI E0 6 zr), (q19, arR E0 3 2 (va_up (va_up (fun _ => none) 0 (some q22)) 1 (some q27))), (q20, arZ E0 2 zr), (q21, arR E0 4 4 (va_up (va_up (va_up (va_up (fun _ => none) 0 (some q32)) 1 (some q34)) 2 (some q36)) 3 (some q38))), (q22, .inr (2, [.ref q23, .ref q24, .ref q25, .ref q26, vi 0, vi 0, vi 0, vi 0, vi 40, vi 0, vi 0, vi 1, vi 1, vi 0, vi 0, vi 0, vi 0, vi 0, vi 0])), (q23, arI E0 4 zr), (q24, arI E0 4 zr), (q25, arI E0 4 zr), (q26, arI E0 4 zr), (q27, .inr (2, [.ref q28, .ref q29, .ref q30, .ref q31, vi 0, vi 0, vi 0, vi 0, vi 40, vi 0, vi 0, vi 1, vi 1, vi 0, vi 0, vi 0, vi 0, vi 0, vi 0])), (q28, arI E0 4 zr), (q29, arI E0 4 zr), (q30, arI E0 4 zr), (q31, arI E0 4 zr), (q32, .inr (4, [.ref q33, vi (-1), vi 0])), (q33, arI E0 40 zr), (q34, .inr (4, [.ref q35, vi (-1), vi 0])), (q35, arI E0 40 zr), (q36, .inr (4, [.ref q37, vi (-1), vi 0])), (q37, arI E0 40 zr), (q38, .inr (4, [.ref q39, vi (-1), vi 0])), (q39, arI E0 40 zr)] : va_W) ++ [(a2, .inr (6, [.ref p1, vi 0, .ref p2, vi 0, .ref p3, .ref p4, vi 0, vi 0, vi 0, .ref p5, vi 0, vi 0, vi 0, vi 0, vi 0, vi 0, vi 0, vi 0, .ref p6, .ref p7, .ref p8, .ref p9, vi 0, .ref p10, .ref p11, .ref p12, .ref p13, vi 0])), (p1, arI E0 125 zr), (p2, arI E0 4 zr), (p3, arI E0 25 zr), (p4, arI E0 4 zr), (p5, arI E0 160 zr), (p6, arI E0 12 (rs (rs (rs (rs (rs (rs (rs (rs (rs (rs (rs (rs zr 0 0) 1 4) 2 9) 3 15) 4 22) 5 27) 6 34) 7 37) 8 41) 9 46) 10 50) 11 54)), (p7, arI E0 54 (rs (rs (rs (rs (rs (rs (rs (rs (rs (rs (rs (rs (rs (rs (rs (rs (rs (rs (rs (rs (rs (rs (rs (rs (rs (rs (rs (rs (rs (rs (rs (rs (rs (rs (rs (rs (rs (rs (rs (rs (rs (rs (rs (rs (rs (rs (rs (rs (rs (rs (rs (rs (rs (rs zr 0 108) 1 97) 2 110) 3 100) 4 100) 5 114) 6 101) 7 97) 8 109) 9 112) 10 101) 11 111) 12 112) 13 108) 14 101) 15 103) 16 114) 17 97) 18 110) 19 97) 20 114) 21 121) 22 112) 23 114) 24 105) 25 99) 26 101) 27 115) 28 116) 29 101) 30 119) 31 97) 32 114) 33 100) 34 97) 35 108) 36 108) 37 112) 38 97) 39 114) 40 116) 41 108) 42 101) 43 118) 44 101) 45 108) 46 110) 47 111) 48 110) 49 101) 50 110) 51 101) 52 101) 53 100)), (p8, arJ E0 3936 zr), (p9, arI E0 12 zr), (p10, arZ E0 2 zr), (p11, arI E0 4 (rs (rs (rs (rs zr 0 (-4)) 1 (-4)) 2 (-4)) 3 (-4))), (p12, arI E0 4 zr), (p13, arI E0 160 zr)]) H := hP
  have hD2 : va_D (AA E0) (([(a, .inr (5, [.ref q1, .ref q3, .ref q8, .ref q13, .ref q16, .ref q19, .ref q20, .ref q21, vi 0])), (q1, .inr (3, [.ref q2, vi 0, vi 0, vi 0, .null, vi 0, vi 0, vi 0, vi 0, vi 0])), (q2, arI E0 160 zr), (q3, .inr (2, [.ref q4, .ref q5, .ref q6, .ref q7, vi 0, vi 0, vi 0, vi 0, vi 40, vi 0, vi 0, vi 1, vi 1, vi 0, vi 0, vi 0, vi 0, vi 0, vi 0])), (q4, arI E0 4 zr), (q5, arI E0 4 zr), (q6, arI E0 4 zr), (q7, arI E0 4 zr), (q8, .inr (2, [.ref q9, .ref q10, .ref q11, .ref q12, vi 0, vi 0, vi 0, vi 0, vi 40, vi 0, vi 0, vi 1, vi 1, vi 0, vi 0, vi 0, vi 0, vi 0, vi 0])), (q9, arI E0 4 zr), (q10, arI E0 4 zr), (q11, arI E0 4 zr), (q12, arI E0 4 zr), (q13, .inr (1, [.ref q14, .ref q15, .null, vi 0])), (q14, arR E0 5 6 (fun i => if i < 6 then some (rr i) else none)), (rr 0, arI E0 41 zr), (rr 1, arI E0 41 zr), (rr 2, arI E0 41 zr), (rr 3, arI E0 41 zr), (rr 4, arI E0 41 zr), (rr 5, arI E0 41 zr), (q15, arI E0 41 zr), (q16, .inr (0, [.ref q17, .ref q18, vi 0])), (q17, arI E0 6 zr), (q18, arI E0 6 zr), (q19, arR E0 3 2 (va_up (va_up (fun _ => none) 0 (some q22)) 1 (some q27))), (q20, arZ E0 2 zr), (q21, arR E0 4 4 (va_up (va_up (va_up (va_up (fun _ => none) 0 (some q32)) 1 (some q34)) 2 (some q36)) 3 (some q38))), (q22, .inr (2, [.ref q23, .ref q24, .ref q25, .ref q26, vi 0, vi 0, vi 0, vi 0, vi 40, vi 0, vi 0, vi 1, vi 1, vi 0, vi 0, vi 0, vi 0, vi 0, vi 0])), (q23, arI E0 4 zr), (q24, arI E0 4 zr), (q25, arI E0 4 zr), (q26, arI E0 4 zr), (q27, .inr (2, [.ref q28, .ref q29, .ref q30, .ref q31, vi 0, vi 0, vi 0, vi 0, vi 40, vi 0, vi 0, vi 1, vi 1, vi 0, vi 0, vi 0, vi 0, vi 0, vi 0])), (q28, arI E0 4 zr), (q29, arI E0 4 zr), (q30, arI E0 4 zr), (q31, arI E0 4 zr), (q32, .inr (4, [.ref q33, vi (-1), vi 0])), (q33, arI E0 40 zr), (q34, .inr (4, [.ref q35, vi (-1), vi 0])), (q35, arI E0 40 zr), (q36, .inr (4, [.ref q37, vi (-1), vi 0])), (q37, arI E0 40 zr), (q38, .inr (4, [.ref q39, vi (-1), vi 0])), (q39, arI E0 40 zr)] : va_W) ++ [(a2, .inr (6, [.ref p1, vi 0, .ref p2, vi 0, .ref p3, .ref p4, vi 0, vi 0, vi 0, .ref p5, vi 0, vi 0, vi 0, vi 0, vi 0, vi 0, vi 0, vi 0, .ref p6, .ref p7, .ref p8, .ref p9, vi 0, .ref p10, .ref p11, .ref p12, .ref p13, vi 0])), (p1, arI E0 125 zr), (p2, arI E0 4 zr), (p3, arI E0 25 zr), (p4, arI E0 4 zr), (p5, arI E0 160 zr), (p6, arI E0 12 (rs (rs (rs (rs (rs (rs (rs (rs (rs (rs (rs (rs zr 0 0) 1 4) 2 9) 3 15) 4 22) 5 27) 6 34) 7 37) 8 41) 9 46) 10 50) 11 54)), (p7, arI E0 54 (rs (rs (rs (rs (rs (rs (rs (rs (rs (rs (rs (rs (rs (rs (rs (rs (rs (rs (rs (rs (rs (rs (rs (rs (rs (rs (rs (rs (rs (rs (rs (rs (rs (rs (rs (rs (rs (rs (rs (rs (rs (rs (rs (rs (rs (rs (rs (rs (rs (rs (rs (rs (rs (rs zr 0 108) 1 97) 2 110) 3 100) 4 100) 5 114) 6 101) 7 97) 8 109) 9 112) 10 101) 11 111) 12 112) 13 108) 14 101) 15 103) 16 114) 17 97) 18 110) 19 97) 20 114) 21 121) 22 112) 23 114) 24 105) 25 99) 26 101) 27 115) 28 116) 29 101) 30 119) 31 97) 32 114) 33 100) 34 97) 35 108) 36 108) 37 112) 38 97) 39 114) 40 116) 41 108) 42 101) 43 118) 44 101) 45 108) 46 110) 47 111) 48 110) 49 101) 50 110) 51 101) 52 101) 53 100)), (p8, arJ E0 3936 zr), (p9, arI E0 12 zr), (p10, arZ E0 2 zr), (p11, arI E0 4 (rs (rs (rs (rs zr 0 (-4)) 1 (-4)) 2 (-4)) 3 (-4))), (p12, arI E0 4 zr), (p13, arI E0 160 zr)]) := hD
  clear hP hD
  generalize had : (fun j : Nat => ([a, q1, q2, q3, q4, q5, q6, q7, q8, q9, q10, q11, q12, q13, q14, rr 0, rr 1, rr 2, rr 3, rr 4, rr 5, q15, q16, q17, q18, q19, q20, q21, q22, q23, q24, q25, q26, q27, q28, q29, q30, q31, q32, q33, q34, q35, q36, q37, q38, q39, a2, p1, p2, p3, p4, p5, p6, p7, p8, p9, p10, p11, p12, p13] : List Nat).getD j 0) = ad
  have had2 : ad = (fun j : Nat => ([a, q1, q2, q3, q4, q5, q6, q7, q8, q9, q10, q11, q12, q13, q14, rr 0, rr 1, rr 2, rr 3, rr 4, rr 5, q15, q16, q17, q18, q19, q20, q21, q22, q23, q24, q25, q26, q27, q28, q29, q30, q31, q32, q33, q34, q35, q36, q37, q38, q39, a2, p1, p2, p3, p4, p5, p6, p7, p8, p9, p10, p11, p12, p13] : List Nat).getD j 0) := had.symm
  subst hE0
  have h14 := conv_P (i := 14) (g := fun k => some (ad (k + 15))) rfl (fun j hj => by rw [had2]; rcases (show j = 0 ∨ j = 1 ∨ j = 2 ∨ j = 3 ∨ j = 4 ∨ j = 5 by omega) with rfl | rfl | rfl | rfl | rfl | rfl <;> rfl) hP2
  have h25 := conv_P (i := 25) (g := fun k => some (ad (k * 5 + 28))) rfl (fun j hj => by rw [had2]; rcases (show j = 0 ∨ j = 1 by omega) with rfl | rfl <;> rfl) h14
  have h27 := conv_P (i := 27) (g := fun k => some (ad (k * 2 + 38))) rfl (fun j hj => by rw [had2]; rcases (show j = 0 ∨ j = 1 ∨ j = 2 ∨ j = 3 by omega) with rfl | rfl | rfl | rfl <;> rfl) h25
  have k14 := va_D.set (e := arR (eZ l s.heap.size (dC, dI) dA (fun _ => 0) aK aV) 5 6 (fun k => some (ad (k + 15)))) (p := 14) hD2 rfl
  have k25 := va_D.set (e := arR (eZ l s.heap.size (dC, dI) dA (fun _ => 0) aK aV) 3 2 (fun k => some (ad (k * 5 + 28)))) (p := 25) k14 rfl
  have k27 := va_D.set (e := arR (eZ l s.heap.size (dC, dI) dA (fun _ => 0) aK aV) 4 4 (fun k => some (ad (k * 2 + 38)))) (p := 27) k25 rfl
  subst had2
  have hPf : va_P (dC, dI) vwCl (hp (eZ l s.heap.size (dC, dI) dA (fun j : Nat => ([a, q1, q2, q3, q4, q5, q6, q7, q8, q9, q10, q11, q12, q13, q14, rr 0, rr 1, rr 2, rr 3, rr 4, rr 5, q15, q16, q17, q18, q19, q20, q21, q22, q23, q24, q25, q26, q27, q28, q29, q30, q31, q32, q33, q34, q35, q36, q37, q38, q39, a2, p1, p2, p3, p4, p5, p6, p7, p8, p9, p10, p11, p12, p13] : List Nat).getD j 0) aK aV) M0) H := h27
  have hDf : va_D (fun q : Nat => s.heap.size ≤ q) (hp (eZ l s.heap.size (dC, dI) dA (fun j : Nat => ([a, q1, q2, q3, q4, q5, q6, q7, q8, q9, q10, q11, q12, q13, q14, rr 0, rr 1, rr 2, rr 3, rr 4, rr 5, q15, q16, q17, q18, q19, q20, q21, q22, q23, q24, q25, q26, q27, q28, q29, q30, q31, q32, q33, q34, q35, q36, q37, q38, q39, a2, p1, p2, p3, p4, p5, p6, p7, p8, p9, p10, p11, p12, p13] : List Nat).getD j 0) aK aV) M0) := k27
  have hSF : SF (eZ l s.heap.size (dC, dI) dA (fun j : Nat => ([a, q1, q2, q3, q4, q5, q6, q7, q8, q9, q10, q11, q12, q13, q14, rr 0, rr 1, rr 2, rr 3, rr 4, rr 5, q15, q16, q17, q18, q19, q20, q21, q22, q23, q24, q25, q26, q27, q28, q29, q30, q31, q32, q33, q34, q35, q36, q37, q38, q39, a2, p1, p2, p3, p4, p5, p6, p7, p8, p9, p10, p11, p12, p13] : List Nat).getD j 0) aK aV) s := ⟨⟨hKc, hKa⟩, hGW, hNW, fun M => D_any hDf, hvS, hvR, hZ1, hZ2⟩
  exact law_loop (E := eZ l s.heap.size (dC, dI) dA (fun j : Nat => ([a, q1, q2, q3, q4, q5, q6, q7, q8, q9, q10, q11, q12, q13, q14, rr 0, rr 1, rr 2, rr 3, rr 4, rr 5, q15, q16, q17, q18, q19, q20, q21, q22, q23, q24, q25, q26, q27, q28, q29, q30, q31, q32, q33, q34, q35, q36, q37, q38, q39, a2, p1, p2, p3, p4, p5, p6, p7, p8, p9, p10, p11, p12, p13] : List Nat).getD j 0) aK aV) ⟨C0, hSF, rfl, hL⟩ (L + 1) 0 M0 (Nat.zero_le _) (by omega) Rel_0 H locs ls hPf hS hl
