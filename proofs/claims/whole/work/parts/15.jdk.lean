abbrev mJ7_fill_53178 : MI := (yJ7_fill_53178, cJ7_fill_53178, 4, none)
theorem okJ7_fill_53178 : OKS mJ7_fill_53178 2 := ⟨gw_712, gw_71, gw_713, (by decide +kernel), (by decide)⟩
theorem fil_0 (M : Mem) (a : Nat) (x : Int) : fil M a 0 x = M := by
  funext i
  unfold fil sr
  split
  · rename_i h; subst h; funext j; simp
  · rfl
theorem fil_succ (M : Mem) (a i : Nat) (x : Int) : st (fil M a i x) a i x = fil M a (i + 1) x := by
  funext b
  unfold st fil sr
  by_cases h : b = a
  · subst h
    simp only [if_true]
    funext j
    by_cases e : j = i
    · subst e; simp
    · by_cases e2 : j < i
      · simp [e, e2, Nat.lt_succ_of_lt e2]
      · have e3 : ¬ j < i + 1 := by omega
        simp [e, e2, e3]
  · simp [h]
theorem l_J7_fill_53178 {E : En} {d : Nat} {Q : Po} {a n : Nat} {x : Int} {M : Mem} (ha : isI a n) (hK : Q none (fil M a n x)) : ∀ (k i : Nat), i + k = n → V E mJ7_fill_53178 d 5 [(0, rf E a), (1, vi x), (2, vi (i : Int)), (3, vi (n : Int))] [] (fil M a i x) Q := by
  intro k
  have hn := ha.2.1
  have wn : ∀ q : Nat, q ≤ n → wr (q : Int) = q := fun q hq => by
    unfold wr; rw [Int32.ofInt_eq_ofNat]; exact nI_toInt (by omega)
  induction k with
  | zero =>
    intro i hi
    have e : i = n := by omega
    subst e
    refine V.iload_n 2 2 2 rfl dJ7_fill_53178_5 rfl ?_
    refine V.iload_n 3 3 3 rfl dJ7_fill_53178_6 rfl ?_
    refine V.icmp_ge (tgt := 20) rfl rfl dJ7_fill_53178_7 (by decide) (fun hc => ?_) (fun hc => ?_)
    · exact V.vret rfl dJ7_fill_53178_20 hK
    · exact absurd (Int.le_refl _) hc
  | succ k ih =>
    intro i hi
    refine V.iload_n 2 2 2 rfl dJ7_fill_53178_5 rfl ?_
    refine V.iload_n 3 3 3 rfl dJ7_fill_53178_6 rfl ?_
    refine V.icmp_ge (tgt := 20) rfl rfl dJ7_fill_53178_7 (by decide) (fun hc => ?_) (fun hc => ?_)
    · rw [wn i (by omega), wn n (by omega)] at hc; omega
    · refine V.aload_n 0 0 0 rfl dJ7_fill_53178_10 rfl ?_
      refine V.iload_n 2 2 2 rfl dJ7_fill_53178_11 rfl ?_
      refine V.iload_n 1 1 1 rfl dJ7_fill_53178_12 rfl ?_
      have hw : wt (fil M a i x) a n (i : Int) x = some (fil M a (i + 1) x) := by
        rw [wt_lit (i : Int) i (wn i (by omega)) (by omega), fil_succ]
      refine V.iast ha hw dJ7_fill_53178_13 ?_
      refine V.iinc 2 2 1 [(2, vi ((i : Int) + 1)), (0, rf E a), (1, vi x), (3, vi (n : Int))] dJ7_fill_53178_14 rfl (by decide) rfl ?_
      refine V.goto (tgt := 5) dJ7_fill_53178_17 (by decide) ?_
      refine V.sub _ [1, 2, 0, 3] rfl ?_
      have := ih (i + 1) (by omega)
      exact this
theorem c_J7_fill_53178 {E : En} {d : Nat} {a n : Nat} {x : Int} {M z : Mem} (ha : isI a n) (hd : 1 ≤ d) (hF : some (fil M a n x) = some z) : Cn E mJ7_fill_53178 d [rf E a, vi x] M (fun v N => v = none ∧ z = N) := by
  refine V.entry (by decide +kernel) (Nat.le_of_ble_eq_true rfl) ?_
  refine V.iconst 0 dJ7_fill_53178_0 ?_
  refine V.istore_n 2 2 [(2, vi 0), (0, rf E a), (1, vi x)] rfl dJ7_fill_53178_1 (by decide) rfl ?_
  refine V.aload_n 0 0 1 rfl dJ7_fill_53178_2 rfl ?_
  refine V.alen ha dJ7_fill_53178_3 ?_
  refine V.istore_n 3 3 [(3, vi (n : Int)), (2, vi 0), (0, rf E a), (1, vi x)] rfl dJ7_fill_53178_4 (by decide) rfl ?_
  refine V.sub _ [2, 3, 1, 0] rfl ?_
  have := l_J7_fill_53178 (E := E) (d := d) (M := M) (x := x) (Q := fun v N => v = none ∧ z = N) ha ⟨rfl, (Option.some.inj hF).symm⟩ n 0 (by omega)
  rw [fil_0] at this
  exact this
abbrev mJ0_coder_7d493 : MI := (yJ0_coder_7d493, cJ0_coder_7d493, 1, (some .byte))
theorem okJ0_coder_7d493 : OKV mJ0_coder_7d493 0 := ⟨gw_374, gw_375, gw_65, gw_376, (by decide +kernel), (by decide)⟩
theorem c_J0_coder_7d493 {E : En} {d i : Nat} {M : Mem} (hi : i < 11) : Cn E mJ0_coder_7d493 d [.ref (eK E i)] M (fun v N => v = some (vi 0) ∧ M = N) := by
  refine V.entry (by decide +kernel) (Nat.le_of_ble_eq_true rfl) ?_
  refine V.getCS gw_377 dJ0_coder_7d493_0 ?_
  refine V.if_eq (tgt := 13) rfl dJ0_coder_7d493_3 (by decide) (fun hc => absurd hc (by decide)) (fun _ => ?_)
  refine V.aload_n 0 0 0 rfl dJ0_coder_7d493_6 rfl ?_
  refine V.getSc hi gw_1307 dJ0_coder_7d493_7 ?_
  refine V.goto (tgt := 14) dJ0_coder_7d493_10 (by decide) ?_
  exact V.nret rfl (by decide) dJ0_coder_7d493_14 ⟨rfl, rfl⟩
abbrev mJ0_length_8abf5 : MI := (yJ0_length_8abf5, cJ0_length_8abf5, 1, (some .int))
theorem okJ0_length_8abf5 : OKV mJ0_length_8abf5 0 := ⟨gw_370, gw_371, gw_65, gw_372, (by decide +kernel), (by decide)⟩
theorem kk_shr0 (i : Nat) (hi : i < 11) : wr (bShr (slen i) 0) = wr (slen i) := by
  revert i; decide
theorem c_J0_length_8abf5 {E : En} {d i : Nat} {M : Mem} (hi : i < 11) (hd : 2 ≤ d) : Cn E mJ0_length_8abf5 d [.ref (eK E i)] M (fun v N => v = some (vi (slen i)) ∧ M = N) := by
  refine V.entry (by decide +kernel) (Nat.le_of_ble_eq_true rfl) ?_
  refine V.aload_n 0 0 0 rfl dJ0_length_8abf5_0 rfl ?_
  refine V.getSv hi gw_1306 dJ0_length_8abf5_1 ?_
  refine V.strlen hi dJ0_length_8abf5_4 ?_
  refine V.aload_n 0 0 0 rfl dJ0_length_8abf5_5 rfl ?_
  refine V.callString (d' := d - 1) [] [vi (slen i)] (c_J0_coder_7d493 hi) okJ0_coder_7d493 gw_373 rfl rfl rfl hi (Nat.le_of_ble_eq_true rfl) (by omega) dJ0_length_8abf5_6 ?_
  rintro _ _ ⟨rfl, rfl⟩
  refine V.ishr dJ0_length_8abf5_9 ?_
  refine V.iret rfl dJ0_length_8abf5_10 ⟨?_, rfl⟩
  have e : Int32.ofInt (bShr (slen i) 0) = Int32.ofInt (slen i) := (kk_eq _ _).mpr (kk_shr0 i hi)
  show some (Value.int _) = some (Value.int _)
  rw [e]
abbrev mJ0_isLatin1_aae02 : MI := (yJ0_isLatin1_aae02, cJ0_isLatin1_aae02, 1, (some .boolean))
theorem okJ0_isLatin1_aae02 : OKV mJ0_isLatin1_aae02 0 := ⟨gw_384, gw_385, gw_65, gw_386, (by decide +kernel), (by decide)⟩
theorem c_J0_isLatin1_aae02 {E : En} {d i : Nat} {M : Mem} (hi : i < 11) : Cn E mJ0_isLatin1_aae02 d [.ref (eK E i)] M (fun v N => v = some (vi 1) ∧ M = N) := by
  refine V.entry (by decide +kernel) (Nat.le_of_ble_eq_true rfl) ?_
  refine V.getCS gw_377 dJ0_isLatin1_aae02_0 ?_
  refine V.if_eq (tgt := 17) rfl dJ0_isLatin1_aae02_3 (by decide) (fun hc => absurd hc (by decide)) (fun _ => ?_)
  refine V.aload_n 0 0 0 rfl dJ0_isLatin1_aae02_6 rfl ?_
  refine V.getSc hi gw_1307 dJ0_isLatin1_aae02_7 ?_
  refine V.if_ne (tgt := 17) rfl dJ0_isLatin1_aae02_10 (by decide) (fun hc => absurd (by decide) hc) (fun _ => ?_)
  refine V.iconst 1 dJ0_isLatin1_aae02_13 ?_
  refine V.goto (tgt := 18) dJ0_isLatin1_aae02_14 (by decide) ?_
  exact V.zret rfl (Or.inr rfl) dJ0_isLatin1_aae02_18 ⟨rfl, rfl⟩
abbrev mJ3_checkIndex_8e157 : MI := (yJ3_checkIndex_8e157, cJ3_checkIndex_8e157, 3, (some .int))
theorem okJ3_checkIndex_8e157 : OKS mJ3_checkIndex_8e157 3 := ⟨gw_396, gw_67, gw_397, (by decide +kernel), (by decide)⟩
theorem c_J3_checkIndex_8e157 {E : En} {d : Nat} {x y : Int} {v : Value} {M : Mem} (hv : v.category = 1) (h : 0 ≤ wr x ∧ wr x < wr y) : Cn E mJ3_checkIndex_8e157 d [vi x, vi y, v] M (fun r N => r = some (vi x) ∧ M = N) := by
  refine V.entry (by decide +kernel) (by have h1 : (vi x).category = 1 := rfl; have h2 : (vi y).category = 1 := rfl; simp [lg_sl, hv, h1, h2]) ?_
  refine V.iload_n 0 0 0 rfl dJ3_checkIndex_8e157_0 rfl ?_
  refine V.if_lt (tgt := 9) rfl dJ3_checkIndex_8e157_1 (by decide) (fun hc => absurd hc (by omega)) (fun _ => ?_)
  refine V.iload_n 0 0 0 rfl dJ3_checkIndex_8e157_4 rfl ?_
  refine V.iload_n 1 1 1 rfl dJ3_checkIndex_8e157_5 rfl ?_
  refine V.icmp_lt (tgt := 16) rfl rfl dJ3_checkIndex_8e157_6 (by decide) (fun _ => ?_) (fun hc => absurd h.2 hc)
  refine V.iload_n 0 0 0 rfl dJ3_checkIndex_8e157_16 rfl ?_
  exact V.iret rfl dJ3_checkIndex_8e157_17 ⟨rfl, rfl⟩
abbrev mJ0_checkIndex_df160 : MI := (yJ0_checkIndex_df160, cJ0_checkIndex_df160, 2, none)
theorem okJ0_checkIndex_df160 : OKS mJ0_checkIndex_df160 2 := ⟨gw_391, gw_65, gw_392, (by decide +kernel), (by decide)⟩
theorem c_J0_checkIndex_df160 {E : En} {d : Nat} {x y : Int} {M : Mem} (hd : 1 ≤ d) (h : 0 ≤ wr x ∧ wr x < wr y) : Cn E mJ0_checkIndex_df160 d [vi x, vi y] M (fun r N => r = none ∧ M = N) := by
  refine V.entry (by decide +kernel) (Nat.le_of_ble_eq_true rfl) ?_
  refine V.iload_n 0 0 0 rfl dJ0_checkIndex_df160_0 rfl ?_
  refine V.iload_n 1 1 1 rfl dJ0_checkIndex_df160_1 rfl ?_
  refine V.getSIO gw_393 dJ0_checkIndex_df160_2 (fun v hv => ?_)
  refine V.callS (d' := d - 1) [vi x, vi y, v] [] (c_J3_checkIndex_8e157 hv h) okJ3_checkIndex_8e157 gw_395 rfl rfl (Nat.le_of_ble_eq_true rfl) (by omega) dJ0_checkIndex_df160_5 ?_
  rintro _ _ ⟨rfl, rfl⟩
  refine V.pop rfl dJ0_checkIndex_df160_8 ?_
  exact V.vret rfl dJ0_checkIndex_df160_9 ⟨rfl, rfl⟩
abbrev mJ1_charAt_3b067 : MI := (yJ1_charAt_3b067, cJ1_charAt_3b067, 2, (some .char))
theorem okJ1_charAt_3b067 : OKS mJ1_charAt_3b067 2 := ⟨gw_388, gw_66, gw_389, (by decide +kernel), (by decide)⟩
theorem kk_ch : ∀ i, i < 11 → ∀ b ∈ bytS.getD i [], ((Int32.ofInt (bAnd b.toInt 255)).toUInt32 % 65536).toInt32 = Int32.ofInt b.toInt ∧ narrow .char (.int (Int32.ofInt b.toInt)) = .int (Int32.ofInt b.toInt) := by decide +kernel
theorem kk_ln : ∀ i, i < 11 → (bytS.getD i []).length = lenS.getD i 0 := by decide +kernel
theorem kk_sl : ∀ i, i < 11 → wr (slen i) = slen i := by decide +kernel
theorem kk_chr {i : Nat} {x v : Int} (hi : i < 11) (h : schr i x = some v) : ((Int32.ofInt (bAnd v 255)).toUInt32 % 65536).toInt32 = Int32.ofInt v ∧ narrow .char (.int (Int32.ofInt v)) = .int (Int32.ofInt v) := by
  obtain ⟨g, rfl⟩ := schr_some h
  refine kk_ch i hi _ ?_
  have hl : (wr x).toNat < (bytS.getD i []).length := by rw [kk_ln i hi]; unfold slen at g; omega
  generalize bytS.getD i [] = l at hl ⊢
  rw [List.getD_eq_getElem?_getD, List.getElem?_eq_getElem hl]
  exact List.getElem_mem hl
theorem c_J1_charAt_3b067 {E : En} {d i : Nat} {x z : Int} {M : Mem} (hi : i < 11) (hd : 2 ≤ d) (h : schr i x = some z) : Cn E mJ1_charAt_3b067 d [.ref (eV E i), vi x] M (fun r N => r = some (vi z) ∧ M = N) := by
  obtain ⟨g, -⟩ := schr_some h
  refine V.entry (by decide +kernel) (Nat.le_of_ble_eq_true rfl) ?_
  refine V.iload_n 1 1 1 rfl dJ1_charAt_3b067_0 rfl ?_
  refine V.aload_n 0 0 0 rfl dJ1_charAt_3b067_1 rfl ?_
  refine V.strlen hi dJ1_charAt_3b067_2 ?_
  refine V.callS (d' := d - 1) [vi x, vi (slen i)] [] (c_J0_checkIndex_df160 (by omega) (by rw [kk_sl i hi]; exact g)) okJ0_checkIndex_df160 gw_390 rfl rfl (Nat.le_of_ble_eq_true rfl) (by omega) dJ1_charAt_3b067_3 ?_
  rintro _ _ ⟨rfl, rfl⟩
  refine V.aload_n 0 0 0 rfl dJ1_charAt_3b067_6 rfl ?_
  refine V.iload_n 1 1 1 rfl dJ1_charAt_3b067_7 rfl ?_
  refine V.sbyte hi h dJ1_charAt_3b067_8 ?_
  refine V.sipush 255 255 (by decide) dJ1_charAt_3b067_9 ?_
  refine V.iand dJ1_charAt_3b067_12 ?_
  refine V.i2c (kk_chr hi h).1 dJ1_charAt_3b067_13 ?_
  exact V.nret rfl (kk_chr hi h).2 dJ1_charAt_3b067_14 ⟨rfl, rfl⟩
abbrev mJ0_charAt_5068e : MI := (yJ0_charAt_5068e, cJ0_charAt_5068e, 2, (some .char))
theorem okJ0_charAt_5068e : OKV mJ0_charAt_5068e 1 := ⟨gw_380, gw_381, gw_65, gw_382, (by decide +kernel), (by decide)⟩
theorem c_J0_charAt_5068e {E : En} {d i : Nat} {x z : Int} {M : Mem} (hi : i < 11) (hd : 5 ≤ d) (h : schr i x = some z) : Cn E mJ0_charAt_5068e d [.ref (eK E i), vi x] M (fun r N => r = some (vi z) ∧ M = N) := by
  refine V.entry (by decide +kernel) (Nat.le_of_ble_eq_true rfl) ?_
  refine V.aload_n 0 0 0 rfl dJ0_charAt_5068e_0 rfl ?_
  refine V.callString (d' := d - 1) [] [] (c_J0_isLatin1_aae02 hi) okJ0_isLatin1_aae02 gw_383 rfl rfl rfl hi (Nat.le_of_ble_eq_true rfl) (by omega) dJ0_charAt_5068e_1 ?_
  rintro _ _ ⟨rfl, rfl⟩
  refine V.if_eq (tgt := 16) rfl dJ0_charAt_5068e_4 (by decide) (fun hc => absurd hc (by decide)) (fun _ => ?_)
  refine V.aload_n 0 0 0 rfl dJ0_charAt_5068e_7 rfl ?_
  refine V.getSv hi gw_1306 dJ0_charAt_5068e_8 ?_
  refine V.iload_n 1 1 1 rfl dJ0_charAt_5068e_11 rfl ?_
  refine V.callS (d' := d - 1) [.ref (eV E i), vi x] [] (c_J1_charAt_3b067 hi (by omega) h) okJ1_charAt_3b067 gw_387 rfl rfl (Nat.le_of_ble_eq_true rfl) (by omega) dJ0_charAt_5068e_12 ?_
  rintro _ _ ⟨rfl, rfl⟩
  exact V.nret rfl (kk_chr hi h).2 dJ0_charAt_5068e_15 ⟨rfl, rfl⟩
