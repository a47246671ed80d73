/-! the first memory -/
def rC : Nat → Int := fun k => match k with | 8 => 40 | 11 => 1 | 12 => 1 | _ => 0
def rS : Nat → Int := fun k => match k with | 1 => -1 | _ => 0
def r52 : Nat → Int := (rs (rs (rs (rs (rs (rs (rs (rs (rs (rs (rs (rs zr 0 0) 1 4) 2 9) 3 15) 4 22) 5 27) 6 34) 7 37) 8 41) 9 46) 10 50) 11 54)
def r53 : Nat → Int := (rs (rs (rs (rs (rs (rs (rs (rs (rs (rs (rs (rs (rs (rs (rs (rs (rs (rs (rs (rs (rs (rs (rs (rs (rs (rs (rs (rs (rs (rs (rs (rs (rs (rs (rs (rs (rs (rs (rs (rs (rs (rs (rs (rs (rs (rs (rs (rs (rs (rs (rs (rs (rs (rs zr 0 108) 1 97) 2 110) 3 100) 4 100) 5 114) 6 101) 7 97) 8 109) 9 112) 10 101) 11 111) 12 112) 13 108) 14 101) 15 103) 16 114) 17 97) 18 110) 19 97) 20 114) 21 121) 22 112) 23 114) 24 105) 25 99) 26 101) 27 115) 28 116) 29 101) 30 119) 31 97) 32 114) 33 100) 34 97) 35 108) 36 108) 37 112) 38 97) 39 114) 40 116) 41 108) 42 101) 43 118) 44 101) 45 108) 46 110) 47 111) 48 110) 49 101) 50 110) 51 101) 52 101) 53 100)
def r57 : Nat → Int := (rs (rs (rs (rs zr 0 (-4)) 1 (-4)) 2 (-4)) 3 (-4))
def M0 : Mem := fun j => match j with | 3 => rC | 8 => rC | 28 => rC | 33 => rC | 38 => rS | 40 => rS | 42 => rS | 44 => rS | 52 => r52 | 53 => r53 | 57 => r57 | _ => zr
theorem r52_ok : ∀ i : Fin 12, r52 i.val = cutL.getD i.val 0 := by decide +kernel
theorem r53_ok : ∀ i : Fin 54, r53 i.val = letL.getD i.val 0 := by decide +kernel
theorem r57_ok : ∀ i : Fin 4, r57 i.val = -4 := by decide +kernel
theorem Rel_0 : Rel M0 := by
  have z : ∀ j : Nat, j < 0 → False := fun j h => by omega
  refine ⟨⟨by decide, by decide, rfl, rfl, fun r hr => absurd hr (Nat.not_lt_zero _), ⟨⟨by decide, by decide, by decide, by decide, by decide, by decide, by decide, by decide, by decide, by decide⟩, by decide, by decide, rfl, rfl, fun i hi => absurd hi (Nat.not_lt_zero _), fun r hr => absurd hr (Nat.not_lt_zero _)⟩, ⟨fun k h1 h2 => ?_, fun i hi => absurd hi (Nat.not_lt_zero _), fun r hr => absurd hr (Nat.not_lt_zero _)⟩⟩, ⟨by decide, rfl, fun i hi => absurd hi (Nat.not_lt_zero _), rfl⟩, ⟨by decide, rfl, fun i hi => absurd hi (Nat.not_lt_zero _)⟩, fun k hk => ?_, ⟨fun k hk => ?_, rfl⟩, fun i hi => r52_ok ⟨i, hi⟩, fun i hi => r53_ok ⟨i, hi⟩⟩
  · have kk : k = 6 ∨ k = 7 ∨ k = 8 ∨ k = 9 ∨ k = 10 ∨ k = 11 ∨ k = 12 ∨ k = 13 ∨ k = 14 ∨ k = 15 ∨ k = 16 ∨ k = 17 ∨ k = 18 := by omega
    rcases kk with rfl | rfl | rfl | rfl | rfl | rfl | rfl | rfl | rfl | rfl | rfl | rfl | rfl <;> rfl
  · have kk : k = 0 ∨ k = 1 := by omega
    rcases kk with rfl | rfl
    · exact ⟨Or.inl rfl, rfl, fun q => absurd q (by decide)⟩
    · exact ⟨Or.inl rfl, rfl, fun q => absurd q (by decide)⟩
  · have kk : k = 0 ∨ k = 1 ∨ k = 2 ∨ k = 3 := by omega
    rcases kk with rfl | rfl | rfl | rfl
    · exact ⟨Or.inl ⟨rfl, r57_ok ⟨0, by decide⟩⟩, fun i hi => ⟨rfl, by show rg 0; exact rgl 0⟩⟩
    · exact ⟨Or.inl ⟨rfl, r57_ok ⟨1, by decide⟩⟩, fun i hi => ⟨rfl, by show rg 0; exact rgl 0⟩⟩
    · exact ⟨Or.inl ⟨rfl, r57_ok ⟨2, by decide⟩⟩, fun i hi => ⟨rfl, by show rg 0; exact rgl 0⟩⟩
    · exact ⟨Or.inl ⟨rfl, r57_ok ⟨3, by decide⟩⟩, fun i hi => ⟨rfl, by show rg 0; exact rgl 0⟩⟩
/-- the addresses of a world are apart whatever its numbers are -/
theorem D_any {E : En} {M M' : Mem} (h : va_D (AA E) (hp E M)) : va_D (AA E) (hp E M') := by
  have e : ∀ (i : Nat) (q : Nat × va_E), (hp E M')[i]? = some q → ∃ q', (hp E M)[i]? = some q' ∧ q'.1 = q.1 := by
    intro i q hq
    by_cases hi : i < 60
    · rw [hp_get E M' hi] at hq
      cases hq
      exact ⟨_, hp_get E M hi, rfl⟩
    · unfold hp at hq
      rw [List.getElem?_map, List.getElem?_eq_none (by rw [List.length_range]; omega)] at hq
      cases hq
  refine ⟨fun i j x y hi hj hxy => ?_, fun k q hq => ?_⟩
  · obtain ⟨x', hx1, hx2⟩ := e i x hi
    obtain ⟨y', hy1, hy2⟩ := e j y hj
    exact h.1 i j x' y' hx1 hy1 (by rw [hx2, hy2, hxy])
  · obtain ⟨q', h1, h2⟩ := e k q hq
    rw [← h2]; exact h.2 k q' h1
/-! the law's loop -/
theorem law_loop {E : En} {p : Program} {e : Env} {s : State} {m : MethodId} {below : List Frame} {meth : Method} {c : Code} {b L : Nat} {xs : Nat → Int32} (hC : LK E p s m meth c b L xs) : ∀ (n i0 : Nat) (M : Mem), i0 ≤ L → L < i0 + n → Rel M → LV E p e s m below meth c b 18 (lc E b i0) [] M := by
  obtain ⟨⟨hx, hb, hr, hml, hown, hts, hX, hbl, hlocks, hgv⟩, hS, hB, hL⟩ := id hC
  have hbA : ¬ AA E b := by show ¬ eB E ≤ b; omega
  intro n
  induction n with
  | zero => intro i0 M h1 h2; exact absurd h2 (by omega)
  | succ n ih =>
    intro i0 M h1 h2 hR H locs ls hP hT hl
    refine lv_iload_n hx hb dL_law_18 rfl (lv_at hl 0 rfl) ?_
    refine lv_aload_n hx hb dL_law_19 rfl (lv_at hl 3 rfl) ?_
    refine va_slen hx hb hX hbl hbA hT dL_law_20 ?_
    refine lv_iconst (v := Int32.ofInt 5) hx hb dL_law_21 rfl ?_
    refine lv_isub hx hb dL_law_22 ?_
    have ev : Int32.ofNat L - Int32.ofInt 5 = Int32.ofInt ((L : Int) - 5) := by rw [Int32.ofInt_sub, Int32.ofInt_eq_ofNat]
    rw [ev]
    refine lv_icmp_gt (tgt := 1446) hx hb dL_law_23 (by decide) (fun hc => ?_) (fun hc => ?_)
    · refine lv_iconst (v := 1) hx hb dL_law_1446 (by decide) ?_
      refine va_forget (fun q hq => ?_) ?_
      · have : eB E ≤ q.base := hT.2.2 q hq
        omega
      · exact lw_ret hx hb hr hlocks dL_law_1447
    · have hi : i0 + 5 ≤ L := by
        have := hc ∘ (kk_lt _ _).mpr
        rw [wr_id (by omega) (by omega), wr_id (by omega) (by omega)] at this
        simp at this
        omega
      refine lv_aload_n hx hb dL_law_26 rfl (lv_at hl 3 rfl) ?_
      refine lv_iload_n hx hb dL_law_27 rfl (lv_at hl 0 rfl) ?_
      refine va_sld hx hb hX hbl hbA hT (kk_in (by rw [wr_id (by omega) (by omega)]; omega)) dL_law_28 ?_
      rw [kk_clamp (by omega)]
      refine lv_bipush (v := 63) hx hb dL_law_29 (by decide) ?_
      refine lv_iand hx hb dL_law_31 ?_
      refine law_sw hC hi hR (fun M' hR' => ?_) H locs ls hP hT hl
      intro H locs ls hP hT hl
      refine lv_iinc (v := Int32.ofInt ((i0 + 5 : Nat) : Int)) (lv' := lc E b (i0 + 5)) hx hb dL_law_1440 hl (k := 0) rfl (by rw [← Int32.ofInt_add]; rfl) (by decide) rfl (fun ls hl => ?_)
      refine lv_goto (tgt := 18) hx hb dL_law_1443 (by decide) ?_
      exact ih (i0 + 5) M' (by omega) (by omega) hR' H locs ls hP hT hl
