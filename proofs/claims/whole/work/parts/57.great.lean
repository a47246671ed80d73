/-! the counsel's answers -/
theorem plan_c {M : Mem} {c : Nat} {x : Int} (hx : 0 ≤ x ∧ x ≤ 5) (h15 : 0 ≤ M c 15 ∧ M c 15 ≤ 8) (hc : c = 3 ∨ c = 8) : ∃ N, f_X1_plan c x M = some N ∧ SmOff M N c ((min x (8 - M c 15)).toNat : Int) := by
  refine ⟨st (st M 13 2 (c : Int)) 13 3 (min x (8 - M c 15)), ?_, fun a ha => by rw [st_ne _ _ _ (by omega), st_ne _ _ _ (by omega)], ?_, ?_⟩
  · unfold f_X1_plan
    rw [Option.bind_some, st_ne _ _ _ (by omega), mnn_id (by omega) (by omega) (by omega) (by omega), Option.bind_some]
  · rw [st_at, if_neg (by omega), st_at, if_pos ⟨rfl, rfl⟩]
  · rw [st_at, if_pos ⟨rfl, rfl⟩]; omega
theorem greatest_c {n : Nat} {M : Mem} {c : Nat} {x A : Int} (hn : 1000 ≤ n) (hx : 0 ≤ x ∧ x ≤ 5) (H : CtS M c) (sc : M c 10 ≤ M c 8) : ∃ N, f_X1_greatest n c x A M = some (vlS (M c) (B2 M c) (M (c + 4)) (M (c + 3)) (M c 5).toNat (min x (8 - M c 15)).toNat (M c 15) A (M c 10), N) ∧ ∀ a, a < 13 ∨ 21 < a → N a = M a := by
  have hc := H.1
  have ok := H.2.1
  have h8 : 0 ≤ M c 8 ∧ M c 8 ≤ 40 := by unfold OkS at ok; omega
  have h10 : 0 ≤ M c 10 ∧ M c 10 ≤ 40 := by unfold OkS at ok; omega
  have h15 : 0 ≤ M c 15 ∧ M c 15 ≤ 8 := by unfold OkS at ok; omega
  obtain ⟨P, a1, a2⟩ := plan_c hx h15 hc
  obtain ⟨N, b1, b2, b3, b4⟩ := sum_c (n := n) (Y := (min x (8 - M c 15)).toNat) hn (by omega) H (min x (8 - M c 15)).toNat 8 0 A P (by omega) (by omega) a2
  refine ⟨N, ?_, b2.1⟩
  unfold f_X1_greatest
  rw [a1, Option.bind_some, show (0 : Int) = ((0 : Nat) : Int) from rfl, b1, Option.bind_some, (b2.at hc).1, rd_id h10.1 (by omega) (by omega), Option.bind_some]
  have := b4 (M c 10).toNat (by omega)
  rw [Int.toNat_of_nonneg h10.1, show M c 15 + ((0 : Nat) : Int) = M c 15 by omega] at this
  rw [← this]
theorem least_choice_c {n : Nat} {M : Mem} {c : Nat} {x are f : Int} (hn : 1000 ≤ n) (hx : 1 ≤ x ∧ x ≤ 5) (H : CtS M c) (hy : M c 15 < 8) (hf : isF f) : ∃ N, f_X1_leastChoice n c x are f M = some ((amB (bkS (M c) (B2 M c) (M (c + 4)) (M c 5).toNat (vlS (M c) (B2 M c) (M (c + 4)) (M (c + 3)) (M c 5).toNat ((min x (8 - M c 15)).toNat - 1) (M c 15 + 1)) are (M c 10) f) (min (M c 8) (lfX (M c) (B2 M c) (M c 10) f)).toNat : Int), N) ∧ ∀ a, a < 13 ∨ 21 < a → N a = M a := by
  have hc := H.1
  obtain ⟨-, ok, hB, hL, hm, hO⟩ := H
  have H : CtS M c := ⟨hc, ok, hB, hL, hm, hO⟩
  have h8 : 0 ≤ M c 8 ∧ M c 8 ≤ 40 := by unfold OkS at ok; omega
  have h6 : 0 ≤ M c 6 ∧ M c 6 ≤ 40 := by unfold OkS at ok; omega
  have h10 : 0 ≤ M c 10 ∧ M c 10 ≤ 40 := by unfold OkS at ok; omega
  have h15 : 0 ≤ M c 15 ∧ M c 15 ≤ 8 := by unfold OkS at ok; omega
  have hb := hB f hf
  obtain ⟨P, a1, a2⟩ := plan_c (x := x) (by omega) h15 hc
  obtain ⟨N, b1, b2, b3, b4⟩ := sum_c (n := n) (Y := (min x (8 - M c 15)).toNat) hn (by omega) H ((min x (8 - M c 15)).toNat - 1) 8 1 are P (by omega) (by omega) a2
  have e := b2.at hc
  have Wr := Wk_rng ((min x (8 - M c 15)).toNat - 1) (by omega)
  have vr := vl_rng (R := M (c + 3)) ok hB (by omega) hO ((min x (8 - M c 15)).toNat - 1)
  have b4' : ∀ t : Nat, t ≤ (M c 8).toNat → N (15 + 1) t = vlS (M c) (B2 M c) (M (c + 4)) (M (c + 3)) (M c 5).toNat ((min x (8 - M c 15)).toNat - 1) (M c 15 + 1) are (t : Int) := fun t ht => by
    rw [b4 t ht]; rfl
  generalize hV : vlS (M c) (B2 M c) (M (c + 4)) (M (c + 3)) (M c 5).toNat ((min x (8 - M c 15)).toNat - 1) (M c 15 + 1) = V at b4' ⊢
  have hgn := gn_rg (M := M) (N := N) (c := c) (d := 1) (v := V) (W := Wk ((min x (8 - M c 15)).toNat - 1)) (are := are) (f := f) ok hm hO hf Wr.2 b4' (fun a s q1 q2 => by rw [← hV]; exact ⟨(vr _ a s q1 q2).1, (vr _ a s q1 q2).2.1⟩)
  have C := choose_c (n := n) (d := 1) (p := odS (M (c + 4)) are (M c 5).toNat * prS (M c) f) hn hc b2 ok (by decide) hgn
  have hl : 0 ≤ lfX (M c) (B2 M c) (M c 10) f ∧ lfX (M c) (B2 M c) (M c 10) f ≤ 76 := by unfold lfX; omega
  obtain ⟨t, ht⟩ : ∃ t : Nat, min (M c 8) (lfX (M c) (B2 M c) (M c 10) f) = (t : Int) := ⟨(min (M c 8) (lfX (M c) (B2 M c) (M c 10) f)).toNat, by omega⟩
  generalize hK : sr N 21 (fun j => if j < (M c 8).toNat + 1 then (amB (gnS M N c 1 (odS (M (c + 4)) are (M c 5).toNat * prS (M c) f)) j : Int) else N 21 j) = K at C
  have Ko : ∀ a, a ≠ 21 → K a = N a := fun a ha => by rw [← hK, sr_ne _ _ ha]
  have KS : SmOff M K c ((min x (8 - M c 15)).toNat : Int) := ⟨fun a ha => by rw [Ko a (by omega)]; exact b2.1 a ha, by rw [Ko 13 (by decide)]; exact b2.2.1, by rw [Ko 13 (by decide)]; exact b2.2.2⟩
  have eK := KS.at hc
  refine ⟨K, ?_, KS.1⟩
  unfold f_X1_leastChoice
  rw [a1, Option.bind_some, show (1 : Int) = ((1 : Nat) : Int) from rfl, b1, Option.bind_some, oddsOf_c (by omega) (by rw [e.1]; exact hm), Option.bind_some, priceIn_c hf, Option.bind_some, e.1, e.2.2.1, C, Option.bind_some, foodIn_c (by omega) (by rw [eK.1]; exact hL.1) (by rw [eK.1]; exact hL.2) hf, Option.bind_some, eK.1, eK.2.2.2, leftOf_c (by rw [eK.1]; exact h6) (by omega) (by omega), Option.bind_some, eK.1]
  rw [show max 0 (M c 10 + B2 M c f - M c 6) = lfX (M c) (B2 M c) (M c 10) f from rfl, mnn_id (by omega) (by omega) (by omega) (by omega), ht, rd_id (by omega) (by omega) (by omega), Option.bind_some, Int.toNat_natCast, ← hK, sr_same, if_pos (by omega)]
  congr 3
  have hal : ∀ i, i ≤ t → bkS (M c) (B2 M c) (M (c + 4)) (M c 5).toNat V are (M c 10) f i = (odS (M (c + 4)) are (M c 5).toNat * prS (M c) f * lfX (M c) (B2 M c) (M c 10) f - odS (M (c + 4)) are (M c 5).toNat * M c 7 * hgX (M c) (B2 M c) (M c 10) f) + gnS M N c 1 (odS (M (c + 4)) are (M c 5).toNat * prS (M c) f) i := fun i hi => by
    have hr := rtX ok (k := (i : Int)) (by omega) (by omega)
    unfold gnS bkS
    rw [b4' _ (by omega), Int.toNat_of_nonneg hr.1]
    generalize odS (M (c + 4)) are (M c 5).toNat = o
    generalize prS (M c) f = p
    generalize lfX (M c) (B2 M c) (M c 10) f = l
    generalize hgX (M c) (B2 M c) (M c 10) f = g
    generalize V are (rtS (M c) i) = w
    have e1 : o * ((l - i) * p - g * M c 7) = o * p * l - o * p * i - o * M c 7 * g := by
      rw [Int.mul_sub, Int.sub_mul, Int.mul_sub, Int.mul_assoc, Int.mul_assoc, Int.mul_assoc, Int.mul_comm l p, Int.mul_comm (i : Int) p, Int.mul_comm g (M c 7)]
    rw [e1]
    omega
  rw [amB_cong hal, amB_add]
