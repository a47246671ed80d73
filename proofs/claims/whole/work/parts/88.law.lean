/-! the law's body over a memory -/
def LK (E : En) (p : Program) (s : State) (m : MethodId) (meth : Method) (c : Code) (b L : Nat) (xs : Nat → Int32) : Prop := lw_At p s m meth c b L xs ∧ SF E s ∧ eB E = s.heap.size ∧ L ≤ 320
def LV (E : En) (p : Program) (e : Env) (s : State) (m : MethodId) (below : List Frame) (meth : Method) (c : Code) (b : Nat) (pc : Nat) (Lc : List (Nat × Value)) (stk : List Value) (M : Mem) : Prop :=
  ∀ (H : Heap) (locs : List Loc) (ls : Array Slot), va_P (eD E) vwCl (hp E M) H → va_S (AA E) s.heap H locs → lv_has ls 4 Lc → W p (eL E) e room_1 s m #[Value.ref b] below meth c H locs 600000 7302250 (lw_Z below #[Value.ref b] s) (F0 m pc ls stk)
abbrev lc (E : En) (b i0 : Nat) : List (Nat × Value) := [(3, vi (i0 : Int)), (2, rf E 46), (1, rf E 0), (0, Value.ref b)]
theorem rgx (z : Int32) : rg z.toInt := ⟨Int32.le_toInt z, by have := Int32.toInt_lt z; omega⟩
theorem vi_x (z : Int32) : vi z.toInt = .int z := by unfold vi; rw [Int32.ofInt_toInt]
section LROWS
variable {E : En} {p : Program} {e : Env} {s : State} {m : MethodId} {below : List Frame} {meth : Method} {c : Code} {b L : Nat} {xs : Nat → Int32} {pc i0 : Nat} {stk : List Value} {M : Mem}
theorem LV.a1 (hC : LK E p s m meth c b L xs) (hd : decode code pc = .ok (.aload_n 1, 1)) (k : LV E p e s m below meth c b (pc + 1) (lc E b i0) (rf E 0 :: stk) M) : LV E p e s m below meth c b pc (lc E b i0) stk M := by
  intro H locs ls hP hT hl
  exact lv_aload_n hC.1.1 hC.1.2.1 hd rfl (lv_at hl 2 rfl) (k H locs ls hP hT hl)
theorem LV.a2 (hC : LK E p s m meth c b L xs) (hd : decode code pc = .ok (.aload_n 2, 1)) (k : LV E p e s m below meth c b (pc + 1) (lc E b i0) (rf E 46 :: stk) M) : LV E p e s m below meth c b pc (lc E b i0) stk M := by
  intro H locs ls hP hT hl
  exact lv_aload_n hC.1.1 hC.1.2.1 hd rfl (lv_at hl 1 rfl) (k H locs ls hP hT hl)
theorem kk_clamp {n : Nat} (h : n < 1000) : (Int32.ofInt (n : Int)).toNatClampNeg = n := by
  show (wr (n : Int)).toNat = n
  rw [wr_id (by omega) (by omega), Int.toNat_natCast]
theorem LV.arg (hC : LK E p s m meth c b L xs) (kx : Int) (j : Nat) (hkx : kx = (j : Int)) (hj : i0 + j < L) (hd1 : decode code pc = .ok (.aload_n 0, 1)) (hd2 : decode code (pc + 1) = .ok (.iload_n 3, 1)) (hd3 : decode code (pc + 1 + 1) = .ok (.iconst kx, 1)) (hd4 : decode code (pc + 1 + 1 + 1) = .ok (.iadd, 1)) (hd5 : decode code (pc + 1 + 1 + 1 + 1) = .ok (.iaload, 1)) (k : LV E p e s m below meth c b (pc + 1 + 1 + 1 + 1 + 1) (lc E b i0) (vi ((xs (i0 + j)).toInt) :: stk) M) : LV E p e s m below meth c b pc (lc E b i0) stk M := by
  intro H locs ls hP hT hl
  obtain ⟨⟨hx, hb, hr, hml, hown, hts, hX, hbl, hlocks, hgv⟩, hS, hB, hL⟩ := hC
  have hbA : ¬ AA E b := by show ¬ eB E ≤ b; omega
  refine lv_aload_n hx hb hd1 rfl (lv_at hl 3 rfl) ?_
  refine lv_iload_n hx hb hd2 rfl (lv_at hl 0 rfl) ?_
  refine lv_iconst hx hb hd3 rfl ?_
  refine lv_iadd hx hb hd4 ?_
  rw [← Int32.ofInt_add, show (i0 : Int) + kx = ((i0 + j : Nat) : Int) by omega]
  refine va_sld hx hb hX hbl hbA hT (kk_in (by rw [wr_id (by omega) (by omega)]; omega)) hd5 ?_
  rw [kk_clamp (by omega), ← vi_x]
  exact k H locs ls hP hT hl
theorem kk_runL {Z : State → Prop} {H : Heap} {locs : List Loc} {ls : Array Slot} {R : Room} {args : Array Value} {k0 n0 : Nat} {st0 rest : List Value} {Q' : Po} {av : Array Value}
    (hr : va_Run p (eL E) e R s m args below meth c H locs k0 n0 0 0 (F0 m pc ls st0) rest (Qc E Q' av) (AA E)) (hT : va_S (AA E) s.heap H locs)
    (kk : ∀ (r : Option Value) (M : Mem) (H1 : Heap) (locs1 : List Loc), Q' r M → va_P (eD E) vwCl (hp E M) H1 → va_S (AA E) s.heap H1 locs1 → W p (eL E) e R s m args below meth c H1 locs1 k0 n0 Z (F0 m (pc + 3) ls (r.toList ++ rest))) : W p (eL E) e R s m args below meth c H locs k0 n0 Z (F0 m pc ls st0) := by
  intro T hT0 X
  obtain ⟨v, st₀, t, T', Lc, h0, X', hL, e1, e2, ⟨⟨r, M, hv, hq, hP⟩, hz, hk⟩, stp⟩ := hr T hT0 X
  cases hv
  rw [h0] at hz hk
  obtain ⟨t2, a1, b1⟩ := kk v M T'.heap (locs ++ Lc) hq (by rw [e1]; exact hP)
    ⟨Nat.le_trans hT.1 (by rw [e1]; exact hz), fun q h1 h2 => by rw [e1, hk q (Nat.lt_of_lt_of_le h1 hT.1) h2]; exact hT.2.1 q h1 h2, fun q hq => by
      rcases List.mem_append.mp hq with h | h
      · exact hT.2.2 q h
      · exact hL q h⟩ T' rfl X'
  exact ⟨t2, stp t2 a1, b1⟩
theorem LV.callV (hC : LK E p s m meth c b L xs) {mi' : MI} {d' n idx ci j N : Nat} {T : u_T} {fs : List Value} {Q' : Po} {Lc : List (Nat × Value)} (As rest : List Value) {stk0 : List Value} (hM : Cn E mi' d' (rf E j :: As) M Q') (hok : OKV mi' n) (hlink : GW (.methodLink R_law idx mi'.1)) (hn : As.length = n) (hst : stk0 = As.reverse ++ rf E j :: rest) (hj : j < 60) (hc : cf E j (M j) = .inr (ci, fs)) (hcl : vwCl[ci]? = some (mi'.1.cls, T, N)) (hrest : (rest.map fun v => v.category).sum ≤ 8) (hdd : d' ≤ 1000) (hd : decode code pc = .ok (.invokevirtual idx, 3)) (k : ∀ (r : Option Value) (M' : Mem), Q' r M' → LV E p e s m below meth c b (pc + 3) Lc (r.toList ++ rest) M') : LV E p e s m below meth c b pc Lc stk0 M := by
  intro H locs ls hP hT hl
  obtain ⟨⟨hx, hb, hr, hml, hown, hts0, hX, hbl, hlocks, hgv⟩, hS, hB, hL⟩ := hC
  obtain ⟨o1, o2, o3, o4, o5, o6⟩ := hok
  let Ts : List Cond := wsV R_law idx mi'.1.cls mi'.1 [.code mi'.1 mi'.2.1 mi'.2.2.1 mi'.2.2.2]
  have hg : ∀ w ∈ Ts, GW w := by
    intro w hw
    simp only [Ts, wsV, List.cons_append, List.nil_append, List.mem_cons, List.not_mem_nil, or_false] at hw
    rcases hw with rfl | rfl | rfl | rfl | rfl
    · exact hlink
    · exact o1
    · exact o2
    · exact o3
    · exact o4
  have hts : ∀ w ∈ Ts, w.before #[Value.ref b] s = true := fun w h => hS.2.1 w (hg w h) _
  refine kk_runL (va_runV (As := As) (rest := rest) (b := eA E j) (C := mi'.1.cls) (Ts := Ts) (n := n) (bytes := mi'.2.1) (maxL := mi'.2.2.1) (ret := mi'.2.2.2) ⟨hx, hb, hml, hown, hts⟩ hM (cwV n hts (kk_good hg) rfl rfl rfl ⟨rfl, o5⟩ ⟨by show d' + 1 ≤ 2048; omega, by show 8 + (_ + 11) + 60 * d' ≤ 84000; omega⟩) ⟨kk_blind _, va_recv hS.1 hP hcl (by rw [hp_get E M hj, hc]), fun U hU hW => ⟨rfl, SF.moved hW (fun q h1 h2 => by rw [hU]; exact hT.2.1 q h1 h2) hS, by rw [hU]; exact hP⟩⟩ rfl hn hl.1 hst (by show 2 * 0 + _ ≤ 8; omega) hd ⟨Nat.le_refl _, Nat.le_refl _⟩) hT (fun r M' H locs hq hP hT => k r M' hq H locs ls hP hT hl)
theorem LV.eqi (hC : LK E p s m meth c b L xs) {r off : Int} {tgt : Nat} {Lc : List (Nat × Value)} (hd : decode code pc = .ok (.if_icmp .eq off, 3)) (ht : (pc : Int) + off = (tgt : Int)) (k : LV E p e s m below meth c b tgt Lc stk M) : LV E p e s m below meth c b pc Lc (vi r :: vi r :: stk) M := by
  intro H locs ls hP hT hl
  exact lv_icmp_eq hC.1.1 hC.1.2.1 hd ht (fun _ => k H locs ls hP hT hl) (fun h => absurd rfl h)
theorem LV.eql (hC : LK E p s m meth c b L xs) {r off : Int} {tgt : Nat} {Lc : List (Nat × Value)} (hd : decode code pc = .ok (.lcmp, 1)) (hd2 : decode code (pc + 1) = .ok (.ifCond .eq off, 3)) (ht : ((pc + 1 : Nat) : Int) + off = (tgt : Int)) (k : LV E p e s m below meth c b tgt Lc stk M) : LV E p e s m below meth c b pc Lc (vl r :: vl r :: stk) M := by
  intro H locs ls hP hT hl
  refine W.lcmp hC.1.1 hC.1.2.1 hd ?_
  refine lv_if_eq hC.1.1 hC.1.2.1 hd2 ht (fun _ => k H locs ls hP hT hl) (fun h => ?_)
  exfalso
  apply h
  unfold lg_cmp
  simp
end LROWS
