/-! constructors: calls, rows of references -/
theorem kk_blindI {E : En} {W0 : va_W} (av : List Value) : FrameBlind (va_Pc av (fun U => SG E U ∧ va_P (eD E) vwCl W0 U.heap ∧ va_D (AA E) W0)) := by
  intro a U g mk h
  obtain ⟨h1, h2, h3⟩ := h
  exact ⟨h1, SG.moved (s := U) (State.WarmedH.refl U) (Nat.le_refl _) h2, h3⟩
theorem kk_runI {p : Program} {E : En} {e : Env} {R : Room} {s : State} {m : MethodId} {args : Array Value} {below : List Frame} {meth : Method} {c : Code} {H : Heap} {locs : List Loc} {Z : State → Prop} {pc k n mc ms : Nat} {ls : Array Slot} {st0 rest : List Value} {Q' : va_W → Prop} {av : Array Value} {pre' : va_W}
    (hr : va_Run p (eL E) e R s m args below meth c H locs k n mc ms (F0 m pc ls st0) rest (Qi E pre' Q' av) (AA E)) (hT : va_S (AA E) s.heap H locs)
    (kk : ∀ (suf : va_W) (H1 : Heap) (locs1 : List Loc), Q' suf → va_P (eD E) vwCl (pre' ++ suf) H1 → va_D (AA E) (pre' ++ suf) → va_S (AA E) s.heap H1 locs1 → W p (eL E) e R s m args below meth c H1 locs1 (k + mc) (n + ms) Z (F0 m (pc + 3) ls rest)) : W p (eL E) e R s m args below meth c H locs k n Z (F0 m pc ls st0) := by
  intro T hT0 X
  obtain ⟨v, st₀, t, T', Lc, h0, X', hL, e1, e2, ⟨⟨suf, hv, hq, hP, hD⟩, hz, hk⟩, stp⟩ := hr T hT0 X
  cases hv
  rw [h0] at hz hk
  obtain ⟨t2, a1, b1⟩ := kk suf T'.heap (locs ++ Lc) hq (by rw [e1]; exact hP) hD
    ⟨Nat.le_trans hT.1 (by rw [e1]; exact hz), fun q h1 h2 => by rw [e1, hk q (Nat.lt_of_lt_of_le h1 hT.1) h2]; exact hT.2.1 q h1 h2, fun q hq => by
      rcases List.mem_append.mp hq with h | h
      · exact hT.2.2 q h
      · exact hL q h⟩ T' rfl X'
  exact ⟨t2, stp t2 a1, b1⟩
/-- what a call of a constructor needs of it -/
def OKI (mi : MI) : Prop := GW (.instanceMethod mi.1) ∧ GW (.initialized mi.1.cls) ∧ GW (.code mi.1 mi.2.1 mi.2.2.1 none) ∧ mi.1.name = "<init>" ∧ (mi.1.cls ≠ "java/lang/invoke/MethodHandle" ∧ mi.1.cls ≠ "java/lang/invoke/VarHandle" ∧ (parseMethodDescriptor mi.1.desc).map (fun d => d.parameters.length) = some 0) ∧ mi.2.2.1 ≤ 40 ∧ mi.2.2.2 = none
section IROWS2
variable {E : En} {mi : MI} {d pc : Nat} {L : List (Nat × Value)} {stk : List Value} {pre suf : va_W} {k n kc ks : Nat} {Q : va_W → Prop}
theorem I.callI {mi' : MI} {d' mc ms idx a : Nat} {suf0 : va_W} {x : Nat × va_E} {Q' : va_W → Prop} (hM : Ci E mi' d' mc ms [Value.ref a] (pre ++ suf0) [x] Q') (hs : suf = suf0 ++ [x]) (hok : OKI mi') (hlink : GW (.methodLink mi.1.cls idx mi'.1)) (hrest : (stk.map fun v => v.category).sum ≤ 8) (hdd : d' + 1 ≤ d) (hk1 : k + mc ≤ kc) (hn1 : n + ms ≤ ks) (hd : decode mi.2.1 pc = .ok (.invokespecial idx, 3)) (kk : ∀ suf' : va_W, Q' suf' → I E mi d (pc + 3) L stk pre (suf0 ++ suf') (k + mc) (n + ms) kc ks Q) : I E mi d pc L (Value.ref a :: stk) pre suf k n kc ks Q := by
  intro p e R s m args below meth c H locs ls hx hb hr hml ho hk hnm hR hS hP hD hT hl
  obtain ⟨o1, o2, o3, o4, o5, o6, o7⟩ := hok
  let Ts : List Cond := [.code mi'.1 mi'.2.1 mi'.2.2.1 mi'.2.2.2]
  have hg : ∀ w ∈ Ts, GW w := by
    intro w hw
    simp only [Ts, List.mem_cons, List.not_mem_nil, or_false] at hw
    rw [hw, o7]; exact o3
  have hts : ∀ w ∈ Ts, w.before args s = true := fun w h => hS.2.1 w (hg w h) _
  subst hs
  rw [← List.append_assoc] at hP hD
  refine kk_runI (va_runI (As := []) (rest := stk) (b := a) (Ts := Ts) (n := 0) (bytes := mi'.2.1) (maxL := mi'.2.2.1) ⟨hx, hb, hml, ho, hts⟩ hM (cwI 0 hts (kk_good hg) (by rw [o7]) rfl rfl (hS.2.1 _ o2 _) (hS.2.1 _ hlink _) (hS.2.1 _ o1 _) o4 o5 ⟨by show d' + 1 ≤ _; omega, by show 8 + (_ + 11) + 60 * d' ≤ _; omega⟩) ⟨kk_blindI _, fun U hU hW => ⟨rfl, SG.moved hW (by rw [hU]; exact hT.1) hS, by rw [hU]; exact hP, hD⟩⟩ rfl rfl hl.1 rfl (by show 2 * 0 + _ ≤ 8; omega) hd ⟨by omega, by omega⟩) hT (fun suf' H locs hq hP hD hT => ?_)
  rw [List.append_assoc] at hP hD
  exact kk suf' hq p e R s m args below meth c H locs ls hx hb hr hml ho hk hnm hR hS hP hD hT hl
theorem I.callIN {mi' : MI} {d' mc ms idx a : Nat} {suf0 : va_W} {x : Nat × va_E} {Q' : va_W → Prop} {host : String} (hM : Ci E mi' d' mc ms [Value.ref a] (pre ++ suf0) [x] Q') (hs : suf = suf0 ++ [x]) (hok : OKI mi') (hlink : (mi.1.cls, idx, mi'.1, host) ∈ nwl) (hrest : (stk.map fun v => v.category).sum ≤ 8) (hdd : d' + 1 ≤ d) (hk1 : k + mc ≤ kc) (hn1 : n + ms ≤ ks) (hd : decode mi.2.1 pc = .ok (.invokespecial idx, 3)) (kk : ∀ suf' : va_W, Q' suf' → I E mi d (pc + 3) L stk pre (suf0 ++ suf') (k + mc) (n + ms) kc ks Q) : I E mi d pc L (Value.ref a :: stk) pre suf k n kc ks Q := by
  intro p e R s m args below meth c H locs ls hx hb hr hml ho hk hnm hR hS hP hD hT hl
  obtain ⟨o1, o2, o3, o4, o5, o6, o7⟩ := hok
  let Ts : List Cond := [.code mi'.1 mi'.2.1 mi'.2.2.1 mi'.2.2.2]
  have hg : ∀ w ∈ Ts, GW w := by
    intro w hw
    simp only [Ts, List.mem_cons, List.not_mem_nil, or_false] at hw
    rw [hw, o7]; exact o3
  have hts : ∀ w ∈ Ts, w.before args s = true := fun w h => hS.2.1 w (hg w h) _
  subst hs
  rw [← List.append_assoc] at hP hD
  refine kk_runI (va_runIN (As := []) (rest := stk) (b := a) (Ts := Ts) (n := 0) (bytes := mi'.2.1) (maxL := mi'.2.2.1) (host := host) ⟨hx, hb, hml, ho, hts⟩ hM ⟨va_cnB 0 hts (kk_good hg) (by rw [o7]) rfl rfl (hS.2.2.1 _ hlink) (hS.2.1 _ o2 _) o5 ⟨by show d' + 1 ≤ _; omega, by show 8 + (_ + 11) + 60 * d' ≤ _; omega⟩, o4, hS.2.1 _ o1 _⟩ ⟨kk_blindI _, fun U hU hW => ⟨rfl, SG.moved hW (by rw [hU]; exact hT.1) hS, by rw [hU]; exact hP, hD⟩⟩ rfl rfl hl.1 rfl (by show 2 * 0 + _ ≤ 8; omega) hd ⟨by omega, by omega⟩) hT (fun suf' H locs hq hP hD hT => ?_)
  rw [List.append_assoc] at hP hD
  exact kk suf' hq p e R s m args below meth c H locs ls hx hb hr hml ho hk hnm hR hS hP hD hT hl
theorem I.callV {mi' : MI} {d' n0 idx ci i a N : Nat} {T : u_T} {fs : List Value} {Q' : va_W → Prop} (As : List Value) {stk0 : List Value} (hM : Ci E mi' d' 0 0 (Value.ref a :: As) pre suf Q') (hok : OKV mi' n0) (hlink : GW (.methodLink mi.1.cls idx mi'.1)) (hn : As.length = n0) (hst : stk0 = As.reverse ++ Value.ref a :: stk) (he : suf[i]? = some (a, .inr (ci, fs))) (hcl : vwCl[ci]? = some (mi'.1.cls, T, N)) (hrest : (stk.map fun v => v.category).sum ≤ 8) (hdd : d' + 1 ≤ d) (hk1 : k ≤ kc) (hn1 : n ≤ ks) (hd : decode mi.2.1 pc = .ok (.invokevirtual idx, 3)) (kk : ∀ suf' : va_W, Q' suf' → I E mi d (pc + 3) L stk pre suf' k n kc ks Q) : I E mi d pc L stk0 pre suf k n kc ks Q := by
  intro p e R s m args below meth c H locs ls hx hb hr hml ho hk hnm hR hS hP hD hT hl
  obtain ⟨o1, o2, o3, o4, o5, o6⟩ := hok
  let Ts : List Cond := wsV mi.1.cls idx mi'.1.cls mi'.1 [.code mi'.1 mi'.2.1 mi'.2.2.1 mi'.2.2.2]
  have hg : ∀ w ∈ Ts, GW w := by
    intro w hw
    simp only [Ts, wsV, List.cons_append, List.nil_append, List.mem_cons, List.not_mem_nil, or_false] at hw
    rcases hw with rfl | rfl | rfl | rfl | rfl
    · exact hlink
    · exact o1
    · exact o2
    · exact o3
    · exact o4
  have hts : ∀ w ∈ Ts, w.before args s = true := fun w h => hS.2.1 w (hg w h) _
  refine kk_runI (va_runV (As := As) (rest := stk) (b := a) (C := mi'.1.cls) (Ts := Ts) (n := n0) (bytes := mi'.2.1) (maxL := mi'.2.2.1) (ret := mi'.2.2.2) ⟨hx, hb, hml, ho, hts⟩ hM (cwV n0 hts (kk_good hg) rfl rfl rfl ⟨rfl, o5⟩ ⟨by show d' + 1 ≤ _; omega, by show 8 + (_ + 11) + 60 * d' ≤ _; omega⟩) ⟨kk_blindI _, va_recv hS.1 hP hcl (ap_get he), fun U hU hW => ⟨rfl, SG.moved hW (by rw [hU]; exact hT.1) hS, by rw [hU]; exact hP, hD⟩⟩ rfl hn hl.1 hst (by show 2 * 0 + _ ≤ 8; omega) hd ⟨by omega, by omega⟩) hT (fun suf' H locs hq hP hD hT => kk suf' hq p e R s m args below meth c H locs ls hx hb hr hml ho hk hnm hR hS hP hD hT hl)
theorem I.anew {x : Int} {N idx t : Nat} {C : String} (hC : (C = "FatLean$Court" ∧ t = 3) ∨ (C = "FatLean$Sheet" ∧ t = 4)) (hN : (Int32.ofInt x).toNatClampNeg = N) (h0 : ¬ Int32.ofInt x < 0) (hby : N * 4 ≤ 536870912) (hw : GW (.classLink mi.1.cls idx C)) (hk1 : k + 1 ≤ kc) (hn1 : n + N ≤ ks) (hd : decode mi.2.1 pc = .ok (.anewarray idx, 3)) (kk : ∀ q : Nat, I E mi d (pc + 3) L (Value.ref q :: stk) pre (suf ++ [(q, arR E t N (fun _ => none))]) (k + 1) (n + N) kc ks Q) : I E mi d pc L (vi x :: stk) pre suf k n kc ks Q := by
  intro p e R s m args below meth c H locs ls hx hb hr hml ho hk hnm hR hS hP hD hT hl
  have ho2 : va_AO C s := by
    rcases hC with ⟨rfl, -⟩ | ⟨rfl, -⟩
    · exact hS.2.2.2.2.1
    · exact hS.2.2.2.2.2.1
  refine va_newq hx hb ho (hS.2.1 _ hw _) ho2 hS.1 hP hD hT (fun q h => Nat.le_trans hS.2.2.2.1 h) h0 hN hby (by omega) (by omega) hd (fun q cA H1 hK1 hP1 hD1 hT1 => ?_)
  have ec : cA = eC E t := by
    rcases hC with ⟨rfl, rfl⟩ | ⟨rfl, rfl⟩
    · exact kn_3 hK1
    · exact kn_4 hK1
  rw [ec, List.append_assoc] at hP1 hD1
  exact kk q p e R s m args below meth c H1 locs ls hx hb hr hml ho hk hnm hR hS hP1 hD1 hT1 hl
theorem I.aast {i j ci a v N t idx : Nat} {f : Nat → Option Nat} {x : Int} {vs : List Value} {C : String} {T : u_T} {M : Nat} {suf' : va_W} (he : suf[i]? = some (a, arR E t N f)) (hv : suf[j]? = some (v, .inr (ci, vs))) (ht : (tys E)[t]? = some (eC E t, .object C)) (hcl : vwCl[ci]? = some (C, T, M)) (hi : (Int32.ofInt x).toNatClampNeg = idx) (hin : vp_in (Int32.ofInt x) N) (hset : suf.set i (a, arR E t N (va_up f idx (some v))) = suf') (hd : decode mi.2.1 pc = .ok (.aastore, 1)) (kk : I E mi d (pc + 1) L stk pre suf' k n kc ks Q) : I E mi d pc L (Value.ref v :: vi x :: Value.ref a :: stk) pre suf k n kc ks Q := by
  intro p e R s m args below meth c H locs ls hx hb hr hml ho hk hnm hR hS hP hD hT hl
  refine va_astq hx hb hS.1 hP hD hT (pre.length + i) t (pre.length + j) ci (ap_get he) ht (ap_get hv) hcl hin hd (fun H locs hP1 hD1 hT1 => ?_)
  rw [hi, ap_set] at hP1 hD1
  have e2 : suf.set i (a, .inl (eC E t, N, .inr (.inr (.inr (.inr (va_up f idx (some v))))))) = suf' := hset
  rw [e2] at hP1 hD1
  exact kk p e R s m args below meth c H locs ls hx hb hr hml ho hk hnm hR hS hP1 hD1 hT1 hl
theorem I.mna {x y : Int} {N K idx : Nat} (hN : (Int32.ofInt x).toNatClampNeg = N) (hK0 : (Int32.ofInt y).toNatClampNeg = K) (h0 : ¬ Int32.ofInt x < 0) (h1 : ¬ Int32.ofInt y < 0) (hb1 : N * 4 ≤ 536870912) (hb2 : K * 4 ≤ 536870912) (hb3 : K ≤ 536870912) (hw : GW (.classLink mi.1.cls idx "[[I")) (hw2 : GW (.arrayClass .int)) (hk1 : k + (1 + N) ≤ kc) (hn1 : n + (N + N * K) ≤ ks) (hd : decode mi.2.1 pc = .ok (.multianewarray idx 2, 4)) (kk : ∀ (q : Nat) (r : Nat → Nat), I E mi d (pc + 4) L (Value.ref q :: stk) pre (suf ++ (q, arR E 5 N (fun i => if i < N then some (r i) else none)) :: ((List.range N).map r).map (fun a => (a, arI E K zr))) (k + 1 + N) (n + N + N * K) kc ks Q) : I E mi d pc L (vi y :: vi x :: stk) pre suf k n kc ks Q := by
  intro p e R s m args below meth c H locs ls hx hb hr hml ho hk hnm hR hS hP hD hT hl T hTh X
  have i0 := hS.1.2 0 (eC E 0, .int) rfl
  have i5 := hS.1.2 5 (eC E 5, .array .int) rfl
  obtain ⟨cB, cA, kA, f1, f2, f3, f4⟩ := gd_over (va_AOA.use (A := args) hS.2.2.2.2.2.2)
  cases Option.some.inj (f1.symm.trans i0.2)
  cases Option.some.inj (f4.symm.trans i5.2)
  obtain ⟨-, kB, hB, cc, hBk⟩ := i0.1 0 (fun _ => .null)
  subst hN
  subst hK0
  subst hTh
  obtain ⟨vm1, F, ⟨g1, g2, g3, g4, -, -⟩, Y, st⟩ := gd_step X hx ho (hS.2.1 _ hw _) f4 f2 f3 hB hBk (pc := pc) (ls := ls) (rest := stk) (by rw [hb]; exact hd) h0 h1 hb1 hb2 hb3 rfl (by omega) (by omega)
  have hlt : ∀ (j : Nat) (q : Nat × va_E), (pre ++ suf)[j]? = some q → q.1 < T.heap.size := fun j q hq => (hP j q hq).lt
  have hnew : ∀ (j : Nat) (q : Nat × va_E), ((T.heap.size, arR E 5 (Int32.ofInt x).toNatClampNeg (fun i => if i < (Int32.ofInt x).toNatClampNeg then some (T.heap.size + 1 + i) else none)) :: ((List.range (Int32.ofInt x).toNatClampNeg).map (fun i => T.heap.size + 1 + i)).map (fun a => (a, arI E (Int32.ofInt y).toNatClampNeg zr)) : va_W)[j]? = some q → q.1 = T.heap.size + j ∧ va_at (eD E) vwCl q F.heap := by
    intro j q hq
    match j with
    | 0 => cases hq; exact ⟨rfl, g2⟩
    | j + 1 =>
      rw [List.getElem?_cons_succ, List.getElem?_map, List.getElem?_map] at hq
      by_cases hj : j < (Int32.ofInt x).toNatClampNeg
      · rw [List.getElem?_range hj] at hq
        cases hq
        refine ⟨by show T.heap.size + 1 + j = T.heap.size + (j + 1); omega, (g4 j hj).trans ?_⟩
        rw [← ha_0]
      · rw [List.getElem?_eq_none (by rw [List.length_range]; omega)] at hq
        cases hq
  obtain ⟨t, a, b⟩ := kk T.heap.size (fun i => T.heap.size + 1 + i) p e R s m args below meth c F.heap locs ls hx hb hr hml ho hk hnm hR hS
    (by rw [← List.append_assoc]; exact (hP.kept (fun j q hq => g3 _ (hlt j q hq))).app (fun j q hq => (hnew j q hq).2))
    (by rw [← List.append_assoc]; exact gd_D hD hlt (fun j q hq => (hnew j q hq).1) (fun q h => Nat.le_trans hS.2.2.2.1 (Nat.le_trans hT.1 h)))
    ⟨by rw [g1]; exact Nat.le_trans hT.1 (by show T.heap.size ≤ T.heap.size + 1 + _; omega), fun q h1 h2 => (g3 q (Nat.lt_of_lt_of_le h1 hT.1)).trans (hT.2.1 q h1 h2), hT.2.2⟩ hl F rfl Y
  exact ⟨t, st t a, b⟩
end IROWS2
/-- a row of references is what its places below its length are -/
theorem conv_P {E : En} {ws : va_W} {i a N t : Nat} {f g : Nat → Option Nat} {H : Heap} (he : ws[i]? = some (a, arR E t N f)) (hfg : ∀ j, j < N → f j = g j) (hP : va_P (eD E) vwCl ws H) : va_P (eD E) vwCl (ws.set i (a, arR E t N g)) H := by
  have ec : vp_cell (eC E t) (N, .inr (.inr (.inr (.inr f)))) = vp_cell (eC E t) (N, .inr (.inr (.inr (.inr g)))) := by
    rw [vp_cell_q, vp_cell_q]
    unfold arrV
    congr 1
    apply Array.ext
    · simp
    · intro j h1 h2
      simp at h1
      simp [hfg j h1]
  intro j q hq
  by_cases hj : j = i
  · subst hj
    rw [List.getElem?_set_self (List.getElem?_eq_some_iff.mp he).1] at hq
    cases hq
    have := hP _ _ he
    show H[a]? = some (vp_cell (eC E t) (N, .inr (.inr (.inr (.inr g)))))
    rw [← ec]; exact this
  · rw [List.getElem?_set_ne (fun z => hj z.symm)] at hq
    exact hP j q hq
