theorem gw_mmaxS : GW (.static Lib.Math.max.name) := gw_599
theorem gw_mmaxC : GW (.code Lib.Math.max.name Lib.Math.max.code 2 (some .int)) := gw_600
theorem gw_mminS : GW (.static Lib.Math.min.name) := gw_602
theorem gw_mminC : GW (.code Lib.Math.min.name Lib.Math.min.code 2 (some .int)) := gw_603
theorem gw_mabsS : GW (.static Lib.Math.abs.name) := gw_690
theorem gw_mabsC : GW (.code Lib.Math.abs.name Lib.Math.abs.code 1 (some .int)) := gw_691
theorem gw_mathI : GW (.initialized "java/lang/Math") := gw_70
/-! rows beside V's own: names, loops, copies, dynamic references, string constants -/
/-- a loop: a step goes on (inl) or ends (inr) -/
def lp {σ ρ : Type} (f : σ → Option (σ ⊕ ρ)) : Nat → σ → Option ρ
  | 0, _ => none
  | n + 1, s => match f s with
    | none => none
    | some (.inl s') => lp f n s'
    | some (.inr r) => some r
theorem lp_ind {σ ρ : Type} {f : σ → Option (σ ⊕ ρ)} {P : σ → Prop} {z0 : ρ} (h : ∀ s z, f s = some z → (∀ s', z = .inl s' → P s') → (∀ z', z = .inr z' → z' = z0) → P s) : ∀ (k : Nat) (s : σ), lp f k s = some z0 → P s := by
  intro k
  induction k with
  | zero => intro s hF; cases hF
  | succ k ih =>
    intro s hF
    unfold lp at hF
    cases hfs : f s with
    | none => rw [hfs] at hF; cases hF
    | some z =>
      rw [hfs] at hF
      cases z with
      | inl s' => exact h s _ hfs (fun s2 e => by cases e; exact ih s' hF) (fun z' e => by cases e)
      | inr r => exact h s _ hfs (fun s2 e => by cases e) (fun z' e => by cases e; exact Option.some.inj hF)
def ivtdiv (x y : Int) : Option Int := if wr y = 0 then none else some ((wr x).tdiv (wr y))
def ivtmod (x y : Int) : Option Int := if wr y = 0 then none else some ((wr x).tmod (wr y))
def lvtdiv (x y : Int) : Option Int := if wl y = 0 then none else some ((wl x).tdiv (wl y))
def lvtmod (x y : Int) : Option Int := if wl y = 0 then none else some ((wl x).tmod (wl y))
theorem ivtdiv_some {x y v : Int} (h : ivtdiv x y = some v) : wr y ≠ 0 ∧ v = (wr x).tdiv (wr y) := by
  unfold ivtdiv at h; split at h
  · cases h
  · rename_i g; exact ⟨g, (Option.some.inj h).symm⟩
theorem ivtmod_some {x y v : Int} (h : ivtmod x y = some v) : wr y ≠ 0 ∧ v = (wr x).tmod (wr y) := by
  unfold ivtmod at h; split at h
  · cases h
  · rename_i g; exact ⟨g, (Option.some.inj h).symm⟩
theorem lvtdiv_some {x y v : Int} (h : lvtdiv x y = some v) : wl y ≠ 0 ∧ v = (wl x).tdiv (wl y) := by
  unfold lvtdiv at h; split at h
  · cases h
  · rename_i g; exact ⟨g, (Option.some.inj h).symm⟩
theorem lvtmod_some {x y v : Int} (h : lvtmod x y = some v) : wl y ≠ 0 ∧ v = (wl x).tmod (wl y) := by
  unfold lvtmod at h; split at h
  · cases h
  · rename_i g; exact ⟨g, (Option.some.inj h).symm⟩
def bz (x : Int) : Option Int := if x = 0 ∨ x = 1 then some x else none
theorem bz_some {x v : Int} (h : bz x = some v) : (v = 0 ∨ v = 1) ∧ x = v := by
  unfold bz at h; split at h
  · rename_i g; cases Option.some.inj h; exact ⟨g, rfl⟩
  · cases h
def ckX2 (x : Int) : Option Nat := if x = 3 ∨ x = 8 ∨ x = 28 ∨ x = 33 then some x.toNat else none
theorem ck_some {x : Int} {c : Nat} (h : ckX2 x = some c) : isX2 c ∧ x = (c : Int) := by
  unfold ckX2 at h; split at h
  · rename_i g
    have e := Option.some.inj h
    subst e
    rcases g with rfl | rfl | rfl | rfl <;> exact ⟨by simp [isX2], rfl⟩
  · cases h
theorem ck_is {x : Int} {c : Nat} (h : ckX2 x = some c) : isX2 c := (ck_some h).1
theorem dr_of {E : En} {j : Nat} (h : isX2 j) : dr E (j : Int) = rf E j := by
  rcases h with rfl | rfl | rfl | rfl <;> rfl
/-- the place to which the x-th reference of a row leads -/
def rx (a s n : Nat) (x : Int) : Option Nat := if 0 ≤ wr x ∧ wr x < n then some ((wr x).toNat * s + a) else none
theorem rx_some {a s n c : Nat} {x : Int} (h : rx a s n x = some c) : (0 ≤ wr x ∧ wr x < n) ∧ c = (wr x).toNat * s + a := by
  unfold rx at h; split at h
  · rename_i g; exact ⟨g, (Option.some.inj h).symm⟩
  · cases h
theorem rx_k3 {c : Nat} {x : Int} (h : rx 28 5 2 x = some c) : isX2 c := by
  obtain ⟨h1, rfl⟩ := rx_some h
  have : (wr x).toNat < 2 := by omega
  unfold isX2; omega
theorem rx_k4 {c : Nat} {x : Int} (h : rx 38 2 4 x = some c) : isX4 c := by
  obtain ⟨h1, rfl⟩ := rx_some h
  have : (wr x).toNat < 4 := by omega
  unfold isX4; omega
theorem rx_k5 {c : Nat} {x : Int} (h : rx 15 1 6 x = some c) : isI c 41 := by
  obtain ⟨h1, rfl⟩ := rx_some h
  obtain ⟨i, hi, e⟩ : ∃ i : Nat, i < 6 ∧ (wr x).toNat = i := ⟨_, by omega, rfl⟩
  rw [e]
  have : i = 0 ∨ i = 1 ∨ i = 2 ∨ i = 3 ∨ i = 4 ∨ i = 5 := by omega
  rcases this with rfl | rfl | rfl | rfl | rfl | rfl <;> exact ⟨by decide, by decide, fun _ _ => rfl⟩
def mxx (x y : Int) : Int := if wr x < wr y then y else x
def mnn (x y : Int) : Int := if wr y < wr x then y else x
def mab (x : Int) : Int := if 0 ≤ wr x then x else -x
def cpy (M : Mem) (a b n : Nat) : Mem := sr M b (fun j => if j < n then M a j else M b j)
/-- a row filled -/
def fil (M : Mem) (a n : Nat) (x : Int) : Mem := sr M a (fun j => if j < n then x else M a j)
section VROWS2
variable {E : En} {mi : MI} {d pc : Nat} {L : List (Nat × Value)} {stk : List Value} {M : Mem} {Q : Po}
theorem V.nm {x y : Int} (h : x = y) (k : V E mi d pc L (vi y :: stk) M Q) : V E mi d pc L (vi x :: stk) M Q := by rw [h]; exact k
theorem V.nmL {x y : Int} (h : x = y) (k : V E mi d pc L (vl y :: stk) M Q) : V E mi d pc L (vl x :: stk) M Q := by rw [h]; exact k
theorem V.getD {ci N idx j cc : Nat} {fs : List Value} {C : String} {T : u_T} {x : Int} (hck : ckX2 x = some cc) (hj : j < 60) (hc : cf E j (M j) = .inr (ci, fs)) (hcl : vwCl[ci]? = some (C, T, N)) (hin : ∀ w ∈ u_ws C T N, GW w) (f : Nat) (hf : f < N) (hv : fs[f]? = some (dr E x)) (hw : GW (.fieldLink mi.1.cls idx (T f).1 (T f).2.1 (T f).2.2.1)) (hd : decode mi.2.1 pc = .ok (.getfield idx, 3)) (k : V E mi d (pc + 3) L (rf E cc :: stk) M Q) : V E mi d pc L (rf E j :: stk) M Q := by
  refine V.get hj hc hcl hin f hf hv hw hd ?_
  obtain ⟨h1, h2⟩ := ck_some hck
  rw [h2, dr_of h1]
  exact k
theorem kk_cpy (f g : Nat → Int) (n : Nat) : va_cpy (fun k => Int32.ofInt (f k)) (fun k => Int32.ofInt (g k)) 0 0 n = fun j => Int32.ofInt (if j < n then f j else g j) := by
  funext j
  unfold va_cpy
  by_cases h : j < n
  · rw [if_pos ⟨Nat.zero_le _, by omega⟩, if_pos h]; simp
  · rw [if_neg (by omega), if_neg h]
theorem V.acopy {a b n0 n1 k0 idx : Nat} {M1 : Mem} (ha : isI a n0) (hb0 : isI b n1) (hM1 : cpy M a b k0 = M1) (h4 : k0 ≤ n0) (h5 : k0 ≤ n1) (hk0 : k0 < 2 ^ 31) (hlink : GW (.methodLink mi.1.cls idx arraycopyName)) (hn : GW (.native arraycopyName)) (hs : GW (.static arraycopyName)) (hi : GW (.initialized "java/lang/System")) (hrest : (stk.map fun v => v.category).sum ≤ 8) (hd1 : 1 ≤ d) (hd : decode mi.2.1 pc = .ok (.invokestatic idx, 3)) (k : V E mi d (pc + 3) L stk M1 Q) : V E mi d pc L (vi k0 :: vi 0 :: rf E b :: vi 0 :: rf E a :: stk) M Q := by
  intro p e R s m args below meth c H locs ls hx hb hr hml ho hk hR hS hP hT hl
  subst hM1
  have e0 : (Int32.ofInt 0).toNatClampNeg = 0 := by decide
  have en : (Int32.ofInt (k0 : Int)).toNatClampNeg = k0 := by rw [Int32.ofInt_eq_ofNat]; exact nI_clamp hk0
  refine va_copyi (f := fun k => Int32.ofInt (M a k)) (g := fun k => Int32.ofInt (M b k)) (ty := .int) hx hb (by rw [hml, hl.1]) ho (hS.2.1 _ hlink _) (hS.2.1 _ hn _) (hS.2.1 _ hs _) (hS.2.1 _ hi _) hS.1 hP (hS.2.2.2.1 M) hT a b 0 0 (by rw [hp_get E M ha.1, ha.2.2 E]) (by rw [hp_get E M hb0.1, hb0.2.2 E]) rfl rfl rfl (by decide) (by decide) (by rw [Int32.ofInt_eq_ofNat]; exact nI_pos hk0) (by rw [e0, en]; omega) (by rw [e0, en]; omega) (fun _ _ => rfl) (by omega) (by show _ + (7 + 11) ≤ _; omega) hd (fun H locs hP1 _ hT => ?_)
  rw [e0, en, kk_cpy, ← hb0.2.2 E, hp_set E M hb0.1] at hP1
  exact k p e R s m args below meth c H locs ls hx hb hr hml ho hk hR hS hP1 hT hl
theorem V.rmax {x y : Int} {idx : Nat} (hw : GW (.methodLink mi.1.cls idx Lib.Math.max.name)) (hrest : (stk.map fun v => v.category).sum ≤ 8) (hd1 : 1 ≤ d) (hd : decode mi.2.1 pc = .ok (.invokestatic idx, 3)) (k : V E mi d (pc + 3) L (vi (mxx x y) :: stk) M Q) : V E mi d pc L (vi y :: vi x :: stk) M Q := by
  intro p e R s m args below meth c H locs ls hx hb hr hml ho hk hR hS hP hT hl
  refine va_mmax hx hb (by rw [hml, hl.1]) ho (hS.2.1 _ hw _) (hS.2.1 _ gw_mmaxS _) (hS.2.1 _ gw_mathI _) (hS.2.1 _ gw_mmaxC _) (by omega) (by omega) (Nat.zero_le _) (Nat.zero_le _) hd ?_
  have e1 : vi (mxx x y) = Value.int (if Int32.ofInt x < Int32.ofInt y then Int32.ofInt y else Int32.ofInt x) := by
    unfold vi mxx
    by_cases h : wr x < wr y
    · rw [if_pos h, if_pos ((kk_lt x y).mpr h)]
    · rw [if_neg h, if_neg (fun q => h ((kk_lt x y).mp q))]
  rw [← e1]
  exact k p e R s m args below meth c H locs ls hx hb hr hml ho hk hR hS hP hT hl
theorem V.rmin {x y : Int} {idx : Nat} (hw : GW (.methodLink mi.1.cls idx Lib.Math.min.name)) (hrest : (stk.map fun v => v.category).sum ≤ 8) (hd1 : 1 ≤ d) (hd : decode mi.2.1 pc = .ok (.invokestatic idx, 3)) (k : V E mi d (pc + 3) L (vi (mnn x y) :: stk) M Q) : V E mi d pc L (vi y :: vi x :: stk) M Q := by
  intro p e R s m args below meth c H locs ls hx hb hr hml ho hk hR hS hP hT hl
  refine va_mmin hx hb (by rw [hml, hl.1]) ho (hS.2.1 _ hw _) (hS.2.1 _ gw_mminS _) (hS.2.1 _ gw_mathI _) (hS.2.1 _ gw_mminC _) (by omega) (by omega) (Nat.zero_le _) (Nat.zero_le _) hd ?_
  have e1 : vi (mnn x y) = Value.int (if Int32.ofInt y < Int32.ofInt x then Int32.ofInt y else Int32.ofInt x) := by
    unfold vi mnn
    by_cases h : wr y < wr x
    · rw [if_pos h, if_pos ((kk_lt y x).mpr h)]
    · rw [if_neg h, if_neg (fun q => h ((kk_lt y x).mp q))]
  rw [← e1]
  exact k p e R s m args below meth c H locs ls hx hb hr hml ho hk hR hS hP hT hl
theorem V.rabs {x : Int} {idx : Nat} (hw : GW (.methodLink mi.1.cls idx Lib.Math.abs.name)) (hrest : (stk.map fun v => v.category).sum ≤ 8) (hd1 : 1 ≤ d) (hd : decode mi.2.1 pc = .ok (.invokestatic idx, 3)) (k : V E mi d (pc + 3) L (vi (mab x) :: stk) M Q) : V E mi d pc L (vi x :: stk) M Q := by
  intro p e R s m args below meth c H locs ls hx hb hr hml ho hk hR hS hP hT hl
  refine va_mabs hx hb (by rw [hml, hl.1]) ho (hS.2.1 _ hw _) (hS.2.1 _ gw_mabsS _) (hS.2.1 _ gw_mathI _) (hS.2.1 _ gw_mabsC _) (by omega) (by omega) (Nat.zero_le _) (Nat.zero_le _) hd ?_
  have e1 : vi (mab x) = Value.int (if 0 ≤ Int32.ofInt x then Int32.ofInt x else 0 - Int32.ofInt x) := by
    unfold vi mab
    have w0 : wr 0 = 0 := by decide
    by_cases h : 0 ≤ wr x
    · rw [if_pos h, if_pos (show (0 : Int32) ≤ Int32.ofInt x from (kk_le 0 x).mpr (by rw [w0]; exact h))]
    · rw [if_neg h, if_neg (fun q : (0 : Int32) ≤ Int32.ofInt x => h (by have g := (kk_le 0 x).mp q; rw [w0] at g; exact g)), Int32.ofInt_neg]
      simp
  rw [← e1]
  exact k p e R s m args below meth c H locs ls hx hb hr hml ho hk hR hS hP hT hl
/-- a call on a string constant -/
theorem V.callString {mi' : MI} {d' n idx i : Nat} {Q' : Po} (As rest : List Value) {stk0 : List Value} (hM : Cn E mi' d' (.ref (eK E i) :: As) M Q') (hok : OKV mi' n) (hlink : GW (.methodLink mi.1.cls idx mi'.1)) (hn : As.length = n) (hst : stk0 = As.reverse ++ .ref (eK E i) :: rest) (hcs : mi'.1.cls = "java/lang/String") (hi : i < 11) (hrest : (rest.map fun v => v.category).sum ≤ 8) (hdd : d' + 1 ≤ d) (hd : decode mi.2.1 pc = .ok (.invokevirtual idx, 3)) (k : ∀ (r : Option Value) (M' : Mem), Q' r M' → V E mi d (pc + 3) L (r.toList ++ rest) M' Q) : V E mi d pc L stk0 M Q := by
  intro p e R s m args below meth c H locs ls hx hb hr hml ho hk hR hS hP hT hl
  obtain ⟨o1, o2, o3, o4, o5, o6⟩ := hok
  let Ts : List Cond := wsV mi.1.cls idx mi'.1.cls mi'.1 [.code mi'.1 mi'.2.1 mi'.2.2.1 mi'.2.2.2]
  have hg : ∀ w ∈ Ts, GW w := by
    intro w hw
    simp only [Ts, wsV, List.cons_append, List.nil_append, List.mem_cons, List.not_mem_nil, or_false] at hw
    rcases hw with rfl | rfl | rfl | rfl | rfl
    · exact hlink
    · exact o1
    · exact o2
    · exact o3
    · exact o4
  have hts : ∀ w ∈ Ts, w.before args s = true := fun w h => hS.2.1 w (hg w h) _
  have hrc := vk_recv hS.2.2.2.2.1 hi hT
  rw [← hcs] at hrc
  refine kk_run (va_runV (As := As) (rest := rest) (b := eK E i) (C := mi'.1.cls) (Ts := Ts) (n := n) (bytes := mi'.2.1) (maxL := mi'.2.2.1) (ret := mi'.2.2.2) ⟨hx, hb, hml, ho, hts⟩ hM (cwV n hts (kk_good hg) rfl rfl rfl ⟨rfl, o5⟩ ⟨by show d' + 1 ≤ _; omega, by show 8 + (_ + 11) + 60 * d' ≤ _; omega⟩) ⟨kk_blind _, hrc, fun U hU hW => ⟨rfl, SF.moved hW (fun q h1 h2 => by rw [hU]; exact hT.2.1 q h1 h2) hS, by rw [hU]; exact hP⟩⟩ rfl hn hl.1 hst (by show 2 * 0 + _ ≤ 8; omega) hd ⟨Nat.zero_le _, Nat.zero_le _⟩) hT (fun r M' H locs hq hP hT => k r M' hq p e R s m args below meth c H locs ls hx hb hr hml ho hk hR hS hP hT hl)
/-- the fields and bytes of a string constant -/
theorem V.getSv {i idx : Nat} (hi : i < 11) (hw : GW (.fieldLink mi.1.cls idx "java/lang/String" "value" "[B")) (hd : decode mi.2.1 pc = .ok (.getfield idx, 3)) (k : V E mi d (pc + 3) L (.ref (eV E i) :: stk) M Q) : V E mi d pc L (.ref (eK E i) :: stk) M Q := k.step (fun p e R s m args below meth c H locs ls Z hx hb ho hS hP hT hl k => vk_getf hx hb (hS.2.2.2.2.1.1 i hi).2.2.1 hT ho (hS.2.1 _ hw _) (fun _ h => h) hd k)
theorem V.getSc {i idx : Nat} (hi : i < 11) (hw : GW (.fieldLink mi.1.cls idx "java/lang/String" "coder" "B")) (hd : decode mi.2.1 pc = .ok (.getfield idx, 3)) (k : V E mi d (pc + 3) L (vi 0 :: stk) M Q) : V E mi d pc L (.ref (eK E i) :: stk) M Q := k.step (fun p e R s m args below meth c H locs ls Z hx hb ho hS hP hT hl k => vk_getf hx hb (hS.2.2.2.2.1.1 i hi).2.1 hT ho (hS.2.1 _ hw _) (fun _ h => h) hd k)
theorem V.getCS {idx : Nat} (hw : GW (.fieldLink mi.1.cls idx "java/lang/String" "COMPACT_STRINGS" "Z")) (hd : decode mi.2.1 pc = .ok (.getstatic idx, 3)) (k : V E mi d (pc + 3) L (vi 1 :: stk) M Q) : V E mi d pc L stk M Q := k.step (fun p e R s m args below meth c H locs ls Z hx hb ho hS hP hT hl k => va_gets hx hb hS.2.2.2.2.2.2.1 hT ho (hS.2.1 _ hw _) (fun _ h => h) hd k)
theorem V.getSIO {idx : Nat} (hw : GW (.fieldLink mi.1.cls idx "jdk/internal/util/Preconditions" "SIOOBE_FORMATTER" "Ljava/util/function/BiFunction;")) (hd : decode mi.2.1 pc = .ok (.getstatic idx, 3)) (k : ∀ v : Value, v.category = 1 → V E mi d (pc + 3) L (v :: stk) M Q) : V E mi d pc L stk M Q := by
  intro p e R s m args below meth c H locs ls hx hb hr hml ho hk hR hS hP hT hl
  rcases hS.2.2.2.2.2.2.2 with hZ | ⟨t, hZ⟩
  · exact va_gets hx hb hZ hT ho (hS.2.1 _ hw _) (fun _ h => h) hd (k .null rfl p e R s m args below meth c H locs ls hx hb hr hml ho hk hR hS hP hT hl)
  · exact va_gets hx hb hZ hT ho (hS.2.1 _ hw _) (fun _ h => h) hd (k (.ref t) rfl p e R s m args below meth c H locs ls hx hb hr hml ho hk hR hS hP hT hl)
def slen (i : Nat) : Int := (lenS.getD i 0 : Nat)
def schr (i : Nat) (x : Int) : Option Int := if 0 ≤ wr x ∧ wr x < slen i then some (((bytS.getD i []).getD (wr x).toNat 0).toInt) else none
theorem schr_some {i : Nat} {x v : Int} (h : schr i x = some v) : (0 ≤ wr x ∧ wr x < slen i) ∧ v = ((bytS.getD i []).getD (wr x).toNat 0).toInt := by
  unfold schr at h; split at h
  · rename_i g; exact ⟨g, (Option.some.inj h).symm⟩
  · cases h
theorem V.strlen {i : Nat} (hi : i < 11) (hd : decode mi.2.1 pc = .ok (.arraylength, 1)) (k : V E mi d (pc + 1) L (vi (slen i) :: stk) M Q) : V E mi d pc L (.ref (eV E i) :: stk) M Q := k.step (fun p e R s m args below meth c H locs ls Z hx hb ho hS hP hT hl k => va_tlen hx hb (hS.2.2.2.2.1.1 i hi).2.2.2 hT (Int32.ofInt_eq_ofNat (n := lenS.getD i 0)).symm hd k)
theorem V.sbyte {i : Nat} {x v : Int} (hi : i < 11) (h : schr i x = some v) (hd : decode mi.2.1 pc = .ok (.baload, 1)) (k : V E mi d (pc + 1) L (vi v :: stk) M Q) : V E mi d pc L (vi x :: .ref (eV E i) :: stk) M Q := by
  intro p e R s m args below meth c H locs ls hx hb hr hml ho hk hR hS hP hT hl
  obtain ⟨g, rfl⟩ := schr_some h
  refine va_tb hx hb (hS.2.2.2.2.1.1 i hi).2.2.2 hT (kk_in (by unfold slen at g; exact g)) (v := vi (((bytS.getD i []).getD (wr x).toNat 0).toInt)) ?_ hd (k p e R s m args below meth c H locs ls hx hb hr hml ho hk hR hS hP hT hl)
  show Value.int ((bytS.getD i []).getD (wr x).toNat 0) = _
  unfold vi
  rw [Int32.ofInt_toInt]
theorem V.i2c {x y : Int} (hy : ((Int32.ofInt x).toUInt32 % 65536).toInt32 = Int32.ofInt y) (hd : decode mi.2.1 pc = .ok (.i2c, 1)) (k : V E mi d (pc + 1) L (vi y :: stk) M Q) : V E mi d pc L (vi x :: stk) M Q := k.step (fun p e R s m args below meth c H locs ls Z hx hb ho hS hP hT hl k => lv_i2c hx hb hd hy k)
theorem V.nret {x : Int} {ty : FieldType} (hr0 : mi.2.2.2 = some ty) (hz : narrow ty (.int (Int32.ofInt x)) = .int (Int32.ofInt x)) (hd : decode mi.2.1 pc = .ok (.ireturn, 1)) (hq : Q (some (vi x)) M) : V E mi d pc L [vi x] M Q := by
  intro p e R s m args below meth c H locs ls hx hb hr hml ho hk hR hS hP hT hl
  exact W.zret hx hb (hr.trans hr0) hz (fun t ht _ => ⟨⟨_, M, rfl, hq, by rw [ht]; exact hP⟩, kk_F hT ht⟩) (fun q h => hT.2.2 q h) hd hk
end VROWS2
