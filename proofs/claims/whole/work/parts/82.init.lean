/-! constructors: a world that grows -/
def va_AOA (t : FieldType) (U : State) : Prop := (Cond.arrayOver (.array t)).before #[] U = true
theorem va_AOA.use {t : FieldType} {A : Array Value} {U : State} (h : va_AOA t U) : (Cond.arrayOver (.array t)).before A U = true := h
theorem va_AOA.moved {t : FieldType} {s U : State} (hvm : s.vm.Alike U.vm) (h : va_AOA t s) : va_AOA t U :=
  (show (Cond.arrayOver (.array t)).before #[] U = (Cond.arrayOver (.array t)).before #[] (s.setVm U.vm) from rfl).trans ((Cond.arrayOver_setVmC hvm (.array t)).trans h)
def SG (E : En) (s : State) : Prop := va_K (eD E) vwCl (tys E) s ∧ (∀ w, GW w → ∀ a : Array Value, w.before a s = true) ∧ (∀ q ∈ nwl, va_Nw (.methodLinkNest q.1 q.2.1 q.2.2.1 q.2.2.2) s) ∧ eB E ≤ s.heap.size ∧ va_AO "FatLean$Court" s ∧ va_AO "FatLean$Sheet" s ∧ va_AOA .int s
theorem SG.moved {E : En} {s U : State} (hW : s.WarmedH U.vm) (hh : s.heap.size ≤ U.heap.size) (h : SG E s) : SG E U := by
  obtain ⟨h1, h2, h3, h4, h5, h6, h7⟩ := h
  exact ⟨va_K.moved hW.alike h1, fun w hw a => word_at hW (good_of_word hw.2) (h2 w hw #[]), fun q hq => va_Nw.warmM hW (h3 q hq), Nat.le_trans h4 hh, va_AO.moved hW.alike h5, va_AO.moved hW.alike h6, va_AOA.moved hW.alike h7⟩
def Qi (E : En) (pre : va_W) (Q : va_W → Prop) : Array Value → State → Outcome → State → Prop := fun _ s0 oc t => (∃ suf : va_W, oc = .returned none ∧ Q suf ∧ va_P (eD E) vwCl (pre ++ suf) t.heap ∧ va_D (AA E) (pre ++ suf)) ∧ va_F (AA E) s0 t
abbrev ri (d kc ks : Nat) : Room := { frames := d, cells := kc, slots := ks, locals := 60 * d }
def Ci (E : En) (mi : MI) (d kc ks : Nat) (args : List Value) (pre suf : va_W) (Q : va_W → Prop) : Prop :=
  Met (eL E) mi.1 [.code mi.1 mi.2.1 mi.2.2.1 mi.2.2.2] (ri d kc ks) (va_Pc args (fun U => SG E U ∧ va_P (eD E) vwCl (pre ++ suf) U.heap ∧ va_D (AA E) (pre ++ suf))) (Qi E pre Q) kc ks (AA E)
def I (E : En) (mi : MI) (d pc : Nat) (L : List (Nat × Value)) (stk : List Value) (pre suf : va_W) (k n kc ks : Nat) (Q : va_W → Prop) : Prop :=
  ∀ (p : Program) (e : Env) (R : Room) (s : State) (m : MethodId) (args : Array Value) (below : List Frame) (meth : Method) (c : Code) (H : Heap) (locs : List Loc) (ls : Array Slot),
    p.tables.exec = Jvm.exec → c.code = mi.2.1 → meth.sig.returnType = mi.2.2.2 → c.maxLocals = mi.2.2.1 → s.vm.findClass mi.1.cls = some m.cls → meth.locks = false → meth.name = mi.1.name → (d ≤ R.frames ∧ 60 * d ≤ R.locals ∧ kc ≤ R.cells ∧ ks ≤ R.slots) →
    SG E s → va_P (eD E) vwCl (pre ++ suf) H → va_D (AA E) (pre ++ suf) → va_S (AA E) s.heap H locs → lv_has ls mi.2.2.1 L →
    W p (eL E) e R s m args below meth c H locs k n (MQ below (Qi E pre Q) args s kc ks (AA E)) (F0 m pc ls stk)
theorem I.entry {E : En} {mi : MI} {d kc ks : Nat} {args : List Value} {pre suf : va_W} {Q : va_W → Prop} (hcls : plainName mi.1.cls = true) (hlen : (lg_sl args).length ≤ mi.2.2.1) (h : I E mi d 0 (lv_args 0 args) [] pre suf 0 0 kc ks Q) : Ci E mi d kc ks args pre suf Q := by
  refine Met.ofW (cc := mi.2.1) (maxL := mi.2.2.1) (ret := mi.2.2.2) hcls rfl ?_
  intro p e s m as below meth c s₁ B hml hv
  obtain ⟨rfl, hS, hP, hD⟩ := hv
  rw [lg_entry_eq]
  exact h p e _ s m _ below meth c s.heap [] _ B.exec B.bytes B.returns hml (findClass_of_methodNamed B.named) B.notSynchronized (name_of_methodNamed B.named B.method).1 ⟨Nat.le_refl _, Nat.le_refl _, Nat.le_refl _, Nat.le_refl _⟩ hS hP hD va_S.rf (lv_entry args hlen)
def zr : Nat → Int := fun _ => 0
theorem zr_0 : Int32.ofInt 0 = (0 : Int32) := by decide
theorem zr_0L : Int64.ofInt 0 = (0 : Int64) := by decide
theorem ap_get {pre suf : va_W} {i : Nat} {x : Nat × va_E} (h : suf[i]? = some x) : (pre ++ suf)[pre.length + i]? = some x := by
  rw [List.getElem?_append_right (by omega), show pre.length + i - pre.length = i by omega]; exact h
theorem ap_set0 {α : Type} (l s : List α) (i : Nat) (x : α) : (l ++ s).set (l.length + i) x = l ++ s.set i x := by
  rw [List.set_append_right _ _ (by omega), show l.length + i - l.length = i by omega]
theorem ha_0 (N : Nat) (cA : ClassId) : vp_cell cA (N, .inl (fun k => Int32.ofInt (zr k))) = arrV cA N (fun _ => defaultValue .int) := by
  rw [show (fun k => Int32.ofInt (zr k)) = (fun _ => (0 : Int32)) from funext (fun _ => zr_0)]; rfl
theorem ha_1 (N : Nat) (cA : ClassId) : vp_cell cA (N, .inl (fun k => Int32.ofInt (zr k))) = arrV cA N (fun _ => defaultValue .boolean) := by
  rw [show (fun k => Int32.ofInt (zr k)) = (fun _ => (0 : Int32)) from funext (fun _ => zr_0)]; rfl
theorem ha_2 (N : Nat) (cA : ClassId) : vp_cell cA (N, .inr (.inl (fun k => Int64.ofInt (zr k)))) = arrV cA N (fun _ => defaultValue .long) := by
  rw [show (fun k => Int64.ofInt (zr k)) = (fun _ => (0 : Int64)) from funext (fun _ => zr_0L)]; rfl
theorem ap_set {pre suf : va_W} {i : Nat} {x : Nat × va_E} : (pre ++ suf).set (pre.length + i) x = pre ++ suf.set i x := ap_set0 pre suf i x
theorem kn_0 {E : En} {D : va_G} {cl : List vw_C} {s : State} {cA : ClassId} (h : va_K D cl (tys E ++ [(cA, .int)]) s) : cA = eC E 0 := Option.some.inj ((h.2 6 (cA, .int) rfl).2.symm.trans (h.2 0 (eC E 0, .int) rfl).2)
theorem kn_1 {E : En} {D : va_G} {cl : List vw_C} {s : State} {cA : ClassId} (h : va_K D cl (tys E ++ [(cA, .boolean)]) s) : cA = eC E 1 := Option.some.inj ((h.2 6 (cA, .boolean) rfl).2.symm.trans (h.2 1 (eC E 1, .boolean) rfl).2)
theorem kn_2 {E : En} {D : va_G} {cl : List vw_C} {s : State} {cA : ClassId} (h : va_K D cl (tys E ++ [(cA, .long)]) s) : cA = eC E 2 := Option.some.inj ((h.2 6 (cA, .long) rfl).2.symm.trans (h.2 2 (eC E 2, .long) rfl).2)
theorem kn_3 {E : En} {D : va_G} {cl : List vw_C} {s : State} {cA : ClassId} (h : va_K D cl (tys E ++ [(cA, .object "FatLean$Court")]) s) : cA = eC E 3 := by
  obtain ⟨-, -, -, -, -, a⟩ := (h.2 6 (cA, .object "FatLean$Court") rfl).2
  obtain ⟨-, -, -, -, -, b⟩ := (h.2 3 (eC E 3, .object "FatLean$Court") rfl).2
  exact Option.some.inj (a.symm.trans b)
theorem kn_4 {E : En} {D : va_G} {cl : List vw_C} {s : State} {cA : ClassId} (h : va_K D cl (tys E ++ [(cA, .object "FatLean$Sheet")]) s) : cA = eC E 4 := by
  obtain ⟨-, -, -, -, -, a⟩ := (h.2 6 (cA, .object "FatLean$Sheet") rfl).2
  obtain ⟨-, -, -, -, -, b⟩ := (h.2 4 (eC E 4, .object "FatLean$Sheet") rfl).2
  exact Option.some.inj (a.symm.trans b)
theorem kn_5 {E : En} {D : va_G} {cl : List vw_C} {s : State} {cA : ClassId} (h : va_K D cl (tys E ++ [(cA, .array .int)]) s) : cA = eC E 5 := Option.some.inj ((h.2 6 (cA, .array .int) rfl).2.symm.trans (h.2 5 (eC E 5, .array .int) rfl).2)
abbrev arI (E : En) (n : Nat) (r : Nat → Int) : va_E := .inl (eC E 0, n, .inl (fun k => Int32.ofInt (r k)))
abbrev arZ (E : En) (n : Nat) (r : Nat → Int) : va_E := .inl (eC E 1, n, .inl (fun k => Int32.ofInt (r k)))
abbrev arJ (E : En) (n : Nat) (r : Nat → Int) : va_E := .inl (eC E 2, n, .inr (.inl (fun k => Int64.ofInt (r k))))
abbrev arR (E : En) (t n : Nat) (f : Nat → Option Nat) : va_E := .inl (eC E t, n, .inr (.inr (.inr (.inr f))))
section IROWS
variable {E : En} {mi : MI} {d pc : Nat} {L : List (Nat × Value)} {stk : List Value} {pre suf : va_W} {k n kc ks : Nat} {Q : va_W → Prop}
theorem I.step {pc' : Nat} {stk' : List Value} (kk : I E mi d pc' L stk' pre suf k n kc ks Q)
    (h : ∀ (p : Program) (e : Env) (R : Room) (s : State) (m : MethodId) (args : Array Value) (below : List Frame) (meth : Method) (c : Code) (H : Heap) (locs : List Loc) (ls : Array Slot) (Z : State → Prop),
      p.tables.exec = Jvm.exec → c.code = mi.2.1 → c.maxLocals = mi.2.2.1 → s.vm.findClass mi.1.cls = some m.cls → (d ≤ R.frames ∧ 60 * d ≤ R.locals ∧ kc ≤ R.cells ∧ ks ≤ R.slots) → SG E s → va_P (eD E) vwCl (pre ++ suf) H → va_S (AA E) s.heap H locs → lv_has ls mi.2.2.1 L → W p (eL E) e R s m args below meth c H locs k n Z (F0 m pc' ls stk') → W p (eL E) e R s m args below meth c H locs k n Z (F0 m pc ls stk)) : I E mi d pc L stk pre suf k n kc ks Q := by
  intro p e R s m args below meth c H locs ls hx hb hr hml ho hk hnm hR hS hP hD hT hl
  exact h p e R s m args below meth c H locs ls _ hx hb hml ho hR hS hP hT hl (kk p e R s m args below meth c H locs ls hx hb hr hml ho hk hnm hR hS hP hD hT hl)
theorem I.aload0 {x : Nat} (hd : decode mi.2.1 pc = .ok (.aload_n 0, 1)) (hj : L[0]? = some (0, Value.ref x)) (kk : I E mi d (pc + 1) L (Value.ref x :: stk) pre suf k n kc ks Q) : I E mi d pc L stk pre suf k n kc ks Q := kk.step (fun p e R s m args below meth c H locs ls Z hx hb hml ho hR hS hP hT hl k => lv_aload_n hx hb hd rfl (lv_at hl 0 hj) k)
theorem I.aloadL {x : Nat} (j : Nat) (hd : decode mi.2.1 pc = .ok (.aload_n 0, 1)) (hj : L[j]? = some (0, Value.ref x)) (kk : I E mi d (pc + 1) L (Value.ref x :: stk) pre suf k n kc ks Q) : I E mi d pc L stk pre suf k n kc ks Q := kk.step (fun p e R s m args below meth c H locs ls Z hx hb hml ho hR hS hP hT hl k => lv_aload_n hx hb hd rfl (lv_at hl j hj) k)
theorem I.iload_n {x : Int} (n0 : Fin 4) (i j : Nat) (hi : (n0 : Nat) = i) (hd : decode mi.2.1 pc = .ok (.iload_n n0, 1)) (hj : L[j]? = some (i, vi x)) (kk : I E mi d (pc + 1) L (vi x :: stk) pre suf k n kc ks Q) : I E mi d pc L stk pre suf k n kc ks Q := kk.step (fun p e R s m args below meth c H locs ls Z hx hb hml ho hR hS hP hT hl k => lv_iload_n hx hb hd hi (lv_at hl j hj) k)
theorem I.iconst (x : Int) (hd : decode mi.2.1 pc = .ok (.iconst x, 1)) (kk : I E mi d (pc + 1) L (vi x :: stk) pre suf k n kc ks Q) : I E mi d pc L stk pre suf k n kc ks Q := kk.step (fun p e R s m args below meth c H locs ls Z hx hb hml ho hR hS hP hT hl k => lv_iconst hx hb hd rfl k)
theorem I.bipush (x : Int) (hx0 : (Int8.ofInt x).toInt32 = Int32.ofInt x) (hd : decode mi.2.1 pc = .ok (.bipush x, 2)) (kk : I E mi d (pc + 2) L (vi x :: stk) pre suf k n kc ks Q) : I E mi d pc L stk pre suf k n kc ks Q := kk.step (fun p e R s m args below meth c H locs ls Z hx hb hml ho hR hS hP hT hl k => lv_bipush hx hb hd hx0 k)
theorem I.sipush (x : Int) (hx0 : (Int16.ofInt x).toInt32 = Int32.ofInt x) (hd : decode mi.2.1 pc = .ok (.sipush x, 3)) (kk : I E mi d (pc + 3) L (vi x :: stk) pre suf k n kc ks Q) : I E mi d pc L stk pre suf k n kc ks Q := kk.step (fun p e R s m args below meth c H locs ls Z hx hb hml ho hR hS hP hT hl k => lv_sipush hx hb hd hx0 k)
theorem I.dup {v : Value} (hv : v.category = 1) (hd : decode mi.2.1 pc = .ok (.dup, 1)) (kk : I E mi d (pc + 1) L (v :: v :: stk) pre suf k n kc ks Q) : I E mi d pc L (v :: stk) pre suf k n kc ks Q := kk.step (fun p e R s m args below meth c H locs ls Z hx hb hml ho hR hS hP hT hl k => lv_dup hx hb hd hv k)
theorem I.goto {off : Int} {tgt : Nat} (hd : decode mi.2.1 pc = .ok (.goto off, 3)) (ht : (pc : Int) + off = (tgt : Int)) (kk : I E mi d tgt L stk pre suf k n kc ks Q) : I E mi d pc L stk pre suf k n kc ks Q := kk.step (fun p e R s m args below meth c H locs ls Z hx hb hml ho hR hS hP hT hl k => lv_goto hx hb hd ht k)
theorem I.istore_n {x : Int} (n0 : Fin 4) (i : Nat) (L' : List (Nat × Value)) (hi : (n0 : Nat) = i) (hd : decode mi.2.1 pc = .ok (.istore_n n0, 1)) (hn : i < mi.2.2.1) (hL : (i, vi x) :: L.filter (fun q => !(q.1 == i) && !(q.1 + 1 == i && q.2.category == 2)) = L') (kk : I E mi d (pc + 1) L' stk pre suf k n kc ks Q) : I E mi d pc L (vi x :: stk) pre suf k n kc ks Q := by
  intro p e R s m args below meth c H locs ls hx hb hr hml ho hk hnm hR hS hP hD hT hl
  exact lv_istore_n hx hb hd hi hl hn hL (fun ls hl => kk p e R s m args below meth c H locs ls hx hb hr hml ho hk hnm hR hS hP hD hT hl)
theorem I.iinc {x : Int} (i j : Nat) (n0 : Int) (L' : List (Nat × Value)) (hd : decode mi.2.1 pc = .ok (.iinc i n0, 3)) (hj : L[j]? = some (i, vi x)) (hn : i < mi.2.2.1) (hL : (i, vi (x + n0)) :: L.filter (fun q => !(q.1 == i) && !(q.1 + 1 == i && q.2.category == 2)) = L') (kk : I E mi d (pc + 3) L' stk pre suf k n kc ks Q) : I E mi d pc L stk pre suf k n kc ks Q := by
  intro p e R s m args below meth c H locs ls hx hb hr hml ho hk hnm hR hS hP hD hT hl
  exact lv_iinc hx hb hd hl hj (Int32.ofInt_add x n0).symm hn hL (fun ls hl => kk p e R s m args below meth c H locs ls hx hb hr hml ho hk hnm hR hS hP hD hT hl)
theorem I.icmp_ge {x y off : Int} {tgt : Nat} (hd : decode mi.2.1 pc = .ok (.if_icmp .ge off, 3)) (ht : (pc : Int) + off = (tgt : Int)) (kt : Int32.ofInt y ≤ Int32.ofInt x → I E mi d tgt L stk pre suf k n kc ks Q) (kf : ¬ Int32.ofInt y ≤ Int32.ofInt x → I E mi d (pc + 3) L stk pre suf k n kc ks Q) : I E mi d pc L (vi y :: vi x :: stk) pre suf k n kc ks Q := by
  intro p e R s m args below meth c H locs ls hx hb hr hml ho hk hnm hR hS hP hD hT hl
  exact lv_icmp_ge hx hb hd ht (fun h => kt h p e R s m args below meth c H locs ls hx hb hr hml ho hk hnm hR hS hP hD hT hl) (fun h => kf h p e R s m args below meth c H locs ls hx hb hr hml ho hk hnm hR hS hP hD hT hl)
theorem I.objInit {a idx : Nat} (hw1 : GW (.methodLink mi.1.cls idx objectInit)) (hw2 : GW (.instanceMethod objectInit)) (hw3 : GW (.code objectInit ⟨#[0xb1]⟩ 1 none)) (hd1 : 1 ≤ d) (hst : (stk.map fun v => v.category).sum ≤ 8) (hd : decode mi.2.1 pc = .ok (.invokespecial idx, 3)) (kk : I E mi d (pc + 3) L stk pre suf k n kc ks Q) : I E mi d pc L (Value.ref a :: stk) pre suf k n kc ks Q := kk.step (fun p e R s m args below meth c H locs ls Z hx hb hml ho hR hS hP hT hl k => W.objInit hx hb ho (hS.2.1 _ hw1 _) (hS.2.1 _ hw2 _) (hS.2.1 _ hw3 _) rfl (by rw [hml]; exact hl.1) rfl hd (by omega) (by show 2 * 0 + _ + 12 ≤ _; omega) k)
set_option maxHeartbeats 200000 in
theorem I.newI {x : Int} {N : Nat} (hN : (Int32.ofInt x).toNatClampNeg = N) (h0 : ¬ Int32.ofInt x < 0) (hby : N * 4 ≤ 536870912) (hw : GW (.arrayClass .int)) (hk1 : k + 1 ≤ kc) (hn1 : n + N ≤ ks) (hd : decode mi.2.1 pc = .ok (.newarray .int, 2)) (kk : ∀ q : Nat, I E mi d (pc + 2) L (Value.ref q :: stk) pre (suf ++ [(q, arI E N zr)]) (k + 1) (n + N) kc ks Q) : I E mi d pc L (vi x :: stk) pre suf k n kc ks Q := by
  intro p e R s m args below meth c H locs ls hx hb hr hml ho hk hnm hR hS hP hD hT hl
  refine va_newa (a0 := (N, .inl (fun k => Int32.ofInt (zr k)))) (atype := .int) (ty := .int) hx hb (hS.2.1 _ hw _) rfl hS.1 hP hD hT (fun q h => Nat.le_trans hS.2.2.2.1 h) (ha_0 N) h0 hN hby (by omega) (by omega) hd (fun q cA H1 hK1 hP1 hD1 hT1 => ?_)
  obtain rfl : cA = eC E 0 := kn_0 (E := E) hK1
  rw [List.append_assoc] at hP1 hD1
  exact kk q p e R s m args below meth c H1 locs ls hx hb hr hml ho hk hnm hR hS hP1 hD1 hT1 hl
set_option maxHeartbeats 200000 in
theorem I.newZ {x : Int} {N : Nat} (hN : (Int32.ofInt x).toNatClampNeg = N) (h0 : ¬ Int32.ofInt x < 0) (hby : N * 1 ≤ 536870912) (hw : GW (.arrayClass .boolean)) (hk1 : k + 1 ≤ kc) (hn1 : n + N ≤ ks) (hd : decode mi.2.1 pc = .ok (.newarray .boolean, 2)) (kk : ∀ q : Nat, I E mi d (pc + 2) L (Value.ref q :: stk) pre (suf ++ [(q, arZ E N zr)]) (k + 1) (n + N) kc ks Q) : I E mi d pc L (vi x :: stk) pre suf k n kc ks Q := by
  intro p e R s m args below meth c H locs ls hx hb hr hml ho hk hnm hR hS hP hD hT hl
  refine va_newa (a0 := (N, .inl (fun k => Int32.ofInt (zr k)))) (atype := .boolean) (ty := .boolean) hx hb (hS.2.1 _ hw _) rfl hS.1 hP hD hT (fun q h => Nat.le_trans hS.2.2.2.1 h) (ha_1 N) h0 hN hby (by omega) (by omega) hd (fun q cA H1 hK1 hP1 hD1 hT1 => ?_)
  obtain rfl : cA = eC E 1 := kn_1 (E := E) hK1
  rw [List.append_assoc] at hP1 hD1
  exact kk q p e R s m args below meth c H1 locs ls hx hb hr hml ho hk hnm hR hS hP1 hD1 hT1 hl
set_option maxHeartbeats 200000 in
theorem I.newJ {x : Int} {N : Nat} (hN : (Int32.ofInt x).toNatClampNeg = N) (h0 : ¬ Int32.ofInt x < 0) (hby : N * 8 ≤ 536870912) (hw : GW (.arrayClass .long)) (hk1 : k + 1 ≤ kc) (hn1 : n + N ≤ ks) (hd : decode mi.2.1 pc = .ok (.newarray .long, 2)) (kk : ∀ q : Nat, I E mi d (pc + 2) L (Value.ref q :: stk) pre (suf ++ [(q, arJ E N zr)]) (k + 1) (n + N) kc ks Q) : I E mi d pc L (vi x :: stk) pre suf k n kc ks Q := by
  intro p e R s m args below meth c H locs ls hx hb hr hml ho hk hnm hR hS hP hD hT hl
  refine va_newa (a0 := (N, .inr (.inl (fun k => Int64.ofInt (zr k))))) (atype := .long) (ty := .long) hx hb (hS.2.1 _ hw _) rfl hS.1 hP hD hT (fun q h => Nat.le_trans hS.2.2.2.1 h) (ha_2 N) h0 hN hby (by omega) (by omega) hd (fun q cA H1 hK1 hP1 hD1 hT1 => ?_)
  obtain rfl : cA = eC E 2 := kn_2 (E := E) hK1
  rw [List.append_assoc] at hP1 hD1
  exact kk q p e R s m args below meth c H1 locs ls hx hb hr hml ho hk hnm hR hS hP1 hD1 hT1 hl
theorem I.put {ci N idx i f a : Nat} {fs : List Value} {C : String} {T : u_T} {v : Value} {ty : FieldType} {suf' : va_W} (he : suf[i]? = some (a, .inr (ci, fs))) (hcl : vwCl[ci]? = some (C, T, N)) (hin : ∀ w ∈ u_ws C T N, GW w) (ty0 : Nat → FieldType) (hty : ∀ k, k < N → parseFieldDescriptor (T k).2.2.1 = some (ty0 k)) (hnm0 : ∀ a, a < N → ∀ b, b < N → a ≠ b → (T a).2.1 ≠ (T b).2.1) (hf : f < N) (hfin : (T f).2.2.2 = false) (hdt : parseFieldDescriptor (T f).2.2.1 = some ty) (hn0 : narrow ty v = v) (hfit : fits ty v = true) (hlen : f < fs.length) (hset : suf.set i (a, .inr (ci, fs.set f v)) = suf') (hw : GW (.fieldLink mi.1.cls idx (T f).1 (T f).2.1 (T f).2.2.1)) (hd : decode mi.2.1 pc = .ok (.putfield idx, 3)) (kk : I E mi d (pc + 3) L stk pre suf' k n kc ks Q) : I E mi d pc L (v :: Value.ref a :: stk) pre suf k n kc ks Q := by
  intro p e R s m args below meth c H locs ls hx hb hr hml ho hk hnm hR hS hP hD hT hl
  refine va_put (Ts := u_ws C T N) hx hb (fun w h => hS.2.1 w (hin w h) _) (fun _ h => h) ty0 hty hnm0 ho hS.1 hP hD hT (pre.length + i) (fs := fs) (ap_get he) hcl f hf (hS.2.1 _ hw _) (fun _ h => h) hfin hdt hn0 hfit hlen hd (fun H locs hP1 hD1 hT1 => ?_)
  rw [ap_set, hset] at hP1 hD1
  exact kk p e R s m args below meth c H locs ls hx hb hr hml ho hk hnm hR hS hP1 hD1 hT1 hl
theorem I.putF {ci N idx i f a : Nat} {fs : List Value} {C : String} {T : u_T} {v : Value} {ty : FieldType} {suf' : va_W} (he : suf[i]? = some (a, .inr (ci, fs))) (hcl : vwCl[ci]? = some (C, T, N)) (hin : ∀ w ∈ u_ws C T N, GW w) (ty0 : Nat → FieldType) (hty : ∀ k, k < N → parseFieldDescriptor (T k).2.2.1 = some (ty0 k)) (hnm0 : ∀ a, a < N → ∀ b, b < N → a ≠ b → (T a).2.1 ≠ (T b).2.1) (hf : f < N) (hfin : (T f).2.2.2 = true) (hini : mi.1.name = "<init>") (hdecl : (T f).1 = mi.1.cls) (hdt : parseFieldDescriptor (T f).2.2.1 = some ty) (hn0 : narrow ty v = v) (hfit : fits ty v = true) (hlen : f < fs.length) (hset : suf.set i (a, .inr (ci, fs.set f v)) = suf') (hw : GW (.fieldLink mi.1.cls idx (T f).1 (T f).2.1 (T f).2.2.1)) (hd : decode mi.2.1 pc = .ok (.putfield idx, 3)) (kk : I E mi d (pc + 3) L stk pre suf' k n kc ks Q) : I E mi d pc L (v :: Value.ref a :: stk) pre suf k n kc ks Q := by
  intro p e R s m args below meth c H locs ls hx hb hr hml ho hk hnm hR hS hP hD hT hl
  refine va_putF (Ts := u_ws C T N) hx hb (fun w h => hS.2.1 w (hin w h) _) (fun _ h => h) ty0 hty hnm0 ho hS.1 hP hD hT (pre.length + i) (fs := fs) (ap_get he) hcl f hf (hS.2.1 _ hw _) (fun _ h => h) hfin (hnm.trans hini) hdecl hdt hn0 hfit hlen hd (fun H locs hP1 hD1 hT1 => ?_)
  rw [ap_set, hset] at hP1 hD1
  exact kk p e R s m args below meth c H locs ls hx hb hr hml ho hk hnm hR hS hP1 hD1 hT1 hl
theorem I.get {ci N idx i f a : Nat} {fs : List Value} {C : String} {T : u_T} {v : Value} (he : suf[i]? = some (a, .inr (ci, fs))) (hcl : vwCl[ci]? = some (C, T, N)) (hin : ∀ w ∈ u_ws C T N, GW w) (hf : f < N) (hv : fs[f]? = some v) (hw : GW (.fieldLink mi.1.cls idx (T f).1 (T f).2.1 (T f).2.2.1)) (hd : decode mi.2.1 pc = .ok (.getfield idx, 3)) (kk : I E mi d (pc + 3) L (v :: stk) pre suf k n kc ks Q) : I E mi d pc L (Value.ref a :: stk) pre suf k n kc ks Q := kk.step (fun p e R s m args below meth c H locs ls Z hx hb hml ho hR hS hP hT hl k => va_get (Ts := u_ws C T N) hx hb (fun w h => hS.2.1 w (hin w h) _) (fun _ h => h) ho hS.1 hP (pre.length + i) (ap_get he) hcl f hf (hS.2.1 _ hw _) (fun _ h => h) hv hd k)
theorem I.new {ci N idx : Nat} {fs : List Value} {C : String} {T : u_T} (hcl : vwCl[ci]? = some (C, T, N)) (hin : ∀ w ∈ u_ws C T N, GW w) (ty0 : Nat → FieldType) (hty : ∀ k, k < N → parseFieldDescriptor (T k).2.2.1 = some (ty0 k)) (hfs : ∀ j, j < N → defaultValue (ty0 j) = vp_V fs j) (hw1 : GW (.classLink mi.1.cls idx C)) (hw2 : GW (.instantiable C N)) (hw3 : GW (.initialized C)) (hk1 : k + 1 ≤ kc) (hn1 : n + N ≤ ks) (hd : decode mi.2.1 pc = .ok (.new idx, 3)) (kk : ∀ q : Nat, I E mi d (pc + 3) L (Value.ref q :: stk) pre (suf ++ [(q, .inr (ci, fs))]) (k + 1) (n + N) kc ks Q) : I E mi d pc L stk pre suf k n kc ks Q := by
  intro p e R s m args below meth c H locs ls hx hb hr hml ho hk hnm hR hS hP hD hT hl
  refine va_new (Ts := u_ws C T N) hx hb (fun w h => hS.2.1 w (hin w h) _) (fun _ h => h) ty0 hty ho (hS.2.1 _ hw1 _) (hS.2.1 _ hw2 _) (hS.2.1 _ hw3 _) hS.1 hP hD hT (fun q h => Nat.le_trans hS.2.2.2.1 h) hcl hfs (by omega) (by omega) hd (fun q H1 hP1 hD1 hT1 => ?_)
  rw [List.append_assoc] at hP1 hD1
  exact kk q p e R s m args below meth c H1 locs ls hx hb hr hml ho hk hnm hR hS hP1 hD1 hT1 hl
theorem I.iast {i a N idx : Nat} {r : Nat → Int} {x v : Int} {suf' : va_W} (he : suf[i]? = some (a, arI E N r)) (hi : (Int32.ofInt x).toNatClampNeg = idx) (hin : vp_in (Int32.ofInt x) N) (hset : suf.set i (a, arI E N (rs r idx v)) = suf') (hd : decode mi.2.1 pc = .ok (.iastore, 1)) (kk : I E mi d (pc + 1) L stk pre suf' k n kc ks Q) : I E mi d pc L (vi v :: vi x :: Value.ref a :: stk) pre suf k n kc ks Q := by
  intro p e R s m args below meth c H locs ls hx hb hr hml ho hk hnm hR hS hP hD hT hl
  refine va_iast hx hb hS.1 hP hD hT (pre.length + i) 0 (ap_get he) rfl hin hd (fun H locs hP1 hD1 hT1 => ?_)
  rw [hi, kk_upd, ap_set] at hP1 hD1
  have e2 : suf.set i (a, .inl (eC E 0, N, .inl (fun j => Int32.ofInt (if j = idx then v else r j)))) = suf' := hset
  rw [e2] at hP1 hD1
  exact kk p e R s m args below meth c H locs ls hx hb hr hml ho hk hnm hR hS hP1 hD1 hT1 hl
theorem I.vret (hr0 : mi.2.2.2 = none) (hk1 : k ≤ kc) (hn1 : n ≤ ks) (hd : decode mi.2.1 pc = .ok (.return_, 1)) (hq : Q suf) : I E mi d pc L [] pre suf k n kc ks Q := by
  intro p e R s m args below meth c H locs ls hx hb hr hml ho hk hnm hR hS hP hD hT hl
  refine W.widen (k := kc) (n := ks) hk1 hn1 ?_
  exact W.vret hx hb (hr.trans hr0) (fun t ht _ => ⟨⟨suf, rfl, hq, by rw [ht]; exact hP, hD⟩, hT.F ht⟩) (fun q h => hT.2.2 q h) hd hk
end IROWS
