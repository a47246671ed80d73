/-! V: a method from one place on, over a memory -/
def nwl : List (String × Nat × MethodName × String) := [("FatLean", 11, ⟨"FatLean$Scribe", "<init>", "()V"⟩, "FatLean"), ("FatLean", 28, ⟨"FatLean$Counsel", "<init>", "()V"⟩, "FatLean"), ("FatLean", 35, ⟨"FatLean$Books", "<init>", "()V"⟩, "FatLean"), ("FatLean", 54, ⟨"FatLean$Sheet", "<init>", "()V"⟩, "FatLean"), ("FatLean$Scribe", 169, ⟨"FatLean", "within", "(III)Z"⟩, "FatLean"), ("FatLean$Scribe", 165, ⟨"FatLean", "has", "(II)Z"⟩, "FatLean"), ("FatLean$Scribe", 147, ⟨"FatLean", "isRot", "(I)Z"⟩, "FatLean"), ("FatLean$Court", 114, ⟨"FatLean", "isFlag", "(I)Z"⟩, "FatLean"), ("FatLean$Court", 118, ⟨"FatLean", "within", "(III)Z"⟩, "FatLean"), ("FatLean$Court", 141, ⟨"FatLean", "has", "(II)Z"⟩, "FatLean"), ("FatLean$Sheet", 32, ⟨"FatLean", "within", "(III)Z"⟩, "FatLean")]
def strl : List (Nat × String) := [(78, "land"), (87, "dream"), (92, "people"), (97, "granary"), (102, "price"), (107, "steward"), (173, "all"), (175, "part"), (177, "level"), (179, "none"), (181, "need")]
def lenS : List Nat := [4, 5, 6, 7, 5, 7, 3, 4, 5, 4, 4]
def bytS : List (List Int32) := [[108, 97, 110, 100], [100, 114, 101, 97, 109], [112, 101, 111, 112, 108, 101], [103, 114, 97, 110, 97, 114, 121], [112, 114, 105, 99, 101], [115, 116, 101, 119, 97, 114, 100], [97, 108, 108], [112, 97, 114, 116], [108, 101, 118, 101, 108], [110, 111, 110, 101], [110, 101, 101, 100]]
def wr (x : Int) : Int := (Int32.ofInt x).toInt
def wl (x : Int) : Int := (Int64.ofInt x).toInt
def SF (E : En) (s : State) : Prop :=
  va_K (eD E) vwCl (tys E) s ∧ (∀ w, GW w → ∀ a : Array Value, w.before a s = true) ∧ (∀ q ∈ nwl, va_Nw (.methodLinkNest q.1 q.2.1 q.2.2.1 q.2.2.2) s) ∧ (∀ M : Mem, va_D (AA E) (hp E M)) ∧
  vk_S 11 lenS bytS (eK E) (eV E) (AA E) s s.heap ∧ (∀ (i : Nat) (q : Nat × String), strl[i]? = some q → vk_R "FatLean$Scribe" q.1 q.2 (eK E i) s) ∧
  va_Z "java/lang/String" "COMPACT_STRINGS" "Z" (.int 1) (AA E) s s.heap ∧ va_Zq "jdk/internal/util/Preconditions" "SIOOBE_FORMATTER" "Ljava/util/function/BiFunction;" (AA E) s s.heap
theorem SF.moved {E : En} {s U : State} (hW : s.WarmedH U.vm) (hh : ∀ q : Nat, q < s.heap.size → ¬ AA E q → U.heap[q]? = s.heap[q]?) (h : SF E s) : SF E U := by
  obtain ⟨h1, h2, h3, h4, h5, h6, h7, h8⟩ := h
  exact ⟨va_K.moved hW.alike h1, fun w hw a => word_at hW (good_of_word hw.2) (h2 w hw #[]), fun q hq => va_Nw.warmM hW (h3 q hq), h4, (vk_S.moved hW.alike h5).kept hh, fun i q hq => vk_R.warm hW (h6 i q hq), (va_Z.moved hW.alike h7).kept hh, (va_Zq.moved hW.alike h8).kept hh⟩
abbrev MI : Type := MethodName × ByteArray × Nat × Option FieldType
abbrev Po : Type := Option Value → Mem → Prop
def Qc (E : En) (Q : Po) : Array Value → State → Outcome → State → Prop := fun _ s0 oc t => (∃ (r : Option Value) (M : Mem), oc = .returned r ∧ Q r M ∧ va_P (eD E) vwCl (hp E M) t.heap) ∧ va_F (AA E) s0 t
abbrev rm (d : Nat) : Room := { frames := d, cells := 0, slots := 0, locals := 60 * d }
def Cn (E : En) (mi : MI) (d : Nat) (args : List Value) (M : Mem) (Q : Po) : Prop :=
  Met (eL E) mi.1 [.code mi.1 mi.2.1 mi.2.2.1 mi.2.2.2] (rm d) (va_Pc args (fun U => SF E U ∧ va_P (eD E) vwCl (hp E M) U.heap)) (Qc E Q) 0 0 (AA E)
def V (E : En) (mi : MI) (d pc : Nat) (L : List (Nat × Value)) (stk : List Value) (M : Mem) (Q : Po) : Prop :=
  ∀ (p : Program) (e : Env) (R : Room) (s : State) (m : MethodId) (args : Array Value) (below : List Frame) (meth : Method) (c : Code) (H : Heap) (locs : List Loc) (ls : Array Slot),
    p.tables.exec = Jvm.exec → c.code = mi.2.1 → meth.sig.returnType = mi.2.2.2 → c.maxLocals = mi.2.2.1 → s.vm.findClass mi.1.cls = some m.cls → meth.locks = false → (d ≤ R.frames ∧ 60 * d ≤ R.locals) →
    SF E s → va_P (eD E) vwCl (hp E M) H → va_S (AA E) s.heap H locs → lv_has ls mi.2.2.1 L →
    W p (eL E) e R s m args below meth c H locs 0 0 (MQ below (Qc E Q) args s 0 0 (AA E)) (F0 m pc ls stk)
theorem V.entry {E : En} {mi : MI} {d : Nat} {args : List Value} {M : Mem} {Q : Po} (hcls : plainName mi.1.cls = true) (hlen : (lg_sl args).length ≤ mi.2.2.1) (h : V E mi d 0 (lv_args 0 args) [] M Q) : Cn E mi d args M Q := by
  refine Met.ofW (cc := mi.2.1) (maxL := mi.2.2.1) (ret := mi.2.2.2) hcls rfl ?_
  intro p e s m as below meth c s₁ B hml hv
  obtain ⟨rfl, hS, hP⟩ := hv
  rw [lg_entry_eq]
  exact h p e _ s m _ below meth c s.heap [] _ B.exec B.bytes B.returns hml (findClass_of_methodNamed B.named) B.notSynchronized ⟨Nat.le_refl _, Nat.le_refl _⟩ hS hP va_S.rf (lv_entry args hlen)
section VROWS
variable {E : En} {mi : MI} {d pc : Nat} {L : List (Nat × Value)} {stk : List Value} {M : Mem} {Q : Po}
theorem V.sub (L' : List (Nat × Value)) (ks : List Nat) (h : lv_pick L ks = L') (k : V E mi d pc L' stk M Q) : V E mi d pc L stk M Q := by
  intro p e R s m args below meth c H locs ls hx hb hr hml ho hk hR hS hP hT hl
  exact k p e R s m args below meth c H locs ls hx hb hr hml ho hk hR hS hP hT (lv_sub hl ks h)
theorem V.step {pc' : Nat} {stk' : List Value} (k : V E mi d pc' L stk' M Q)
    (h : ∀ (p : Program) (e : Env) (R : Room) (s : State) (m : MethodId) (args : Array Value) (below : List Frame) (meth : Method) (c : Code) (H : Heap) (locs : List Loc) (ls : Array Slot) (Z : State → Prop),
      p.tables.exec = Jvm.exec → c.code = mi.2.1 → s.vm.findClass mi.1.cls = some m.cls → SF E s → va_P (eD E) vwCl (hp E M) H → va_S (AA E) s.heap H locs → lv_has ls mi.2.2.1 L → W p (eL E) e R s m args below meth c H locs 0 0 Z (F0 m pc' ls stk') → W p (eL E) e R s m args below meth c H locs 0 0 Z (F0 m pc ls stk)) : V E mi d pc L stk M Q := by
  intro p e R s m args below meth c H locs ls hx hb hr hml ho hk hR hS hP hT hl
  exact h p e R s m args below meth c H locs ls _ hx hb ho hS hP hT hl (k p e R s m args below meth c H locs ls hx hb hr hml ho hk hR hS hP hT hl)

theorem V.iconst (n : Int) (hd : decode mi.2.1 pc = .ok (.iconst n, 1)) (k : V E mi d (pc + 1) L (vi n :: stk) M Q) : V E mi d pc L stk M Q := k.step (fun p e R s m args below meth c H locs ls Z hx hb ho hS hP hT hl k => lv_iconst hx hb hd rfl k)
theorem V.bipush (n x : Int) (hx0 : (Int8.ofInt n).toInt32 = Int32.ofInt x) (hd : decode mi.2.1 pc = .ok (.bipush n, 2)) (k : V E mi d (pc + 2) L (vi x :: stk) M Q) : V E mi d pc L stk M Q := k.step (fun p e R s m args below meth c H locs ls Z hx hb ho hS hP hT hl k => lv_bipush hx hb hd hx0 k)
theorem V.sipush (n x : Int) (hx0 : (Int16.ofInt n).toInt32 = Int32.ofInt x) (hd : decode mi.2.1 pc = .ok (.sipush n, 3)) (k : V E mi d (pc + 3) L (vi x :: stk) M Q) : V E mi d pc L stk M Q := k.step (fun p e R s m args below meth c H locs ls Z hx hb ho hS hP hT hl k => lv_sipush hx hb hd hx0 k)
theorem V.lconst (n : Fin 2) (x : Int) (hx0 : Int64.ofNat (n : Nat) = Int64.ofInt x) (hd : decode mi.2.1 pc = .ok (.lconst n, 1)) (k : V E mi d (pc + 1) L (vl x :: stk) M Q) : V E mi d pc L stk M Q := k.step (fun p e R s m args below meth c H locs ls Z hx hb ho hS hP hT hl k => lv_lconst hx hb hd hx0 k)
theorem V.ldc (n : Nat) (x : Int) (v : Int32) (hv : v = Int32.ofInt x) (hw : GW (.constant mi.1.cls n v)) (hd : decode mi.2.1 pc = .ok (.ldc n, 2)) (k : V E mi d (pc + 2) L (vi x :: stk) M Q) : V E mi d pc L stk M Q := k.step (fun p e R s m args below meth c H locs ls Z hx hb ho hS hP hT hl k => by subst hv; exact lv_ldc hx hb ho (hS.2.1 _ hw _) hd k)
theorem V.ldcw (n : Nat) (x : Int) (v : Int32) (hv : v = Int32.ofInt x) (hw : GW (.constant mi.1.cls n v)) (hd : decode mi.2.1 pc = .ok (.ldc_w n, 3)) (k : V E mi d (pc + 3) L (vi x :: stk) M Q) : V E mi d pc L stk M Q := k.step (fun p e R s m args below meth c H locs ls Z hx hb ho hS hP hT hl k => by subst hv; exact lv_ldcw hx hb ho (hS.2.1 _ hw _) hd k)
theorem V.ldc2 (n : Nat) (x : Int) (v : Int64) (hv : v = Int64.ofInt x) (hw : GW (.constantLong mi.1.cls n v)) (hd : decode mi.2.1 pc = .ok (.ldc2_w n, 3)) (k : V E mi d (pc + 3) L (vl x :: stk) M Q) : V E mi d pc L stk M Q := k.step (fun p e R s m args below meth c H locs ls Z hx hb ho hS hP hT hl k => by subst hv; exact lv_ldc2 hx hb ho (hS.2.1 _ hw _) hd k)
theorem V.ldcS (i n : Nat) (tx : String) (hq : strl[i]? = some (n, tx)) (hc : mi.1.cls = "FatLean$Scribe") (hd : decode mi.2.1 pc = .ok (.ldc n, 2)) (k : V E mi d (pc + 2) L (.ref (eK E i) :: stk) M Q) : V E mi d pc L stk M Q := k.step (fun p e R s m args below meth c H locs ls Z hx hb ho hS hP hT hl k => va_ldcS hx hb ho (by rw [hc]; exact hS.2.2.2.2.2.1 i _ hq) hd k)
theorem V.iload_n {x : Int} (n : Fin 4) (i j : Nat) (hi : (n : Nat) = i) (hd : decode mi.2.1 pc = .ok (.iload_n n, 1)) (hj : L[j]? = some (i, vi x)) (k : V E mi d (pc + 1) L (vi x :: stk) M Q) : V E mi d pc L stk M Q := k.step (fun p e R s m args below meth c H locs ls Z hx hb ho hS hP hT hl k => lv_iload_n hx hb hd hi (lv_at hl j hj) k)
theorem V.iload {x : Int} (i j : Nat) (hd : decode mi.2.1 pc = .ok (.iload i, 2)) (hj : L[j]? = some (i, vi x)) (k : V E mi d (pc + 2) L (vi x :: stk) M Q) : V E mi d pc L stk M Q := k.step (fun p e R s m args below meth c H locs ls Z hx hb ho hS hP hT hl k => lv_iload hx hb hd (lv_at hl j hj) k)
theorem V.lload_n {x : Int} (n : Fin 4) (i j : Nat) (hi : (n : Nat) = i) (hd : decode mi.2.1 pc = .ok (.lload_n n, 1)) (hj : L[j]? = some (i, vl x)) (k : V E mi d (pc + 1) L (vl x :: stk) M Q) : V E mi d pc L stk M Q := k.step (fun p e R s m args below meth c H locs ls Z hx hb ho hS hP hT hl k => lv_lload_n hx hb hd hi (lv_at hl j hj) k)
theorem V.lload {x : Int} (i j : Nat) (hd : decode mi.2.1 pc = .ok (.lload i, 2)) (hj : L[j]? = some (i, vl x)) (k : V E mi d (pc + 2) L (vl x :: stk) M Q) : V E mi d pc L stk M Q := k.step (fun p e R s m args below meth c H locs ls Z hx hb ho hS hP hT hl k => lv_lload hx hb hd (lv_at hl j hj) k)
theorem V.aload_n {x : Nat} (n : Fin 4) (i j : Nat) (hi : (n : Nat) = i) (hd : decode mi.2.1 pc = .ok (.aload_n n, 1)) (hj : L[j]? = some (i, Value.ref x)) (k : V E mi d (pc + 1) L (Value.ref x :: stk) M Q) : V E mi d pc L stk M Q := k.step (fun p e R s m args below meth c H locs ls Z hx hb ho hS hP hT hl k => lv_aload_n hx hb hd hi (lv_at hl j hj) k)
theorem V.aload {x : Nat} (i j : Nat) (hd : decode mi.2.1 pc = .ok (.aload i, 2)) (hj : L[j]? = some (i, Value.ref x)) (k : V E mi d (pc + 2) L (Value.ref x :: stk) M Q) : V E mi d pc L stk M Q := k.step (fun p e R s m args below meth c H locs ls Z hx hb ho hS hP hT hl k => lv_aload hx hb hd (lv_at hl j hj) k)
theorem V.istore_n {x : Int} (n : Fin 4) (i : Nat) (L' : List (Nat × Value)) (hi : (n : Nat) = i) (hd : decode mi.2.1 pc = .ok (.istore_n n, 1)) (hn : i < mi.2.2.1) (hL : (i, vi x) :: L.filter (fun q => !(q.1 == i) && !(q.1 + 1 == i && q.2.category == 2)) = L') (k : V E mi d (pc + 1) L' stk M Q) : V E mi d pc L (vi x :: stk) M Q := by
  intro p e R s m args below meth c H locs ls hx hb hr hml ho hk hR hS hP hT hl
  exact lv_istore_n hx hb hd hi hl hn hL (fun ls hl => k p e R s m args below meth c H locs ls hx hb hr hml ho hk hR hS hP hT hl)
theorem V.istore {x : Int} (i : Nat) (L' : List (Nat × Value)) (hd : decode mi.2.1 pc = .ok (.istore i, 2)) (hn : i < mi.2.2.1) (hL : (i, vi x) :: L.filter (fun q => !(q.1 == i) && !(q.1 + 1 == i && q.2.category == 2)) = L') (k : V E mi d (pc + 2) L' stk M Q) : V E mi d pc L (vi x :: stk) M Q := by
  intro p e R s m args below meth c H locs ls hx hb hr hml ho hk hR hS hP hT hl
  exact lv_istore hx hb hd hl hn hL (fun ls hl => k p e R s m args below meth c H locs ls hx hb hr hml ho hk hR hS hP hT hl)
theorem V.lstore_n {x : Int} (n : Fin 4) (i : Nat) (L' : List (Nat × Value)) (hi : (n : Nat) = i) (hd : decode mi.2.1 pc = .ok (.lstore_n n, 1)) (hn : i + 1 < mi.2.2.1) (hL : (i, vl x) :: L.filter (fun q => !(q.1 == i) && (!(q.1 == i + 1) && !(q.1 + 1 == i && q.2.category == 2))) = L') (k : V E mi d (pc + 1) L' stk M Q) : V E mi d pc L (vl x :: stk) M Q := by
  intro p e R s m args below meth c H locs ls hx hb hr hml ho hk hR hS hP hT hl
  exact lv_lstore_n hx hb hd hi hl hn hL (fun ls hl => k p e R s m args below meth c H locs ls hx hb hr hml ho hk hR hS hP hT hl)
theorem V.lstore {x : Int} (i : Nat) (L' : List (Nat × Value)) (hd : decode mi.2.1 pc = .ok (.lstore i, 2)) (hn : i + 1 < mi.2.2.1) (hL : (i, vl x) :: L.filter (fun q => !(q.1 == i) && (!(q.1 == i + 1) && !(q.1 + 1 == i && q.2.category == 2))) = L') (k : V E mi d (pc + 2) L' stk M Q) : V E mi d pc L (vl x :: stk) M Q := by
  intro p e R s m args below meth c H locs ls hx hb hr hml ho hk hR hS hP hT hl
  exact lv_lstore hx hb hd hl hn hL (fun ls hl => k p e R s m args below meth c H locs ls hx hb hr hml ho hk hR hS hP hT hl)
theorem V.astore_n {x : Nat} (n : Fin 4) (i : Nat) (L' : List (Nat × Value)) (hi : (n : Nat) = i) (hd : decode mi.2.1 pc = .ok (.astore_n n, 1)) (hn : i < mi.2.2.1) (hL : (i, Value.ref x) :: L.filter (fun q => !(q.1 == i) && !(q.1 + 1 == i && q.2.category == 2)) = L') (k : V E mi d (pc + 1) L' stk M Q) : V E mi d pc L (Value.ref x :: stk) M Q := by
  intro p e R s m args below meth c H locs ls hx hb hr hml ho hk hR hS hP hT hl
  exact lv_astore_n hx hb hd hi hl hn hL (fun ls hl => k p e R s m args below meth c H locs ls hx hb hr hml ho hk hR hS hP hT hl)
theorem V.astore {x : Nat} (i : Nat) (L' : List (Nat × Value)) (hd : decode mi.2.1 pc = .ok (.astore i, 2)) (hn : i < mi.2.2.1) (hL : (i, Value.ref x) :: L.filter (fun q => !(q.1 == i) && !(q.1 + 1 == i && q.2.category == 2)) = L') (k : V E mi d (pc + 2) L' stk M Q) : V E mi d pc L (Value.ref x :: stk) M Q := by
  intro p e R s m args below meth c H locs ls hx hb hr hml ho hk hR hS hP hT hl
  exact lv_astore hx hb hd hl hn hL (fun ls hl => k p e R s m args below meth c H locs ls hx hb hr hml ho hk hR hS hP hT hl)
theorem V.iinc {x : Int} (i j : Nat) (n : Int) (L' : List (Nat × Value)) (hd : decode mi.2.1 pc = .ok (.iinc i n, 3)) (hj : L[j]? = some (i, vi x)) (hn : i < mi.2.2.1) (hL : (i, vi (x + n)) :: L.filter (fun q => !(q.1 == i) && !(q.1 + 1 == i && q.2.category == 2)) = L') (k : V E mi d (pc + 3) L' stk M Q) : V E mi d pc L stk M Q := by
  intro p e R s m args below meth c H locs ls hx hb hr hml ho hk hR hS hP hT hl
  exact lv_iinc hx hb hd hl hj (Int32.ofInt_add x n).symm hn hL (fun ls hl => k p e R s m args below meth c H locs ls hx hb hr hml ho hk hR hS hP hT hl)
theorem kk_div (x y : Int) : Int32.ofInt x / Int32.ofInt y = Int32.ofInt ((wr x).tdiv (wr y)) := by
  apply Int32.toInt_inj.mp; rw [Int32.toInt_div, show (Int32.ofInt ((wr x).tdiv (wr y))).toInt = ((wr x).tdiv (wr y)).bmod Int32.size from Int32.toInt_ofInt]; rfl
theorem kk_divL (x y : Int) : Int64.ofInt x / Int64.ofInt y = Int64.ofInt ((wl x).tdiv (wl y)) := by
  apply Int64.toInt_inj.mp; rw [Int64.toInt_div, show (Int64.ofInt ((wl x).tdiv (wl y))).toInt = ((wl x).tdiv (wl y)).bmod Int64.size from Int64.toInt_ofInt]; rfl
theorem kk_wr (x : Int) : Int32.ofInt (wr x) = Int32.ofInt x := by unfold wr; exact Int32.ofInt_toInt _
theorem kk_wl (x : Int) : Int64.ofInt (wl x) = Int64.ofInt x := by unfold wl; exact Int64.ofInt_toInt _
theorem kk_ne0 {y : Int} (h : wr y ≠ 0) : ¬ Int32.ofInt y = 0 := fun e => h (by unfold wr; rw [e]; rfl)
theorem kk_ne0L {y : Int} (h : wl y ≠ 0) : ¬ Int64.ofInt y = 0 := fun e => h (by unfold wl; rw [e]; rfl)
theorem kk_rem (x y : Int) : Int32.ofInt x - Int32.ofInt x / Int32.ofInt y * Int32.ofInt y = Int32.ofInt ((wr x).tmod (wr y)) := by
  rw [kk_div, ← kk_wr x, ← kk_wr y, ← Int32.ofInt_mul, ← Int32.ofInt_sub]; congr 1; rw [Int.tmod_def, Int.mul_comm]
theorem kk_remL (x y : Int) : Int64.ofInt x - Int64.ofInt x / Int64.ofInt y * Int64.ofInt y = Int64.ofInt ((wl x).tmod (wl y)) := by
  rw [kk_divL, ← kk_wl x, ← kk_wl y, ← Int64.ofInt_mul, ← Int64.ofInt_sub]; congr 1; rw [Int.tmod_def, Int.mul_comm]
theorem V.iadd {x y : Int} (hd : decode mi.2.1 pc = .ok (.iadd, 1)) (k : V E mi d (pc + 1) L (vi (x + y) :: stk) M Q) : V E mi d pc L (vi y :: vi x :: stk) M Q := k.step (fun p e R s m args below meth c H locs ls Z hx hb ho hS hP hT hl k => by unfold vi at k; rw [Int32.ofInt_add] at k; exact lv_iadd hx hb hd k)
theorem V.isub {x y : Int} (hd : decode mi.2.1 pc = .ok (.isub, 1)) (k : V E mi d (pc + 1) L (vi (x - y) :: stk) M Q) : V E mi d pc L (vi y :: vi x :: stk) M Q := k.step (fun p e R s m args below meth c H locs ls Z hx hb ho hS hP hT hl k => by unfold vi at k; rw [Int32.ofInt_sub] at k; exact lv_isub hx hb hd k)
theorem V.imul {x y : Int} (hd : decode mi.2.1 pc = .ok (.imul, 1)) (k : V E mi d (pc + 1) L (vi (x * y) :: stk) M Q) : V E mi d pc L (vi y :: vi x :: stk) M Q := k.step (fun p e R s m args below meth c H locs ls Z hx hb ho hS hP hT hl k => by unfold vi at k; rw [Int32.ofInt_mul] at k; exact lv_imul hx hb hd k)
theorem V.ladd {x y : Int} (hd : decode mi.2.1 pc = .ok (.ladd, 1)) (k : V E mi d (pc + 1) L (vl (x + y) :: stk) M Q) : V E mi d pc L (vl y :: vl x :: stk) M Q := k.step (fun p e R s m args below meth c H locs ls Z hx hb ho hS hP hT hl k => by unfold vl at k; rw [Int64.ofInt_add] at k; exact lv_ladd hx hb hd k)
theorem V.lsub {x y : Int} (hd : decode mi.2.1 pc = .ok (.lsub, 1)) (k : V E mi d (pc + 1) L (vl (x - y) :: stk) M Q) : V E mi d pc L (vl y :: vl x :: stk) M Q := k.step (fun p e R s m args below meth c H locs ls Z hx hb ho hS hP hT hl k => by unfold vl at k; rw [Int64.ofInt_sub] at k; exact lv_lsub hx hb hd k)
theorem V.lmul {x y : Int} (hd : decode mi.2.1 pc = .ok (.lmul, 1)) (k : V E mi d (pc + 1) L (vl (x * y) :: stk) M Q) : V E mi d pc L (vl y :: vl x :: stk) M Q := k.step (fun p e R s m args below meth c H locs ls Z hx hb ho hS hP hT hl k => by unfold vl at k; rw [Int64.ofInt_mul] at k; exact lv_lmul hx hb hd k)
theorem V.idiv {x y : Int} (h0 : wr y ≠ 0) (hd : decode mi.2.1 pc = .ok (.idiv, 1)) (k : V E mi d (pc + 1) L (vi ((wr x).tdiv (wr y)) :: stk) M Q) : V E mi d pc L (vi y :: vi x :: stk) M Q := k.step (fun p e R s m args below meth c H locs ls Z hx hb ho hS hP hT hl k => by unfold vi at k; rw [← kk_div] at k; exact lv_idiv hx hb hd (kk_ne0 h0) k)
theorem V.irem {x y : Int} (h0 : wr y ≠ 0) (hd : decode mi.2.1 pc = .ok (.irem, 1)) (k : V E mi d (pc + 1) L (vi ((wr x).tmod (wr y)) :: stk) M Q) : V E mi d pc L (vi y :: vi x :: stk) M Q := k.step (fun p e R s m args below meth c H locs ls Z hx hb ho hS hP hT hl k => by unfold vi at k; rw [← kk_rem] at k; exact lv_irem hx hb hd (kk_ne0 h0) k)
theorem V.ldiv {x y : Int} (h0 : wl y ≠ 0) (hd : decode mi.2.1 pc = .ok (.ldiv, 1)) (k : V E mi d (pc + 1) L (vl ((wl x).tdiv (wl y)) :: stk) M Q) : V E mi d pc L (vl y :: vl x :: stk) M Q := k.step (fun p e R s m args below meth c H locs ls Z hx hb ho hS hP hT hl k => by unfold vl at k; rw [← kk_divL] at k; exact lv_ldiv hx hb hd (kk_ne0L h0) k)
theorem V.lrem {x y : Int} (h0 : wl y ≠ 0) (hd : decode mi.2.1 pc = .ok (.lrem, 1)) (k : V E mi d (pc + 1) L (vl ((wl x).tmod (wl y)) :: stk) M Q) : V E mi d pc L (vl y :: vl x :: stk) M Q := k.step (fun p e R s m args below meth c H locs ls Z hx hb ho hS hP hT hl k => by unfold vl at k; rw [← kk_remL] at k; exact lv_lrem hx hb hd (kk_ne0L h0) k)
def bAnd (x y : Int) : Int := (Int32.ofInt x &&& Int32.ofInt y).toInt
def bOr (x y : Int) : Int := (Int32.ofInt x ||| Int32.ofInt y).toInt
def bShl (x y : Int) : Int := (Int32.ofInt x <<< (Int32.ofInt y &&& 31)).toInt
def bShr (x y : Int) : Int := (Int32.ofInt x >>> (Int32.ofInt y &&& 31)).toInt
def bUshr (x y : Int) : Int := ((Int32.ofInt x).toUInt32 >>> ((Int32.ofInt y).toUInt32 &&& Int32.toUInt32 31)).toInt32.toInt
def b8 (x : Int) : Int := (Int32.ofInt x).toInt8.toInt32.toInt
def b16 (x : Int) : Int := (Int32.ofInt x).toInt16.toInt32.toInt
theorem V.iand {x y : Int} (hd : decode mi.2.1 pc = .ok (.iand, 1)) (k : V E mi d (pc + 1) L (vi (bAnd x y) :: stk) M Q) : V E mi d pc L (vi y :: vi x :: stk) M Q := k.step (fun p e R s m args below meth c H locs ls Z hx hb ho hS hP hT hl k => by unfold vi at k; rw [bAnd, Int32.ofInt_toInt] at k; exact lv_iand hx hb hd k)
theorem V.ior {x y : Int} (hd : decode mi.2.1 pc = .ok (.ior, 1)) (k : V E mi d (pc + 1) L (vi (bOr x y) :: stk) M Q) : V E mi d pc L (vi y :: vi x :: stk) M Q := k.step (fun p e R s m args below meth c H locs ls Z hx hb ho hS hP hT hl k => by unfold vi at k; rw [bOr, Int32.ofInt_toInt] at k; exact lv_ior hx hb hd k)
theorem V.ishl {x y : Int} (hd : decode mi.2.1 pc = .ok (.ishl, 1)) (k : V E mi d (pc + 1) L (vi (bShl x y) :: stk) M Q) : V E mi d pc L (vi y :: vi x :: stk) M Q := k.step (fun p e R s m args below meth c H locs ls Z hx hb ho hS hP hT hl k => by unfold vi at k; rw [bShl, Int32.ofInt_toInt] at k; exact lv_ishl hx hb hd k)
theorem V.ishr {x y : Int} (hd : decode mi.2.1 pc = .ok (.ishr, 1)) (k : V E mi d (pc + 1) L (vi (bShr x y) :: stk) M Q) : V E mi d pc L (vi y :: vi x :: stk) M Q := k.step (fun p e R s m args below meth c H locs ls Z hx hb ho hS hP hT hl k => by unfold vi at k; rw [bShr, Int32.ofInt_toInt] at k; exact lv_ishr hx hb hd k)
theorem V.iushr {x y : Int} (hd : decode mi.2.1 pc = .ok (.iushr, 1)) (k : V E mi d (pc + 1) L (vi (bUshr x y) :: stk) M Q) : V E mi d pc L (vi y :: vi x :: stk) M Q := k.step (fun p e R s m args below meth c H locs ls Z hx hb ho hS hP hT hl k => by unfold vi at k; rw [bUshr, Int32.ofInt_toInt] at k; exact lv_iushr hx hb hd rfl k)
theorem V.i2b {x : Int} (hd : decode mi.2.1 pc = .ok (.i2b, 1)) (k : V E mi d (pc + 1) L (vi (b8 x) :: stk) M Q) : V E mi d pc L (vi x :: stk) M Q := k.step (fun p e R s m args below meth c H locs ls Z hx hb ho hS hP hT hl k => by unfold vi at k; rw [b8, Int32.ofInt_toInt] at k; exact lv_i2b hx hb hd rfl k)
theorem V.i2s {x : Int} (hd : decode mi.2.1 pc = .ok (.i2s, 1)) (k : V E mi d (pc + 1) L (vi (b16 x) :: stk) M Q) : V E mi d pc L (vi x :: stk) M Q := k.step (fun p e R s m args below meth c H locs ls Z hx hb ho hS hP hT hl k => by unfold vi at k; rw [b16, Int32.ofInt_toInt] at k; exact lv_i2s hx hb hd rfl k)
theorem V.i2l {x : Int} (hd : decode mi.2.1 pc = .ok (.i2l, 1)) (k : V E mi d (pc + 1) L (vl (wr x) :: stk) M Q) : V E mi d pc L (vi x :: stk) M Q := k.step (fun p e R s m args below meth c H locs ls Z hx hb ho hS hP hT hl k => lv_i2l hx hb hd (by rfl) k)
theorem V.ineg {x : Int} (hd : decode mi.2.1 pc = .ok (.ineg, 1)) (k : V E mi d (pc + 1) L (vi (-x) :: stk) M Q) : V E mi d pc L (vi x :: stk) M Q := k.step (fun p e R s m args below meth c H locs ls Z hx hb ho hS hP hT hl k => by unfold vi at k; rw [Int32.ofInt_neg] at k; exact lv_ineg hx hb hd k)
theorem V.lneg {x : Int} (hd : decode mi.2.1 pc = .ok (.lneg, 1)) (k : V E mi d (pc + 1) L (vl (-x) :: stk) M Q) : V E mi d pc L (vl x :: stk) M Q := k.step (fun p e R s m args below meth c H locs ls Z hx hb ho hS hP hT hl k => by unfold vl at k; rw [Int64.ofInt_neg] at k; exact lv_lneg hx hb hd k)
theorem V.dup {v : Value} (hv : v.category = 1) (hd : decode mi.2.1 pc = .ok (.dup, 1)) (k : V E mi d (pc + 1) L (v :: v :: stk) M Q) : V E mi d pc L (v :: stk) M Q := k.step (fun p e R s m args below meth c H locs ls Z hx hb ho hS hP hT hl k => lv_dup hx hb hd hv k)
theorem V.dup2 {v u : Value} (hv : v.category = 1) (hu : u.category = 1) (hd : decode mi.2.1 pc = .ok (.dup2, 1)) (k : V E mi d (pc + 1) L (v :: u :: v :: u :: stk) M Q) : V E mi d pc L (v :: u :: stk) M Q := k.step (fun p e R s m args below meth c H locs ls Z hx hb ho hS hP hT hl k => lv_dup2_11 hx hb hd hv hu k)
theorem V.pop {v : Value} (hv : v.category = 1) (hd : decode mi.2.1 pc = .ok (.pop, 1)) (k : V E mi d (pc + 1) L stk M Q) : V E mi d pc L (v :: stk) M Q := k.step (fun p e R s m args below meth c H locs ls Z hx hb ho hS hP hT hl k => lv_pop hx hb hd hv k)
theorem kk_lt (x y : Int) : Int32.ofInt x < Int32.ofInt y ↔ wr x < wr y := Int32.lt_iff_toInt_lt
theorem kk_le (x y : Int) : Int32.ofInt x ≤ Int32.ofInt y ↔ wr x ≤ wr y := Int32.le_iff_toInt_le
theorem kk_eq (x y : Int) : Int32.ofInt x = Int32.ofInt y ↔ wr x = wr y := Int32.toInt_inj.symm
theorem kk_ltL (x y : Int) : Int64.ofInt x < Int64.ofInt y ↔ wl x < wl y := Int64.lt_iff_toInt_lt
theorem kk_leL (x y : Int) : Int64.ofInt x ≤ Int64.ofInt y ↔ wl x ≤ wl y := Int64.le_iff_toInt_le
theorem kk_eqL (x y : Int) : Int64.ofInt x = Int64.ofInt y ↔ wl x = wl y := Int64.toInt_inj.symm
theorem V.icmp_eq {x y a b off : Int} {tgt : Nat} (ha : wr x = a) (hb2 : wr y = b) (hd : decode mi.2.1 pc = .ok (.if_icmp .eq off, 3)) (ht : (pc : Int) + off = (tgt : Int)) (kt : a = b → V E mi d tgt L stk M Q) (kf : ¬ a = b → V E mi d (pc + 3) L stk M Q) : V E mi d pc L (vi y :: vi x :: stk) M Q := by
  intro p e R s m args below meth c H locs ls hx hb hr hml ho hk hR hS hP hT hl
  subst ha; subst hb2
  have w0 : wr 0 = 0 := by decide
  refine lv_icmp_eq hx hb hd ht (fun h => kt ?_ p e R s m args below meth c H locs ls hx hb hr hml ho hk hR hS hP hT hl) (fun h => kf ?_ p e R s m args below meth c H locs ls hx hb hr hml ho hk hR hS hP hT hl)
  · have g := (kk_eq x y).mp h; exact g
  · intro q; apply h; have g := (kk_eq x y).mpr; exact g q
theorem V.if_eq {x a off : Int} {tgt : Nat} (ha : wr x = a) (hd : decode mi.2.1 pc = .ok (.ifCond .eq off, 3)) (ht : (pc : Int) + off = (tgt : Int)) (kt : a = 0 → V E mi d tgt L stk M Q) (kf : ¬ a = 0 → V E mi d (pc + 3) L stk M Q) : V E mi d pc L (vi x :: stk) M Q := by
  intro p e R s m args below meth c H locs ls hx hb hr hml ho hk hR hS hP hT hl
  subst ha
  have w0 : wr 0 = 0 := by decide
  refine lv_if_eq hx hb hd ht (fun h => kt ?_ p e R s m args below meth c H locs ls hx hb hr hml ho hk hR hS hP hT hl) (fun h => kf ?_ p e R s m args below meth c H locs ls hx hb hr hml ho hk hR hS hP hT hl)
  · have g := (kk_eq x 0).mp h; rw [w0] at g; exact g
  · intro q; apply h; have g := (kk_eq x 0).mpr; rw [w0] at g; exact g q
theorem V.icmp_ne {x y a b off : Int} {tgt : Nat} (ha : wr x = a) (hb2 : wr y = b) (hd : decode mi.2.1 pc = .ok (.if_icmp .ne off, 3)) (ht : (pc : Int) + off = (tgt : Int)) (kt : ¬ a = b → V E mi d tgt L stk M Q) (kf : a = b → V E mi d (pc + 3) L stk M Q) : V E mi d pc L (vi y :: vi x :: stk) M Q := by
  intro p e R s m args below meth c H locs ls hx hb hr hml ho hk hR hS hP hT hl
  subst ha; subst hb2
  have w0 : wr 0 = 0 := by decide
  refine lv_icmp_ne hx hb hd ht (fun h => kt ?_ p e R s m args below meth c H locs ls hx hb hr hml ho hk hR hS hP hT hl) (fun h => kf ?_ p e R s m args below meth c H locs ls hx hb hr hml ho hk hR hS hP hT hl)
  · intro q; apply h; have g := (kk_eq x y).mpr; exact g q
  · have g := (kk_eq x y).mp h; exact g
theorem V.if_ne {x a off : Int} {tgt : Nat} (ha : wr x = a) (hd : decode mi.2.1 pc = .ok (.ifCond .ne off, 3)) (ht : (pc : Int) + off = (tgt : Int)) (kt : ¬ a = 0 → V E mi d tgt L stk M Q) (kf : a = 0 → V E mi d (pc + 3) L stk M Q) : V E mi d pc L (vi x :: stk) M Q := by
  intro p e R s m args below meth c H locs ls hx hb hr hml ho hk hR hS hP hT hl
  subst ha
  have w0 : wr 0 = 0 := by decide
  refine lv_if_ne hx hb hd ht (fun h => kt ?_ p e R s m args below meth c H locs ls hx hb hr hml ho hk hR hS hP hT hl) (fun h => kf ?_ p e R s m args below meth c H locs ls hx hb hr hml ho hk hR hS hP hT hl)
  · intro q; apply h; have g := (kk_eq x 0).mpr; rw [w0] at g; exact g q
  · have g := (kk_eq x 0).mp h; rw [w0] at g; exact g
theorem V.icmp_lt {x y a b off : Int} {tgt : Nat} (ha : wr x = a) (hb2 : wr y = b) (hd : decode mi.2.1 pc = .ok (.if_icmp .lt off, 3)) (ht : (pc : Int) + off = (tgt : Int)) (kt : a < b → V E mi d tgt L stk M Q) (kf : ¬ a < b → V E mi d (pc + 3) L stk M Q) : V E mi d pc L (vi y :: vi x :: stk) M Q := by
  intro p e R s m args below meth c H locs ls hx hb hr hml ho hk hR hS hP hT hl
  subst ha; subst hb2
  have w0 : wr 0 = 0 := by decide
  refine lv_icmp_lt hx hb hd ht (fun h => kt ?_ p e R s m args below meth c H locs ls hx hb hr hml ho hk hR hS hP hT hl) (fun h => kf ?_ p e R s m args below meth c H locs ls hx hb hr hml ho hk hR hS hP hT hl)
  · have g := (kk_lt x y).mp h; exact g
  · intro q; apply h; have g := (kk_lt x y).mpr; exact g q
theorem V.if_lt {x a off : Int} {tgt : Nat} (ha : wr x = a) (hd : decode mi.2.1 pc = .ok (.ifCond .lt off, 3)) (ht : (pc : Int) + off = (tgt : Int)) (kt : a < 0 → V E mi d tgt L stk M Q) (kf : ¬ a < 0 → V E mi d (pc + 3) L stk M Q) : V E mi d pc L (vi x :: stk) M Q := by
  intro p e R s m args below meth c H locs ls hx hb hr hml ho hk hR hS hP hT hl
  subst ha
  have w0 : wr 0 = 0 := by decide
  refine lv_if_lt hx hb hd ht (fun h => kt ?_ p e R s m args below meth c H locs ls hx hb hr hml ho hk hR hS hP hT hl) (fun h => kf ?_ p e R s m args below meth c H locs ls hx hb hr hml ho hk hR hS hP hT hl)
  · have g := (kk_lt x 0).mp h; rw [w0] at g; exact g
  · intro q; apply h; have g := (kk_lt x 0).mpr; rw [w0] at g; exact g q
theorem V.icmp_ge {x y a b off : Int} {tgt : Nat} (ha : wr x = a) (hb2 : wr y = b) (hd : decode mi.2.1 pc = .ok (.if_icmp .ge off, 3)) (ht : (pc : Int) + off = (tgt : Int)) (kt : b ≤ a → V E mi d tgt L stk M Q) (kf : ¬ b ≤ a → V E mi d (pc + 3) L stk M Q) : V E mi d pc L (vi y :: vi x :: stk) M Q := by
  intro p e R s m args below meth c H locs ls hx hb hr hml ho hk hR hS hP hT hl
  subst ha; subst hb2
  have w0 : wr 0 = 0 := by decide
  refine lv_icmp_ge hx hb hd ht (fun h => kt ?_ p e R s m args below meth c H locs ls hx hb hr hml ho hk hR hS hP hT hl) (fun h => kf ?_ p e R s m args below meth c H locs ls hx hb hr hml ho hk hR hS hP hT hl)
  · have g := (kk_le y x).mp h; exact g
  · intro q; apply h; have g := (kk_le y x).mpr; exact g q
theorem V.if_ge {x a off : Int} {tgt : Nat} (ha : wr x = a) (hd : decode mi.2.1 pc = .ok (.ifCond .ge off, 3)) (ht : (pc : Int) + off = (tgt : Int)) (kt : 0 ≤ a → V E mi d tgt L stk M Q) (kf : ¬ 0 ≤ a → V E mi d (pc + 3) L stk M Q) : V E mi d pc L (vi x :: stk) M Q := by
  intro p e R s m args below meth c H locs ls hx hb hr hml ho hk hR hS hP hT hl
  subst ha
  have w0 : wr 0 = 0 := by decide
  refine lv_if_ge hx hb hd ht (fun h => kt ?_ p e R s m args below meth c H locs ls hx hb hr hml ho hk hR hS hP hT hl) (fun h => kf ?_ p e R s m args below meth c H locs ls hx hb hr hml ho hk hR hS hP hT hl)
  · have g := (kk_le 0 x).mp h; rw [w0] at g; exact g
  · intro q; apply h; have g := (kk_le 0 x).mpr; rw [w0] at g; exact g q
theorem V.icmp_gt {x y a b off : Int} {tgt : Nat} (ha : wr x = a) (hb2 : wr y = b) (hd : decode mi.2.1 pc = .ok (.if_icmp .gt off, 3)) (ht : (pc : Int) + off = (tgt : Int)) (kt : b < a → V E mi d tgt L stk M Q) (kf : ¬ b < a → V E mi d (pc + 3) L stk M Q) : V E mi d pc L (vi y :: vi x :: stk) M Q := by
  intro p e R s m args below meth c H locs ls hx hb hr hml ho hk hR hS hP hT hl
  subst ha; subst hb2
  have w0 : wr 0 = 0 := by decide
  refine lv_icmp_gt hx hb hd ht (fun h => kt ?_ p e R s m args below meth c H locs ls hx hb hr hml ho hk hR hS hP hT hl) (fun h => kf ?_ p e R s m args below meth c H locs ls hx hb hr hml ho hk hR hS hP hT hl)
  · have g := (kk_lt y x).mp h; exact g
  · intro q; apply h; have g := (kk_lt y x).mpr; exact g q
theorem V.if_gt {x a off : Int} {tgt : Nat} (ha : wr x = a) (hd : decode mi.2.1 pc = .ok (.ifCond .gt off, 3)) (ht : (pc : Int) + off = (tgt : Int)) (kt : 0 < a → V E mi d tgt L stk M Q) (kf : ¬ 0 < a → V E mi d (pc + 3) L stk M Q) : V E mi d pc L (vi x :: stk) M Q := by
  intro p e R s m args below meth c H locs ls hx hb hr hml ho hk hR hS hP hT hl
  subst ha
  have w0 : wr 0 = 0 := by decide
  refine lv_if_gt hx hb hd ht (fun h => kt ?_ p e R s m args below meth c H locs ls hx hb hr hml ho hk hR hS hP hT hl) (fun h => kf ?_ p e R s m args below meth c H locs ls hx hb hr hml ho hk hR hS hP hT hl)
  · have g := (kk_lt 0 x).mp h; rw [w0] at g; exact g
  · intro q; apply h; have g := (kk_lt 0 x).mpr; rw [w0] at g; exact g q
theorem V.icmp_le {x y a b off : Int} {tgt : Nat} (ha : wr x = a) (hb2 : wr y = b) (hd : decode mi.2.1 pc = .ok (.if_icmp .le off, 3)) (ht : (pc : Int) + off = (tgt : Int)) (kt : a ≤ b → V E mi d tgt L stk M Q) (kf : ¬ a ≤ b → V E mi d (pc + 3) L stk M Q) : V E mi d pc L (vi y :: vi x :: stk) M Q := by
  intro p e R s m args below meth c H locs ls hx hb hr hml ho hk hR hS hP hT hl
  subst ha; subst hb2
  have w0 : wr 0 = 0 := by decide
  refine lv_icmp_le hx hb hd ht (fun h => kt ?_ p e R s m args below meth c H locs ls hx hb hr hml ho hk hR hS hP hT hl) (fun h => kf ?_ p e R s m args below meth c H locs ls hx hb hr hml ho hk hR hS hP hT hl)
  · have g := (kk_le x y).mp h; exact g
  · intro q; apply h; have g := (kk_le x y).mpr; exact g q
theorem V.if_le {x a off : Int} {tgt : Nat} (ha : wr x = a) (hd : decode mi.2.1 pc = .ok (.ifCond .le off, 3)) (ht : (pc : Int) + off = (tgt : Int)) (kt : a ≤ 0 → V E mi d tgt L stk M Q) (kf : ¬ a ≤ 0 → V E mi d (pc + 3) L stk M Q) : V E mi d pc L (vi x :: stk) M Q := by
  intro p e R s m args below meth c H locs ls hx hb hr hml ho hk hR hS hP hT hl
  subst ha
  have w0 : wr 0 = 0 := by decide
  refine lv_if_le hx hb hd ht (fun h => kt ?_ p e R s m args below meth c H locs ls hx hb hr hml ho hk hR hS hP hT hl) (fun h => kf ?_ p e R s m args below meth c H locs ls hx hb hr hml ho hk hR hS hP hT hl)
  · have g := (kk_le x 0).mp h; rw [w0] at g; exact g
  · intro q; apply h; have g := (kk_le x 0).mpr; rw [w0] at g; exact g q
theorem V.goto {off : Int} {tgt : Nat} (hd : decode mi.2.1 pc = .ok (.goto off, 3)) (ht : (pc : Int) + off = (tgt : Int)) (k : V E mi d tgt L stk M Q) : V E mi d pc L stk M Q := k.step (fun p e R s m args below meth c H locs ls Z hx hb ho hS hP hT hl k => lv_goto hx hb hd ht k)
theorem V.lcmp_eq {x y a b off : Int} {tgt : Nat} (ha : wl x = a) (hb2 : wl y = b) (hd : decode mi.2.1 pc = .ok (.lcmp, 1)) (hd2 : decode mi.2.1 (pc + 1) = .ok (.ifCond .eq off, 3)) (ht : ((pc + 1 : Nat) : Int) + off = (tgt : Int)) (kt : a = b → V E mi d tgt L stk M Q) (kf : ¬ a = b → V E mi d (pc + 4) L stk M Q) : V E mi d pc L (vl y :: vl x :: stk) M Q := by
  intro p e R s m args below meth c H locs ls hx hb hr hml ho hk hR hS hP hT hl
  subst ha; subst hb2
  refine W.lcmp hx hb hd ?_
  refine lv_if_eq hx hb hd2 ht (fun h => kt ?_ p e R s m args below meth c H locs ls hx hb hr hml ho hk hR hS hP hT hl) (fun h => kf ?_ p e R s m args below meth c H locs ls hx hb hr hml ho hk hR hS hP hT hl) <;> (unfold lg_cmp at h; simp only [gt_iff_lt, kk_ltL, kk_eqL] at h; revert h; split <;> (try split) <;> intro h <;> first | omega | exact absurd h (by decide))
theorem V.lcmp_ne {x y a b off : Int} {tgt : Nat} (ha : wl x = a) (hb2 : wl y = b) (hd : decode mi.2.1 pc = .ok (.lcmp, 1)) (hd2 : decode mi.2.1 (pc + 1) = .ok (.ifCond .ne off, 3)) (ht : ((pc + 1 : Nat) : Int) + off = (tgt : Int)) (kt : ¬ a = b → V E mi d tgt L stk M Q) (kf : a = b → V E mi d (pc + 4) L stk M Q) : V E mi d pc L (vl y :: vl x :: stk) M Q := by
  intro p e R s m args below meth c H locs ls hx hb hr hml ho hk hR hS hP hT hl
  subst ha; subst hb2
  refine W.lcmp hx hb hd ?_
  refine lv_if_ne hx hb hd2 ht (fun h => kt ?_ p e R s m args below meth c H locs ls hx hb hr hml ho hk hR hS hP hT hl) (fun h => kf ?_ p e R s m args below meth c H locs ls hx hb hr hml ho hk hR hS hP hT hl) <;> (unfold lg_cmp at h; simp only [gt_iff_lt, kk_ltL, kk_eqL] at h; revert h; split <;> (try split) <;> intro h <;> first | omega | exact absurd h (by decide))
theorem V.lcmp_lt {x y a b off : Int} {tgt : Nat} (ha : wl x = a) (hb2 : wl y = b) (hd : decode mi.2.1 pc = .ok (.lcmp, 1)) (hd2 : decode mi.2.1 (pc + 1) = .ok (.ifCond .lt off, 3)) (ht : ((pc + 1 : Nat) : Int) + off = (tgt : Int)) (kt : a < b → V E mi d tgt L stk M Q) (kf : ¬ a < b → V E mi d (pc + 4) L stk M Q) : V E mi d pc L (vl y :: vl x :: stk) M Q := by
  intro p e R s m args below meth c H locs ls hx hb hr hml ho hk hR hS hP hT hl
  subst ha; subst hb2
  refine W.lcmp hx hb hd ?_
  refine lv_if_lt hx hb hd2 ht (fun h => kt ?_ p e R s m args below meth c H locs ls hx hb hr hml ho hk hR hS hP hT hl) (fun h => kf ?_ p e R s m args below meth c H locs ls hx hb hr hml ho hk hR hS hP hT hl) <;> (unfold lg_cmp at h; simp only [gt_iff_lt, kk_ltL, kk_eqL] at h; revert h; split <;> (try split) <;> intro h <;> first | omega | exact absurd h (by decide))
theorem V.lcmp_ge {x y a b off : Int} {tgt : Nat} (ha : wl x = a) (hb2 : wl y = b) (hd : decode mi.2.1 pc = .ok (.lcmp, 1)) (hd2 : decode mi.2.1 (pc + 1) = .ok (.ifCond .ge off, 3)) (ht : ((pc + 1 : Nat) : Int) + off = (tgt : Int)) (kt : b ≤ a → V E mi d tgt L stk M Q) (kf : ¬ b ≤ a → V E mi d (pc + 4) L stk M Q) : V E mi d pc L (vl y :: vl x :: stk) M Q := by
  intro p e R s m args below meth c H locs ls hx hb hr hml ho hk hR hS hP hT hl
  subst ha; subst hb2
  refine W.lcmp hx hb hd ?_
  refine lv_if_ge hx hb hd2 ht (fun h => kt ?_ p e R s m args below meth c H locs ls hx hb hr hml ho hk hR hS hP hT hl) (fun h => kf ?_ p e R s m args below meth c H locs ls hx hb hr hml ho hk hR hS hP hT hl) <;> (unfold lg_cmp at h; simp only [gt_iff_lt, kk_ltL, kk_eqL] at h; revert h; split <;> (try split) <;> intro h <;> first | omega | exact absurd h (by decide))
theorem V.lcmp_gt {x y a b off : Int} {tgt : Nat} (ha : wl x = a) (hb2 : wl y = b) (hd : decode mi.2.1 pc = .ok (.lcmp, 1)) (hd2 : decode mi.2.1 (pc + 1) = .ok (.ifCond .gt off, 3)) (ht : ((pc + 1 : Nat) : Int) + off = (tgt : Int)) (kt : b < a → V E mi d tgt L stk M Q) (kf : ¬ b < a → V E mi d (pc + 4) L stk M Q) : V E mi d pc L (vl y :: vl x :: stk) M Q := by
  intro p e R s m args below meth c H locs ls hx hb hr hml ho hk hR hS hP hT hl
  subst ha; subst hb2
  refine W.lcmp hx hb hd ?_
  refine lv_if_gt hx hb hd2 ht (fun h => kt ?_ p e R s m args below meth c H locs ls hx hb hr hml ho hk hR hS hP hT hl) (fun h => kf ?_ p e R s m args below meth c H locs ls hx hb hr hml ho hk hR hS hP hT hl) <;> (unfold lg_cmp at h; simp only [gt_iff_lt, kk_ltL, kk_eqL] at h; revert h; split <;> (try split) <;> intro h <;> first | omega | exact absurd h (by decide))
theorem V.lcmp_le {x y a b off : Int} {tgt : Nat} (ha : wl x = a) (hb2 : wl y = b) (hd : decode mi.2.1 pc = .ok (.lcmp, 1)) (hd2 : decode mi.2.1 (pc + 1) = .ok (.ifCond .le off, 3)) (ht : ((pc + 1 : Nat) : Int) + off = (tgt : Int)) (kt : a ≤ b → V E mi d tgt L stk M Q) (kf : ¬ a ≤ b → V E mi d (pc + 4) L stk M Q) : V E mi d pc L (vl y :: vl x :: stk) M Q := by
  intro p e R s m args below meth c H locs ls hx hb hr hml ho hk hR hS hP hT hl
  subst ha; subst hb2
  refine W.lcmp hx hb hd ?_
  refine lv_if_le hx hb hd2 ht (fun h => kt ?_ p e R s m args below meth c H locs ls hx hb hr hml ho hk hR hS hP hT hl) (fun h => kf ?_ p e R s m args below meth c H locs ls hx hb hr hml ho hk hR hS hP hT hl) <;> (unfold lg_cmp at h; simp only [gt_iff_lt, kk_ltL, kk_eqL] at h; revert h; split <;> (try split) <;> intro h <;> first | omega | exact absurd h (by decide))
theorem V.tableIn {x a dflt lo hi off : Int} {offs : Array Int} {len tgt : Nat} (ha : wr x = a) (hd : decode mi.2.1 pc = .ok (.tableswitch dflt lo hi offs, len)) (h1 : ¬ a < lo) (h2 : ¬ hi < a) (ho2 : offs[(a - lo).toNat]? = some off) (ht : (pc : Int) + off = (tgt : Int)) (k : V E mi d tgt L stk M Q) : V E mi d pc L (vi x :: stk) M Q := k.step (fun p e R s m args below meth c H locs ls Z hx hb ho hS hP hT hl k => by subst ha; exact lv_tableIn hx hb hd h1 h2 ho2 ht k)
theorem V.tableOut {x a dflt lo hi : Int} {offs : Array Int} {len tgt : Nat} (ha : wr x = a) (hd : decode mi.2.1 pc = .ok (.tableswitch dflt lo hi offs, len)) (h : a < lo ∨ hi < a) (ht : (pc : Int) + dflt = (tgt : Int)) (k : V E mi d tgt L stk M Q) : V E mi d pc L (vi x :: stk) M Q := k.step (fun p e R s m args below meth c H locs ls Z hx hb ho hS hP hT hl k => by subst ha; exact lv_tableOut hx hb hd h ht k)
theorem V.get {ci N idx j : Nat} {fs : List Value} {C : String} {T : u_T} {v : Value} (hj : j < 60) (hc : cf E j (M j) = .inr (ci, fs)) (hcl : vwCl[ci]? = some (C, T, N)) (hin : ∀ w ∈ u_ws C T N, GW w) (f : Nat) (hf : f < N) (hv : fs[f]? = some v) (hw : GW (.fieldLink mi.1.cls idx (T f).1 (T f).2.1 (T f).2.2.1)) (hd : decode mi.2.1 pc = .ok (.getfield idx, 3)) (k : V E mi d (pc + 3) L (v :: stk) M Q) : V E mi d pc L (rf E j :: stk) M Q := k.step (fun p e R s m args below meth c H locs ls Z hx hb ho hS hP hT hl k => va_get (Ts := u_ws C T N) hx hb (fun w h => hS.2.1 w (hin w h) _) (fun _ h => h) ho hS.1 hP j (by rw [hp_get E M hj, hc]) hcl f hf (hS.2.1 _ hw _) (fun _ h => h) hv hd k)
theorem V.put {ci N idx j f : Nat} {F : (Nat → Int) → List Value} {C : String} {T : u_T} {v : Value} {x : Int} {ty : FieldType} {M1 : Mem} (hM1 : st M j f x = M1) (hj : j < 60) (hc : ∀ r, cf E j r = .inr (ci, F r)) (hcl : vwCl[ci]? = some (C, T, N)) (hin : ∀ w ∈ u_ws C T N, GW w) (ty0 : Nat → FieldType) (hty : ∀ k, k < N → parseFieldDescriptor (T k).2.2.1 = some (ty0 k)) (hnm : ∀ a, a < N → ∀ b, b < N → a ≠ b → (T a).2.1 ≠ (T b).2.1) (hf : f < N) (hfin : (T f).2.2.2 = false) (hdt : parseFieldDescriptor (T f).2.2.1 = some ty) (hn : narrow ty v = v) (hfit : fits ty v = true) (hlen : f < (F (M j)).length) (hset : (F (M j)).set f v = F (fun b => if b = f then x else M j b)) (hw : GW (.fieldLink mi.1.cls idx (T f).1 (T f).2.1 (T f).2.2.1)) (hd : decode mi.2.1 pc = .ok (.putfield idx, 3)) (k : V E mi d (pc + 3) L stk M1 Q) : V E mi d pc L (v :: rf E j :: stk) M Q := by
  intro p e R s m args below meth c H locs ls hx hb hr hml ho hk hR hS hP hT hl
  subst hM1
  refine va_put (Ts := u_ws C T N) hx hb (fun w h => hS.2.1 w (hin w h) _) (fun _ h => h) ty0 hty hnm ho hS.1 hP (hS.2.2.2.1 M) hT j (fs := F (M j)) (by rw [hp_get E M hj, hc]) hcl f hf (hS.2.1 _ hw _) (fun _ h => h) hfin hdt hn hfit hlen hd (fun H locs hP1 _ hT => ?_)
  rw [hset, ← hc, hp_set E M hj] at hP1
  exact k p e R s m args below meth c H locs ls hx hb hr hml ho hk hR hS hP1 hT hl
def rd (M : Mem) (a n : Nat) (x : Int) : Option Int := if 0 ≤ wr x ∧ wr x < n then some (M a (wr x).toNat) else none
def wt (M : Mem) (a n : Nat) (x v : Int) : Option Mem := if 0 ≤ wr x ∧ wr x < n then some (st M a (wr x).toNat v) else none
theorem kk_in {x : Int} {n : Nat} (h : 0 ≤ wr x ∧ wr x < n) : vp_in (Int32.ofInt x) n := vp_in_iff.mpr h
theorem rd_some {M : Mem} {a n : Nat} {x v : Int} (h : rd M a n x = some v) : (0 ≤ wr x ∧ wr x < n) ∧ v = M a (wr x).toNat := by
  unfold rd at h; split at h
  · rename_i g; exact ⟨g, (Option.some.inj h).symm⟩
  · cases h
theorem wt_some {M M' : Mem} {a n : Nat} {x v : Int} (h : wt M a n x v = some M') : (0 ≤ wr x ∧ wr x < n) ∧ M' = st M a (wr x).toNat v := by
  unfold wt at h; split at h
  · rename_i g; exact ⟨g, (Option.some.inj h).symm⟩
  · cases h
theorem rd_lit {M : Mem} {a n : Nat} (x : Int) (k : Nat) (h : wr x = k) (hk : k < n) : rd M a n x = some (M a k) := by
  unfold rd; rw [h, if_pos ⟨by omega, by omega⟩]; rfl
theorem wt_lit {M : Mem} {a n : Nat} {v : Int} (x : Int) (k : Nat) (h : wr x = k) (hk : k < n) : wt M a n x v = some (st M a k v) := by
  unfold wt; rw [h, if_pos ⟨by omega, by omega⟩]; rfl
theorem V.iald {a n : Nat} {x v : Int} (ha : isI a n) (h : rd M a n x = some v) (hd : decode mi.2.1 pc = .ok (.iaload, 1)) (k : V E mi d (pc + 1) L (vi v :: stk) M Q) : V E mi d pc L (vi x :: rf E a :: stk) M Q := k.step (fun p e R s m args below meth c H locs ls Z hx hb ho hS hP hT hl k => by obtain ⟨hi, rfl⟩ := rd_some h; exact va_iald (f := fun k => Int32.ofInt (M a k)) hx hb hS.1 hP a 0 (by rw [hp_get E M ha.1, ha.2.2 E]) rfl (kk_in hi) hd k)
theorem V.zald {a n : Nat} {x v : Int} (ha : isZ a n) (h : rd M a n x = some v) (hd : decode mi.2.1 pc = .ok (.baload, 1)) (k : V E mi d (pc + 1) L (vi v :: stk) M Q) : V E mi d pc L (vi x :: rf E a :: stk) M Q := k.step (fun p e R s m args below meth c H locs ls Z hx hb ho hS hP hT hl k => by obtain ⟨hi, rfl⟩ := rd_some h; exact va_zald (f := fun k => Int32.ofInt (M a k)) hx hb hS.1 hP a 1 (by rw [hp_get E M ha.1, ha.2.2 E]) rfl (kk_in hi) hd k)
theorem V.lald {a n : Nat} {x v : Int} (ha : isJ a n) (h : rd M a n x = some v) (hd : decode mi.2.1 pc = .ok (.laload, 1)) (k : V E mi d (pc + 1) L (vl v :: stk) M Q) : V E mi d pc L (vi x :: rf E a :: stk) M Q := k.step (fun p e R s m args below meth c H locs ls Z hx hb ho hS hP hT hl k => by obtain ⟨hi, rfl⟩ := rd_some h; exact va_lald (f := fun k => Int64.ofInt (M a k)) hx hb hS.1 hP a 2 (by rw [hp_get E M ha.1, ha.2.2 E]) rfl (kk_in hi) hd k)
theorem kk_upd (r : Nat → Int) (k : Nat) (v : Int) : upd (fun k => Int32.ofInt (r k)) k (Int32.ofInt v) = fun j => Int32.ofInt (if j = k then v else r j) := by
  funext j; unfold upd; split <;> rfl
theorem kk_updL (r : Nat → Int) (k : Nat) (v : Int) : vp_updL (fun k => Int64.ofInt (r k)) k (Int64.ofInt v) = fun j => Int64.ofInt (if j = k then v else r j) := by
  funext j; unfold vp_updL; split <;> rfl
theorem V.iast {a n : Nat} {x v : Int} {M' : Mem} (ha : isI a n) (h : wt M a n x v = some M') (hd : decode mi.2.1 pc = .ok (.iastore, 1)) (k : V E mi d (pc + 1) L stk M' Q) : V E mi d pc L (vi v :: vi x :: rf E a :: stk) M Q := by
  intro p e R s m args below meth c H locs ls hx hb hr hml ho hk hR hS hP hT hl
  obtain ⟨hi, rfl⟩ := wt_some h
  refine va_iast hx hb hS.1 hP (hS.2.2.2.1 M) hT a 0 (by rw [hp_get E M ha.1, ha.2.2 E]) rfl (kk_in hi) hd (fun H locs hP1 _ hT => ?_)
  rw [show (Int32.ofInt x).toNatClampNeg = (wr x).toNat from rfl, kk_upd, ← ha.2.2 E, hp_set E M ha.1] at hP1
  exact k p e R s m args below meth c H locs ls hx hb hr hml ho hk hR hS hP1 hT hl
theorem V.zast {a n : Nat} {x v : Int} {M' : Mem} (ha : isZ a n) (hz : v = 0 ∨ v = 1) (h : wt M a n x v = some M') (hd : decode mi.2.1 pc = .ok (.bastore, 1)) (k : V E mi d (pc + 1) L stk M' Q) : V E mi d pc L (vi v :: vi x :: rf E a :: stk) M Q := by
  intro p e R s m args below meth c H locs ls hx hb hr hml ho hk hR hS hP hT hl
  obtain ⟨hi, rfl⟩ := wt_some h
  refine va_zast hx hb hS.1 hP (hS.2.2.2.1 M) hT a 1 (by rw [hp_get E M ha.1, ha.2.2 E]) rfl (kk_in hi) hd (fun H locs hP1 _ hT => ?_)
  rw [show vp_nar .boolean (Int32.ofInt v) = Int32.ofInt v by rcases hz with rfl | rfl <;> decide] at hP1
  rw [show (Int32.ofInt x).toNatClampNeg = (wr x).toNat from rfl, kk_upd, ← ha.2.2 E, hp_set E M ha.1] at hP1
  exact k p e R s m args below meth c H locs ls hx hb hr hml ho hk hR hS hP1 hT hl
theorem V.last {a n : Nat} {x v : Int} {M' : Mem} (ha : isJ a n) (h : wt M a n x v = some M') (hd : decode mi.2.1 pc = .ok (.lastore, 1)) (k : V E mi d (pc + 1) L stk M' Q) : V E mi d pc L (vl v :: vi x :: rf E a :: stk) M Q := by
  intro p e R s m args below meth c H locs ls hx hb hr hml ho hk hR hS hP hT hl
  obtain ⟨hi, rfl⟩ := wt_some h
  refine va_last hx hb hS.1 hP (hS.2.2.2.1 M) hT a 2 (by rw [hp_get E M ha.1, ha.2.2 E]) rfl (kk_in hi) hd (fun H locs hP1 _ hT => ?_)
  rw [show (Int32.ofInt x).toNatClampNeg = (wr x).toNat from rfl, kk_updL, ← ha.2.2 E, hp_set E M ha.1] at hP1
  exact k p e R s m args below meth c H locs ls hx hb hr hml ho hk hR hS hP1 hT hl
theorem V.aald {t a n : Nat} {f : Nat → Nat} {C : String} {x : Int} {j : Nat} (ha : isR t a n f) (ht : (tys E)[t]? = some (eC E t, .object C)) (hi : 0 ≤ wr x ∧ wr x < n) (hj : f (wr x).toNat = j) (hd : decode mi.2.1 pc = .ok (.aaload, 1)) (k : V E mi d (pc + 1) L (rf E j :: stk) M Q) : V E mi d pc L (vi x :: rf E a :: stk) M Q := k.step (fun p e R s m args below meth c H locs ls Z hx hb ho hS hP hT hl k => by subst hj; exact va_aldq (f := fun k => some (eA E (f k))) hx hb hS.1 hP a t (by rw [hp_get E M ha.1, ha.2.2 E]) ht (kk_in hi) hd k)
theorem V.aaldA {a n : Nat} {f : Nat → Nat} {x : Int} {j : Nat} (ha : isR 5 a n f) (hi : 0 ≤ wr x ∧ wr x < n) (hj : f (wr x).toNat = j) (hd : decode mi.2.1 pc = .ok (.aaload, 1)) (k : V E mi d (pc + 1) L (rf E j :: stk) M Q) : V E mi d pc L (vi x :: rf E a :: stk) M Q := k.step (fun p e R s m args below meth c H locs ls Z hx hb ho hS hP hT hl k => by
  subst hj
  have hin := kk_in hi
  have hlt : (Int32.ofInt x).toNatClampNeg < n := Nat.not_le.mp fun q => hin (Or.inr q)
  have hc : H[eA E a]? = some (vp_cell (eC E 5) (n, .inr (.inr (.inr (.inr (fun k => some (eA E (f k)))))))) := hP a (eA E a, .inl (eC E 5, n, .inr (.inr (.inr (.inr (fun k => some (eA E (f k)))))))) (by rw [hp_get E M ha.1, ha.2.2 E])
  exact W.aald (v := rf E (f (wr x).toNat)) (ty := .array .int) hx hb hc ((hS.1.2 5 _ rfl).1 n (fun j => va_rf (some (eA E (f j))))) rfl (fun q => by cases q) (by show ¬ (_ ∨ (arrV _ _ _).slots.size ≤ _); rw [arrV_size]; exact hin) (by show (arrV _ _ _).slots[_]? = _; rw [arrV_read _ _ hlt]; rfl) rfl rfl hd k)
theorem V.alen {a n : Nat} (ha : isI a n) (hd : decode mi.2.1 pc = .ok (.arraylength, 1)) (k : V E mi d (pc + 1) L (vi n :: stk) M Q) : V E mi d pc L (rf E a :: stk) M Q := k.step (fun p e R s m args below meth c H locs ls Z hx hb ho hS hP hT hl k => va_alen hx hb hS.1 hP a 0 (by rw [hp_get E M ha.1, ha.2.2 E]) rfl (Int32.ofInt_eq_ofNat (n := n)).symm hd k)
theorem kk_F {E : En} {s t : State} {H : Heap} {locs : List Loc} (hT : va_S (AA E) s.heap H locs) (ht : t.heap = H) : va_F (AA E) s t := hT.F ht
theorem V.iret {x : Int} (hr0 : mi.2.2.2 = some .int) (hd : decode mi.2.1 pc = .ok (.ireturn, 1)) (hq : Q (some (vi x)) M) : V E mi d pc L [vi x] M Q := by
  intro p e R s m args below meth c H locs ls hx hb hr hml ho hk hR hS hP hT hl
  exact W.iret hx hb (hr.trans hr0) (fun t ht _ => ⟨⟨_, M, rfl, hq, by rw [ht]; exact hP⟩, kk_F hT ht⟩) (fun q h => hT.2.2 q h) hd hk
theorem V.zret {x : Int} (hr0 : mi.2.2.2 = some .boolean) (hz : x = 0 ∨ x = 1) (hd : decode mi.2.1 pc = .ok (.ireturn, 1)) (hq : Q (some (vi x)) M) : V E mi d pc L [vi x] M Q := by
  intro p e R s m args below meth c H locs ls hx hb hr hml ho hk hR hS hP hT hl
  exact W.zret hx hb (hr.trans hr0) (by rcases hz with rfl | rfl <;> decide) (fun t ht _ => ⟨⟨_, M, rfl, hq, by rw [ht]; exact hP⟩, kk_F hT ht⟩) (fun q h => hT.2.2 q h) hd hk
theorem V.lret {x : Int} (hr0 : mi.2.2.2 = some .long) (hd : decode mi.2.1 pc = .ok (.lreturn, 1)) (hq : Q (some (vl x)) M) : V E mi d pc L [vl x] M Q := by
  intro p e R s m args below meth c H locs ls hx hb hr hml ho hk hR hS hP hT hl
  exact W.lret hx hb (hr.trans hr0) (fun t ht _ => ⟨⟨_, M, rfl, hq, by rw [ht]; exact hP⟩, kk_F hT ht⟩) (fun q h => hT.2.2 q h) hd hk
theorem V.vret (hr0 : mi.2.2.2 = none) (hd : decode mi.2.1 pc = .ok (.return_, 1)) (hq : Q none M) : V E mi d pc L [] M Q := by
  intro p e R s m args below meth c H locs ls hx hb hr hml ho hk hR hS hP hT hl
  exact W.vret hx hb (hr.trans hr0) (fun t ht _ => ⟨⟨_, M, rfl, hq, by rw [ht]; exact hP⟩, kk_F hT ht⟩) (fun q h => hT.2.2 q h) hd hk
theorem V.aret {j : Nat} {rt : FieldType} (hr0 : mi.2.2.2 = some rt) (hrt : (∃ n, rt = .object n) ∨ ∃ t, rt = .array t) (hd : decode mi.2.1 pc = .ok (.areturn, 1)) (hq : Q (some (rf E j)) M) : V E mi d pc L [rf E j] M Q := by
  intro p e R s m args below meth c H locs ls hx hb hr hml ho hk hR hS hP hT hl
  exact W.aret hx hb (hr.trans hr0) hrt (Or.inr ⟨_, rfl⟩) (fun t ht _ => ⟨⟨_, M, rfl, hq, by rw [ht]; exact hP⟩, kk_F hT ht⟩) (fun q h => hT.2.2 q h) hd hk
/-- what a call needs of the callee: that it is an instance method (a static one), its code, its parameters -/
def OKV (mi : MI) (n : Nat) : Prop := GW (.instanceMethod mi.1) ∧ GW (.selects mi.1.cls mi.1 mi.1) ∧ GW (.initialized mi.1.cls) ∧ GW (.code mi.1 mi.2.1 mi.2.2.1 mi.2.2.2) ∧ (mi.1.cls ≠ "java/lang/invoke/MethodHandle" ∧ mi.1.cls ≠ "java/lang/invoke/VarHandle" ∧ (parseMethodDescriptor mi.1.desc).map (fun d => d.parameters.length) = some n) ∧ mi.2.2.1 ≤ 40
def OKS (mi : MI) (n : Nat) : Prop := GW (.static mi.1) ∧ GW (.initialized mi.1.cls) ∧ GW (.code mi.1 mi.2.1 mi.2.2.1 mi.2.2.2) ∧ (mi.1.cls ≠ "java/lang/invoke/MethodHandle" ∧ mi.1.cls ≠ "java/lang/invoke/VarHandle" ∧ (parseMethodDescriptor mi.1.desc).map (fun d => d.parameters.length) = some n) ∧ mi.2.2.1 ≤ 40
theorem kk_good {ws : List Cond} (h : ∀ w ∈ ws, GW w) : GoodIn ws ws := fun w hw => ⟨hw, good_of_word (h w hw).2⟩
theorem kk_blind {E : En} {M : Mem} (av : List Value) : FrameBlind (va_Pc av (fun U => SF E U ∧ va_P (eD E) vwCl (hp E M) U.heap)) := by
  intro a U g mk h
  obtain ⟨h1, h2, h3⟩ := h
  exact ⟨h1, SF.moved (s := U) (State.WarmedH.refl U) (fun _ _ _ => rfl) h2, h3⟩
theorem kk_run {p : Program} {E : En} {e : Env} {R : Room} {s : State} {m : MethodId} {args : Array Value} {below : List Frame} {meth : Method} {c : Code} {H : Heap} {locs : List Loc} {Z : State → Prop} {pc : Nat} {ls : Array Slot} {st0 rest : List Value} {Q' : Po} {av : Array Value}
    (hr : va_Run p (eL E) e R s m args below meth c H locs 0 0 0 0 (F0 m pc ls st0) rest (Qc E Q' av) (AA E)) (hT : va_S (AA E) s.heap H locs)
    (kk : ∀ (r : Option Value) (M : Mem) (H1 : Heap) (locs1 : List Loc), Q' r M → va_P (eD E) vwCl (hp E M) H1 → va_S (AA E) s.heap H1 locs1 → W p (eL E) e R s m args below meth c H1 locs1 0 0 Z (F0 m (pc + 3) ls (r.toList ++ rest))) : W p (eL E) e R s m args below meth c H locs 0 0 Z (F0 m pc ls st0) := by
  intro T hT0 X
  obtain ⟨v, st₀, t, T', Lc, h0, X', hL, e1, e2, ⟨⟨r, M, hv, hq, hP⟩, hz, hk⟩, stp⟩ := hr T hT0 X
  cases hv
  rw [h0] at hz hk
  obtain ⟨t2, a1, b1⟩ := kk v M T'.heap (locs ++ Lc) hq (by rw [e1]; exact hP)
    ⟨Nat.le_trans hT.1 (by rw [e1]; exact hz), fun q h1 h2 => by rw [e1, hk q (Nat.lt_of_lt_of_le h1 hT.1) h2]; exact hT.2.1 q h1 h2, fun q hq => by
      rcases List.mem_append.mp hq with h | h
      · exact hT.2.2 q h
      · exact hL q h⟩ T' rfl X'
  exact ⟨t2, stp t2 a1, b1⟩
theorem V.callV {mi' : MI} {d' n idx ci j N : Nat} {T : u_T} {fs : List Value} {Q' : Po} (As rest : List Value) {stk0 : List Value} (hM : Cn E mi' d' (rf E j :: As) M Q') (hok : OKV mi' n) (hlink : GW (.methodLink mi.1.cls idx mi'.1)) (hn : As.length = n) (hst : stk0 = As.reverse ++ rf E j :: rest) (hj : j < 60) (hc : cf E j (M j) = .inr (ci, fs)) (hcl : vwCl[ci]? = some (mi'.1.cls, T, N)) (hrest : (rest.map fun v => v.category).sum ≤ 8) (hdd : d' + 1 ≤ d) (hd : decode mi.2.1 pc = .ok (.invokevirtual idx, 3)) (k : ∀ (r : Option Value) (M' : Mem), Q' r M' → V E mi d (pc + 3) L (r.toList ++ rest) M' Q) : V E mi d pc L stk0 M Q := by
  intro p e R s m args below meth c H locs ls hx hb hr hml ho hk hR hS hP hT hl
  obtain ⟨o1, o2, o3, o4, o5, o6⟩ := hok
  let Ts : List Cond := wsV mi.1.cls idx mi'.1.cls mi'.1 [.code mi'.1 mi'.2.1 mi'.2.2.1 mi'.2.2.2]
  have hg : ∀ w ∈ Ts, GW w := by
    intro w hw
    simp only [Ts, wsV, List.cons_append, List.nil_append, List.mem_cons, List.not_mem_nil, or_false] at hw
    rcases hw with rfl | rfl | rfl | rfl | rfl
    · exact hlink
    · exact o1
    · exact o2
    · exact o3
    · exact o4
  have hts : ∀ w ∈ Ts, w.before args s = true := fun w h => hS.2.1 w (hg w h) _
  refine kk_run (va_runV (As := As) (rest := rest) (b := eA E j) (C := mi'.1.cls) (Ts := Ts) (n := n) (bytes := mi'.2.1) (maxL := mi'.2.2.1) (ret := mi'.2.2.2) ⟨hx, hb, hml, ho, hts⟩ hM (cwV n hts (kk_good hg) rfl rfl rfl ⟨rfl, o5⟩ ⟨by show d' + 1 ≤ _; omega, by show 8 + (_ + 11) + 60 * d' ≤ _; omega⟩) ⟨kk_blind _, va_recv hS.1 hP hcl (by rw [hp_get E M hj, hc]), fun U hU hW => ⟨rfl, SF.moved hW (fun q h1 h2 => by rw [hU]; exact hT.2.1 q h1 h2) hS, by rw [hU]; exact hP⟩⟩ rfl hn hl.1 hst (by show 2 * 0 + _ ≤ 8; omega) hd ⟨Nat.zero_le _, Nat.zero_le _⟩) hT (fun r M' H locs hq hP hT => k r M' hq p e R s m args below meth c H locs ls hx hb hr hml ho hk hR hS hP hT hl)
theorem V.callS {mi' : MI} {d' n idx : Nat} {Q' : Po} (As rest : List Value) {stk0 : List Value} (hM : Cn E mi' d' As M Q') (hok : OKS mi' n) (hlink : GW (.methodLink mi.1.cls idx mi'.1)) (hn : As.length = n) (hst : stk0 = As.reverse ++ rest) (hrest : (rest.map fun v => v.category).sum ≤ 8) (hdd : d' + 1 ≤ d) (hd : decode mi.2.1 pc = .ok (.invokestatic idx, 3)) (k : ∀ (r : Option Value) (M' : Mem), Q' r M' → V E mi d (pc + 3) L (r.toList ++ rest) M' Q) : V E mi d pc L stk0 M Q := by
  intro p e R s m args below meth c H locs ls hx hb hr hml ho hk hR hS hP hT hl
  obtain ⟨o1, o3, o4, o5, o6⟩ := hok
  let Ts : List Cond := va_wsS mi.1.cls idx mi'.1 [.code mi'.1 mi'.2.1 mi'.2.2.1 mi'.2.2.2]
  have hg : ∀ w ∈ Ts, GW w := by
    intro w hw
    simp only [Ts, va_wsS, List.cons_append, List.nil_append, List.mem_cons, List.not_mem_nil, or_false] at hw
    rcases hw with rfl | rfl | rfl | rfl
    · exact hlink
    · exact o1
    · exact o3
    · exact o4
  have hts : ∀ w ∈ Ts, w.before args s = true := fun w h => hS.2.1 w (hg w h) _
  refine kk_run (va_runS (As := As) (rest := rest) (Ts := Ts) (n := n) (bytes := mi'.2.1) (maxL := mi'.2.2.1) (ret := mi'.2.2.2) ⟨hx, hb, hml, ho, hts⟩ hM (va_cwS n hts (kk_good hg) rfl rfl rfl o5 ⟨by show d' + 1 ≤ _; omega, by show 8 + (_ + 11) + 60 * d' ≤ _; omega⟩) ⟨kk_blind _, fun U hU hW => ⟨rfl, SF.moved hW (fun q h1 h2 => by rw [hU]; exact hT.2.1 q h1 h2) hS, by rw [hU]; exact hP⟩⟩ rfl hn hl.1 hst (by show 2 * 0 + _ ≤ 8; omega) hd ⟨Nat.zero_le _, Nat.zero_le _⟩) hT (fun r M' H locs hq hP hT => k r M' hq p e R s m args below meth c H locs ls hx hb hr hml ho hk hR hS hP hT hl)
theorem V.callSN {mi' : MI} {d' n idx : Nat} {Q' : Po} {host : String} (As rest : List Value) {stk0 : List Value} (hM : Cn E mi' d' As M Q') (hok : OKS mi' n) (hlink : (mi.1.cls, idx, mi'.1, host) ∈ nwl) (hn : As.length = n) (hst : stk0 = As.reverse ++ rest) (hrest : (rest.map fun v => v.category).sum ≤ 8) (hdd : d' + 1 ≤ d) (hd : decode mi.2.1 pc = .ok (.invokestatic idx, 3)) (k : ∀ (r : Option Value) (M' : Mem), Q' r M' → V E mi d (pc + 3) L (r.toList ++ rest) M' Q) : V E mi d pc L stk0 M Q := by
  intro p e R s m args below meth c H locs ls hx hb hr hml ho hk hR hS hP hT hl
  obtain ⟨o1, o3, o4, o5, o6⟩ := hok
  let Ts : List Cond := [.code mi'.1 mi'.2.1 mi'.2.2.1 mi'.2.2.2]
  have hg : ∀ w ∈ Ts, GW w := by
    intro w hw
    simp only [Ts, List.mem_cons, List.not_mem_nil, or_false] at hw
    rw [hw]; exact o4
  have hts : ∀ w ∈ Ts, w.before args s = true := fun w h => hS.2.1 w (hg w h) _
  refine kk_run (va_runSN (As := As) (rest := rest) (Ts := Ts) (n := n) (bytes := mi'.2.1) (maxL := mi'.2.2.1) (ret := mi'.2.2.2) (host := host) ⟨hx, hb, hml, ho, hts⟩ hM ⟨va_cnB n hts (kk_good hg) rfl rfl rfl (hS.2.2.1 _ hlink) (hS.2.1 _ o3 _) o5 ⟨by show d' + 1 ≤ _; omega, by show 8 + (_ + 11) + 60 * d' ≤ _; omega⟩, hS.2.1 _ o1 _, trivial⟩ ⟨kk_blind _, fun U hU hW => ⟨rfl, SF.moved hW (fun q h1 h2 => by rw [hU]; exact hT.2.1 q h1 h2) hS, by rw [hU]; exact hP⟩⟩ rfl hn hl.1 hst (by show 2 * 0 + _ ≤ 8; omega) hd ⟨Nat.zero_le _, Nat.zero_le _⟩) hT (fun r M' H locs hq hP hT => k r M' hq p e R s m args below meth c H locs ls hx hb hr hml ho hk hR hS hP hT hl)
end VROWS
