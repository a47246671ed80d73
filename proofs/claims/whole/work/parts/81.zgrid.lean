/-! new T[n][m] from the machine's own text: the outer row at h, the inner ones behind it -/
theorem gd_over {args : Array Value} {s : State} {t : FieldType} (h : (Cond.arrayOver (.array t)).before args s = true) : ∃ comp c k, s.vm.findClass (FieldType.array t).toString = some comp ∧ s.vm.classes[c]? = some k ∧ k.kind = .array comp (.array t) ∧ s.vm.findClass ("[" ++ (FieldType.array t).toString) = some c := by
  simp only [Cond.before, Cond.holds, Cond.value, beq_iff_eq, Option.bind_eq_some_iff, Option.map_eq_some_iff] at h
  obtain ⟨comp, h1, c, h2, k, h3, h4⟩ := h
  have h5 := (Array.findIdx?_eq_some_iff_getElem.mp h2).2.1
  rw [(Array.getElem?_eq_some_iff.mp h3).2] at h5
  match e : k.kind with
  | .array cm ty =>
    simp only [e, beq_iff_eq, Bool.and_eq_true, decide_eq_true_eq] at h4 h5
    exact ⟨comp, c, k, h1, h3, by rw [e, h5, h4.1], h4.2⟩
  | .ordinary => simp [e] at h4
  | .primitive _ => simp [e] at h4
def gd_o (cA : ClassId) (N h i : Nat) : Cell := arrV cA N (fun j => va_rf (if j < i then some (h + 1 + j) else none))
theorem gd_o0 (cA : ClassId) (N h : Nat) : ({ cls := cA, slots := Array.replicate N .null, vm := .none } : Cell) = gd_o cA N h 0 := by
  rw [arrV_new]
  exact congrArg (arrV cA N) (funext fun j => by rw [if_neg (Nat.not_lt_zero j)]; rfl)
theorem gd_o1 (cA : ClassId) (N h i : Nat) : (gd_o cA N h i).setSlot i (.ref (h + 1 + i)) = gd_o cA N h (i + 1) := by
  unfold gd_o
  rw [arrV_store]
  refine congrArg (arrV cA N) (funext fun j => ?_)
  unfold updV
  by_cases e : j = i
  · rw [if_pos e, if_pos (by omega), e]; rfl
  · rw [if_neg e]
    dsimp only
    by_cases g : j < i
    · rw [if_pos g, if_pos (by omega)]
    · rw [if_neg g, if_neg (by omega)]
def gd_t (T : State) (cA cB : ClassId) (N K : Nat) (v : Value) : Nat → State
  | 0 => T.pushCell (gd_o cA N T.heap.size 0)
  | i + 1 => ((gd_t T cA cB N K v i).pushCell (arrV cB K (fun _ => v))).setCell T.heap.size (gd_o cA N T.heap.size (i + 1))
section GRID
variable {p : Program} {l : Launch} {e : Env} {R : Room} {s : State} {m : MethodId} {args : Array Value} {below : List Frame} {meth : Method} {c : Code} {T : State} {locs : List Loc} {cells slots : Nat}
/-- the heap behind i inner rows -/
def gd_H (T F : State) (cA cB : ClassId) (N K : Nat) (v : Value) (i : Nat) : Prop := F.heap.size = T.heap.size + 1 + i ∧ F.heap[T.heap.size]? = some (gd_o cA N T.heap.size i) ∧ (∀ x, x < T.heap.size → F.heap[x]? = T.heap[x]?) ∧ (∀ j, j < i → F.heap[T.heap.size + 1 + j]? = some (arrV cB K (fun _ => v))) ∧ F.vm = T.vm ∧ F.slotsUsed = T.slotsUsed + N + i * K
theorem gd_all (X : Stand p l e R s m args below meth c T locs cells slots) (cA cB : ClassId) (N K : Nat) (v : Value) : ∀ i, gd_H T (gd_t T cA cB N K v i) cA cB N K v i ∧ Stand p l e R s m args below meth c (gd_t T cA cB N K v i) locs (cells + 1 + i) (slots + N + i * K)
  | 0 => by
    have h := X.pushed (gd_o cA N T.heap.size 0)
    rw [show (gd_o cA N T.heap.size 0).slots.size = N by rw [gd_o, arrV_size]] at h
    refine ⟨⟨?_, State.heap_pushCell_size _ _, fun x hx => State.heap_pushCell_of_lt _ _ hx, fun j hj => absurd hj (Nat.not_lt_zero j), rfl, ?_⟩, ?_⟩
    · simp [gd_t]
    · show T.slotsUsed + (gd_o cA N T.heap.size 0).slots.size = _
      rw [gd_o, arrV_size]; omega
    · rw [Nat.zero_mul, Nat.add_zero, Nat.add_zero]; exact h
  | i + 1 => by
    obtain ⟨⟨h1, h2, h3, h4, h5, h6⟩, Y⟩ := gd_all X cA cB N K v i
    generalize hF : gd_t T cA cB N K v i = F at h1 h2 h3 h4 h5 h6 Y
    have e1 : gd_t T cA cB N K v (i + 1) = (F.pushCell (arrV cB K (fun _ => v))).setCell T.heap.size (gd_o cA N T.heap.size (i + 1)) := by rw [← hF]; rfl
    rw [e1]
    have hs : (i + 1) * K = i * K + K := Nat.succ_mul i K
    have hp : ∀ x, x < F.heap.size → (F.pushCell (arrV cB K (fun _ => v))).heap[x]? = F.heap[x]? := fun x hx => State.heap_pushCell_of_lt _ _ hx
    have ho : (F.pushCell (arrV cB K (fun _ => v))).heap[T.heap.size]? = some (gd_o cA N T.heap.size i) := (hp _ (by omega)).trans h2
    have Z := ((Y.pushed (arrV cB K (fun _ => v))).stored ho i (.ref (T.heap.size + 1 + i))).dropFresh (fun x hx => by rw [List.mem_singleton.mp hx]; exact X.heapGrown)
    rw [gd_o1, arrV_size] at Z
    refine ⟨⟨?_, State.heap_setCell_self ho, fun x hx => ?_, fun j hj => ?_, h5, ?_⟩, ?_⟩
    · simp [State.setCell, h1]; omega
    · rw [State.heap_setCell_other (show T.heap.size ≠ x by omega), hp x (by omega)]; exact h3 x hx
    · rw [State.heap_setCell_other (show T.heap.size ≠ T.heap.size + 1 + j by omega)]
      by_cases g : j < i
      · rw [hp _ (by omega)]; exact h4 j g
      · rw [show T.heap.size + 1 + j = F.heap.size by omega]; exact State.heap_pushCell_size _ _
    · show F.slotsUsed + (arrV cB K (fun _ => v)).slots.size = _
      rw [arrV_size, h6]; omega
    · rw [show slots + N + (i + 1) * K = slots + N + i * K + K by omega]; exact Z
end GRID
section GRIDW
variable {E : CtlPost} {e : Env} {d : Bool} {acts : List Action}
theorem gd_row {U : State} {cB cc : ClassId} {kB : Class} {ty : FieldType} {y : Int32} (hk : U.vm.classes[cB]? = some kB) (hkd : kB.kind = .array cc ty) (hy : ¬ y < 0) (hl : ¬ y.toNatClampNeg > e.platform.arrayLengthLimit) (hb : ¬ y.toNatClampNeg * componentBytes ty > e.platform.maxHeapBytes) (hf : fits ty (defaultValue ty) = true) (h1 : U.heap.size < e.platform.maxCells) (h2 : U.slotsUsed + y.toNatClampNeg ≤ e.platform.maxSlots)
    {Q : Addr → Pre} (hq : ∀ acts', Q U.heap.size d acts' (U.pushCell (arrV cB y.toNatClampNeg (fun _ => defaultValue ty)))) : wp (multianewarray.make cB [y]) Q E e d acts U := by
  unfold multianewarray.make
  simp only [wp_bind', W.ite, if_neg hy, wp_pure', W.theClass, hk, hkd, Option.some.injEq, exists_eq_left']
  refine W.newArray_of hk hkd hl hb h1 h2 hf (fun a => ?_)
  rw [← arrV_new] at hq
  exact hq a
theorem gd_ref {t : FieldType} (r : Option Nat) : fits (.array t) (va_rf r) = true := by cases r <;> rfl
theorem gd_make {T : State} {g : JFrame} {cA cB cc : ClassId} {kA kB : Class} {ty : FieldType} {x y : Int32} (hA : T.vm.classes[cA]? = some kA) (hAk : kA.kind = .array cB (.array ty)) (hB : T.vm.classes[cB]? = some kB) (hBk : kB.kind = .array cc ty) (hx : ¬ x < 0) (hy : ¬ y < 0)
    (l1 : ¬ x.toNatClampNeg > e.platform.arrayLengthLimit) (b1 : ¬ x.toNatClampNeg * componentBytes (.array ty) > e.platform.maxHeapBytes) (l2 : ¬ y.toNatClampNeg > e.platform.arrayLengthLimit) (b2 : ¬ y.toNatClampNeg * componentBytes ty > e.platform.maxHeapBytes) (hf : fits ty (defaultValue ty) = true)
    (hc : T.heap.size + (1 + x.toNatClampNeg) ≤ e.platform.maxCells) (hs : T.slotsUsed + (x.toNatClampNeg + x.toNatClampNeg * y.toNatClampNeg) ≤ e.platform.maxSlots)
    (hH : ∀ i, gd_H T (gd_t T cA cB x.toNatClampNeg y.toNatClampNeg (defaultValue ty) i) cA cB x.toNatClampNeg y.toNatClampNeg (defaultValue ty) i)
    {Q : Addr → Pre} (hq : ∀ d' acts', Q T.heap.size d' acts' ((gd_t T cA cB x.toNatClampNeg y.toNatClampNeg (defaultValue ty) x.toNatClampNeg).setTop g)) : wp (multianewarray.make cA [x, y]) Q E e d acts (T.setTop g) := by
  generalize hN : x.toNatClampNeg = N at *
  have hfind : ([y].find? (· < 0)) = none := by simp [hy]
  unfold multianewarray.make
  simp only [wp_bind', W.ite, if_neg hx, wp_pure', W.theClass, State.vm_setTop, hA, hAk, Option.some.injEq, exists_eq_left']
  rw [hN]
  refine W.newArray_of (s := T.setTop g) hA hAk l1 b1 (by show T.heap.size < _; omega) (by show T.slotsUsed + N ≤ _; omega) (gd_ref none) (fun a => ?_)
  simp only [hfind, ite_self]
  rw [wp_bind', Std.Legacy.Range.forIn_eq_forIn_range', show ([:N] : Std.Legacy.Range).size = N by simp [Std.Legacy.Range.size]]
  refine wp_forIn_inv (fun rest s' => ∃ i, i ≤ N ∧ rest = List.range' i (N - i) ∧ s' = (gd_t T cA cB N y.toNatClampNeg (defaultValue ty) i).setTop g) _ _ ⟨0, Nat.zero_le _, rfl, ?_⟩ ?_ ?_
  · rw [gd_o0 cA N T.heap.size]; rfl
  · rintro z rest s' d' acts' Q' ⟨i, hi, hl, rfl⟩ hnext
    have hlt : i < N := by
      refine Nat.lt_of_le_of_ne hi (fun q => ?_)
      rw [q, Nat.sub_self] at hl; cases hl
    rw [show N - i = (N - (i + 1)) + 1 by omega, List.range'_succ] at hl
    obtain ⟨rfl, rfl⟩ := List.cons.inj hl
    obtain ⟨h1, h2, -, -, h5, h6⟩ := hH z
    have hm : (z + 1) * y.toNatClampNeg ≤ N * y.toNatClampNeg := Nat.mul_le_mul_right _ hlt
    rw [Nat.succ_mul] at hm
    simp only [wp_bind']
    refine gd_row (by rw [State.vm_setTop, h5]; exact hB) hBk hy l2 b2 hf (by rw [State.heap_setTop, h1]; omega) (by show (gd_t T cA cB N y.toNatClampNeg (defaultValue ty) z).slotsUsed + _ ≤ _; rw [h6]; omega) (fun a' => ?_)
    simp only [wp_bind', W.writeLoc, wp_pure', State.pushCell_setTop, State.heap_setTop]
    have hz : T.heap.size < (gd_t T cA cB N y.toNatClampNeg (defaultValue ty) z).heap.size := by rw [h1]; omega
    refine ⟨gd_o cA N T.heap.size z, (State.heap_pushCell_of_lt _ _ hz).trans h2, (fun q => by cases q), by rw [gd_o, arrV_size]; exact hlt, ?_, hnext _ _ _ ⟨z + 1, hlt, rfl, ?_⟩⟩
    · have hc9 : ((gd_t T cA cB N y.toNatClampNeg (defaultValue ty) z).pushCell (arrV cB y.toNatClampNeg (fun _ => defaultValue ty))).vm.classes[cA]? = some kA := (congrArg (fun v : Vm => v.classes[cA]?) h5).trans hA
      show State.fitsSlot _ cA .none z (va_rf (some _)) = true
      simp only [State.fitsSlot, State.slotType?, State.vm_setTop, hc9, Option.bind_eq_bind, Option.bind_some, hAk]
      exact gd_ref _
    · rw [h1, gd_o1]; rfl
  · rintro s' d' acts' ⟨i, hi, hl, rfl⟩
    have : i = N := by
      refine Nat.le_antisymm hi (Nat.le_of_not_lt (fun q => ?_))
      rw [show N - i = (N - (i + 1)) + 1 by omega, List.range'_succ] at hl; cases hl
    rw [this]
    simp only [wp_pure']
    exact hq _ _
end GRIDW
section GRIDS
variable {p : Program} {l : Launch} {e : Env} {R : Room} {s : State} {m : MethodId} {args : Array Value} {below : List Frame} {meth : Method} {c : Code} {T : State} {locs : List Loc} {cells slots : Nat}
theorem gd_step (X : Stand p l e R s m args below meth c T locs cells slots) (hexec : p.tables.exec = Jvm.exec) {own : String} {index : Nat} {ty : FieldType} (hown : s.vm.findClass own = some m.cls) (hclink : (Cond.classLink own index ("[" ++ (FieldType.array ty).toString)).before args s = true)
    {cA cB cc : ClassId} {kA kB : Class} (hfA : s.vm.findClass ("[" ++ (FieldType.array ty).toString) = some cA) (hA : s.vm.classes[cA]? = some kA) (hAk : kA.kind = .array cB (.array ty)) (hB : s.vm.classes[cB]? = some kB) (hBk : kB.kind = .array cc ty)
    {pc : Nat} {ls : Array Slot} {rest : List Value} {x y : Int32} (hdg : decode c.code pc = .ok (.multianewarray index 2, 4)) (hx : ¬ x < 0) (hy : ¬ y < 0) (b1 : x.toNatClampNeg * 4 ≤ 536870912) (b2 : y.toNatClampNeg * componentBytes ty ≤ 536870912) (b3 : y.toNatClampNeg ≤ 536870912) (hf : fits ty (defaultValue ty) = true)
    (hcells : cells + (1 + x.toNatClampNeg) ≤ R.cells) (hslots : slots + (x.toNatClampNeg + x.toNatClampNeg * y.toNatClampNeg) ≤ R.slots) :
    ∃ (vm1 : Vm) (F : State), gd_H (T.setVm vm1) F cA cB x.toNatClampNeg y.toNatClampNeg (defaultValue ty) x.toNatClampNeg ∧ Stand p l e R s m args below meth c F locs (cells + 1 + x.toNatClampNeg) (slots + x.toNatClampNeg + x.toNatClampNeg * y.toNatClampNeg) ∧
      ∀ tg, Steps p.tables e below (F.setTop (F0 m (pc + 4) ls (.ref T.heap.size :: rest))) tg → Steps p.tables e below (T.setTop (F0 m pc ls (.int y :: .int x :: rest))) tg := by
  obtain ⟨c0, hc0, hcl⟩ := Cond.classLink_spec hown hclink e.platform (by rw [X.admits.platform])
  cases Option.some.inj (hfA.symm.trans hc0)
  obtain ⟨hgv, hw, -⟩ := State.classEntry (e := e) X.warmed hcl
  generalize T.vm.noted m.cls index (.cls cA) = vm1 at hgv hw
  obtain ⟨kA1, hA1, eA⟩ := hw.alike.2.2 _ _ hA
  obtain ⟨kB1, hB1, eB⟩ := hw.alike.2.2 _ _ hB
  have hH := fun i => gd_all (X.noted hw) cA cB x.toNatClampNeg y.toNatClampNeg (defaultValue ty) i
  obtain ⟨r1, r2⟩ := X.roomAbove hcells hslots
  refine ⟨vm1, _, (hH x.toNatClampNeg).1, (hH x.toNatClampNeg).2, fun tg k => ?_⟩
  have Y := (hH x.toNatClampNeg).2.here
  jvm_step X.here [hexec, hdg]
  simp only [multianewarray.sem, wp_bind', W.resolveClassAt_links (mm := m) (vm' := vm1) (State.method?_setTop (F0 m pc ls (.int y :: .int x :: rest)) X.here.top) hgv]
  rw [W.popN, if_neg (by decide)]
  refine ⟨F0 m pc ls (.int y :: .int x :: rest), State.topJava?_setTop' (s := T.setVm vm1) _ X.here.top, [.int x, .int y], rest, rfl, rfl, ?_⟩
  simp only [List.mapM_cons, List.mapM_nil, wp_bind', wp_pure']
  rw [show ((T.setTop (F0 m pc ls (.int y :: .int x :: rest))).setVm vm1).setTop { method := m, pc := pc, locals := ls, stack := rest, locked := none } = (T.setVm vm1).setTop (F0 m pc ls rest) from State.setTop_setTop (T.setVm vm1) _ _]
  refine gd_make (T := T.setVm vm1) (g := F0 m pc ls rest) (cA := cA) (cB := cB) (cc := cc) (kA := kA1) (kB := kB1) hA1 (by rw [eA]; exact hAk) hB1 (by rw [eB]; exact hBk) hx hy (by rw [Launch.admits_arrayLengthLimit X.admits]; omega) (by rw [Launch.admits_maxHeapBytes X.admits]; show ¬ x.toNatClampNeg * 4 > 536870912; omega) (by rw [Launch.admits_arrayLengthLimit X.admits]; omega) (by rw [Launch.admits_maxHeapBytes X.admits]; omega) hf r1 r2 (fun i => (hH i).1) (fun d' acts' => ?_)
  simp only [wp_bind', W.mark, W.pushRef, State.topJava?_setTop' _ Y.top, Option.some.injEq, exists_eq_left', State.setTop_setTop]
  intro a
  simp [jvm, Y.top]
  exact k
end GRIDS
/-- rows laid side by side behind all that is there -/
theorem gd_D {A : Nat → Prop} {ws nw : va_W} {h : Nat} (hD : va_D A ws) (hlt : ∀ (k : Nat) (q : Nat × va_E), ws[k]? = some q → q.1 < h) (hn : ∀ (k : Nat) (q : Nat × va_E), nw[k]? = some q → q.1 = h + k) (hA : ∀ a, h ≤ a → A a) : va_D A (ws ++ nw) := by
  have key : ∀ (k : Nat) (q : Nat × va_E), (ws ++ nw)[k]? = some q → (ws[k]? = some q ∧ q.1 < h) ∨ (ws.length ≤ k ∧ q.1 = h + (k - ws.length)) := by
    intro k q hq
    by_cases g : k < ws.length
    · rw [List.getElem?_append_left g] at hq
      exact Or.inl ⟨hq, hlt k q hq⟩
    · rw [List.getElem?_append_right (by omega)] at hq
      exact Or.inr ⟨by omega, hn _ q hq⟩
  refine ⟨fun i j a b ha hb e => ?_, fun k q hq => ?_⟩
  · rcases key i a ha with ⟨a1, a2⟩ | ⟨a1, a2⟩ <;> rcases key j b hb with ⟨b1, b2⟩ | ⟨b1, b2⟩
    · exact hD.1 i j a b a1 b1 e
    · omega
    · omega
    · omega
  · rcases key k q hq with ⟨a1, -⟩ | ⟨-, a2⟩
    · exact hD.2 k q a1
    · exact hA _ (by omega)
