/-! ===== BEGIN new T[n][m]: the outer array a place, the inner ones among the pooled ===== -/
/-- f, but v at every address of l -/
def vr_up {α : Type} (f : Nat → α) (l : List Nat) (v : α) : Nat → α := fun a => if a ∈ l then v else f a
theorem vr_up_in {α : Type} {f : Nat → α} {l : List Nat} {v : α} {a : Nat} (h : a ∈ l) : vr_up f l v a = v := if_pos h
theorem vr_up_ne {α : Type} {f : Nat → α} {l : List Nat} {v : α} {a : Nat} (h : a ∉ l) : vr_up f l v a = f a := if_neg h
theorem vr_rows {L l : List Nat} {f : Nat → va_E} {e : va_E} (h : ∀ a, a ∈ l → a ∉ L) : va_pl L f ++ l.map (fun a => (a, e)) = va_pl (L ++ l) (vr_up f l e) := by
  unfold va_pl
  rw [List.map_append]
  congr 1
  · apply List.map_congr_left
    intro a ha
    rw [vr_up_ne (fun q => h a q ha)]
  · apply List.map_congr_left
    intro a ha
    rw [vr_up_in ha]
theorem vr_lay {X rows : va_W} {x : Nat × va_E} {pl : va_W} {D : va_G} {cl : List vw_C} {H : Heap} (hP : va_P D cl (((X ++ pl) ++ [x]) ++ rows) H) : va_P D cl ((X ++ [x]) ++ (pl ++ rows)) H := by
  rw [List.append_assoc (X ++ pl)] at hP
  have h := va_P.swap hP
  rw [← List.append_assoc X] at h
  have h2 := va_P.swap h
  rw [List.append_assoc (X ++ [x])] at h2
  exact h2
theorem vr_layD {X rows : va_W} {x : Nat × va_E} {pl : va_W} {A : Nat → Prop} (hD : va_D A (((X ++ pl) ++ [x]) ++ rows)) : va_D A ((X ++ [x]) ++ (pl ++ rows)) := by
  rw [List.append_assoc (X ++ pl)] at hD
  have h := va_D.swap hD
  rw [← List.append_assoc X] at h
  have h2 := va_D.swap h
  rw [List.append_assoc (X ++ [x])] at h2
  exact h2
theorem vr_outer (c : ClassId) (N h0 : Nat) : ∀ i : Nat, Jvm.Free.Multi.outerC c N h0 i = arrV c N (fun j => va_rf (if j < i then some (h0 + 1 + j) else none))
  | 0 => by
    show ({ cls := c, slots := Array.replicate N .null, vm := .none } : Cell) = _
    rw [arrV_new]
    refine congrArg (arrV c N) (funext fun j => ?_)
    simp [va_rf]
  | i + 1 => by
    show (Jvm.Free.Multi.outerC c N h0 i).setSlot i (.ref (h0 + 1 + i)) = _
    rw [vr_outer c N h0 i, arrV_store]
    refine congrArg (arrV c N) (funext fun j => ?_)
    by_cases e : j = i
    · subst e
      simp [updV, va_rf]
    · by_cases h : j < i
      · simp [updV, e, h, Nat.lt_succ_of_lt h]
      · simp [updV, e, h, show ¬ j < i + 1 by omega]
section VGM
variable {p : Program} {l : Launch} {e : Env} {R : Room} {s : State} {m : MethodId} {args : Array Value} {below : List Frame} {meth : Method} {c : Code} {H : Heap} {locs : List Loc} {cells slots : Nat} {Q : State → Prop}
variable {cc : ByteArray} {pc : Nat} {ls : Array Slot} {rest : List Value} {D : va_G} {cl : List vw_C} {A : Nat → Prop} {a : Nat} {tys : List (ClassId × FieldType)} {ws : va_W} {H0 : Heap}
theorem va_mna {X : va_W} {L : List Nat} {f : Nat → va_E} {cc : ByteArray} (hexec : p.tables.exec = Jvm.exec) (hb : c.code = cc) {own : String} {index : Nat} {ty : FieldType} {cy : ClassId} (hown : s.vm.findClass own = some m.cls) (hclink : (Cond.classLink own index ("[" ++ (FieldType.array ty).toString)).before args s = true) (hover : va_AOA ty s) (harr : (Cond.arrayClass ty).before args s = true) (hcy : s.vm.findClass (FieldType.array ty).toString = some cy)
    (hK : va_K D cl tys s) (hP : va_P D cl (X ++ va_pl L f) H) (hD : va_D A (X ++ va_pl L f)) (hS : va_S A H0 H locs) (hA : ∀ q, H0.size ≤ q → A q) {n k : Int32} {N' K' : Nat} {z : vp_A} (hn : ¬ n < 0) (hk : ¬ k < 0) (hN : n.toNatClampNeg = N') (hM : k.toNatClampNeg = K')
    (hb1 : N' * 4 ≤ 536870912) (hb2 : K' * componentBytes ty ≤ 536870912) (hb3 : K' ≤ 536870912) (hdf : fits ty (defaultValue ty) = true) (hdd : (defaultValue ty).isDefault = true) (hcells : cells + (1 + N') ≤ R.cells) (hslots : slots + (N' + N' * K') ≤ R.slots) (hz : ∀ c : ClassId, Jvm.Free.Multi.innerC c K' (defaultValue ty) = vp_cell c z) (hdg : decode cc pc = .ok (.multianewarray index 2, 4))
    (kk : ∀ (q : Nat) (r : Nat → Nat) (cA : ClassId) (H1 : Heap), (∀ i j : Nat, i < N' → j < N' → r i = r j → i = j) → (∀ i : Nat, i < N' → r i ∉ L) → va_K D cl (tys ++ [(cA, .array ty)]) s →
      va_P D cl ((X ++ [(q, .inl (cA, N', .inr (.inr (.inr (.inr (fun i => if i < N' then some (r i) else none))))))]) ++ va_pl (L ++ (List.range N').map r) (vr_up f ((List.range N').map r) (.inl (cy, z)))) H1 → va_D A ((X ++ [(q, .inl (cA, N', .inr (.inr (.inr (.inr (fun i => if i < N' then some (r i) else none))))))]) ++ va_pl (L ++ (List.range N').map r) (vr_up f ((List.range N').map r) (.inl (cy, z)))) → va_S A H0 H1 locs →
      W p l e R s m args below meth c H1 locs (cells + 1 + N') (slots + N' + N' * K') Q (F0 m (pc + 4) ls (.ref q :: rest))) : W p l e R s m args below meth c H locs cells slots Q (F0 m pc ls (.int k :: .int n :: rest)) := by
  subst hN
  subst hM
  intro T hT Xs
  obtain ⟨vm₁, cA, comp, -, fA, fC, hO, -, X', step⟩ := Xs.multianewarray2F hexec hown hclink (va_AOA.use hover) harr (g := F0 m pc ls (.int k :: .int n :: rest)) rfl (by rw [hb]; exact hdg) rfl hn hk hb1 hb2 hb3 hdf hdd hcells hslots
  have ec : some cy = some comp := hcy.symm.trans fC
  cases ec
  generalize hF : Jvm.Free.Multi.fill (T.setVm vm₁) cA cy n.toNatClampNeg k.toNatClampNeg (defaultValue ty) n.toNatClampNeg = F at X' step
  have hTh : (T.setVm vm₁).heap = H := hT
  obtain ⟨f1, f2, -, -⟩ := Jvm.Free.Multi.fill_facts (T.setVm vm₁) cA cy n.toNatClampNeg k.toNatClampNeg (defaultValue ty) n.toNatClampNeg
  rw [hF, hTh] at f1 f2
  have hold : ∀ x : Nat, x < H.size → F.heap[x]? = H[x]? := fun x hx => by
    have := Jvm.Free.Multi.fill_old (T.setVm vm₁) cA cy n.toNatClampNeg k.toNatClampNeg (defaultValue ty) (a := x) (by rw [hTh]; exact hx) n.toNatClampNeg
    rw [hF, hTh] at this
    exact this
  have hrow : ∀ j : Nat, j < n.toNatClampNeg → F.heap[H.size + 1 + j]? = some (vp_cell cy z) := fun j hj => by
    have := Jvm.Free.Multi.fill_inner (T.setVm vm₁) cA cy n.toNatClampNeg k.toNatClampNeg (defaultValue ty) n.toNatClampNeg j hj
    rw [hF, hTh, hz] at this
    exact this
  have hout : Jvm.Free.Multi.outerC cA n.toNatClampNeg H.size n.toNatClampNeg = vp_cell cA (n.toNatClampNeg, .inr (.inr (.inr (.inr (fun i => if i < n.toNatClampNeg then some (H.size + 1 + i) else none))))) := by
    rw [vp_cell_q]
    exact vr_outer cA n.toNatClampNeg H.size n.toNatClampNeg
  rw [hout] at f2
  have hlt : ∀ a, a ∈ L → a < H.size := fun a ha => by
    obtain ⟨k9, hk9⟩ := va_pl_get (X := X) (f := f) ha
    exact (hP k9 _ hk9).lt
  have hnl : ∀ i : Nat, i < n.toNatClampNeg → H.size + 1 + i ∉ L := fun i _ h => by
    have := hlt _ h
    omega
  have hnm : ∀ a, a ∈ (List.range n.toNatClampNeg).map (fun i => H.size + 1 + i) → a ∉ L := fun a ha h => by
    obtain ⟨i, -, rfl⟩ := List.mem_map.mp ha
    have := hlt _ h
    omega
  have hP0 : va_P D cl (X ++ va_pl L f) F.heap := hP.kept (fun k9 x hx => hold x.1 ((hP k9 x hx).lt))
  have hP1 : va_P D cl ((X ++ va_pl L f) ++ [(H.size, .inl (cA, n.toNatClampNeg, .inr (.inr (.inr (.inr (fun i => if i < n.toNatClampNeg then some (H.size + 1 + i) else none))))))]) F.heap := hP0.app (fun k9 x hx => by
    have h0 : k9 < 1 := (List.getElem?_eq_some_iff.mp hx).1
    rw [show k9 = 0 by omega] at hx
    cases hx
    exact f2)
  have hP2 : va_P D cl (((X ++ va_pl L f) ++ [(H.size, .inl (cA, n.toNatClampNeg, .inr (.inr (.inr (.inr (fun i => if i < n.toNatClampNeg then some (H.size + 1 + i) else none))))))]) ++ ((List.range n.toNatClampNeg).map (fun i => H.size + 1 + i)).map (fun a => (a, .inl (cy, z)))) F.heap := hP1.app (fun k9 x hx => by
    obtain ⟨a, ha, rfl⟩ := List.mem_map.mp (List.mem_of_getElem? hx)
    obtain ⟨i, hi, rfl⟩ := List.mem_map.mp ha
    exact hrow i (List.mem_range.mp hi))
  have hD2 : va_D A (((X ++ va_pl L f) ++ [(H.size, .inl (cA, n.toNatClampNeg, .inr (.inr (.inr (.inr (fun i => if i < n.toNatClampNeg then some (H.size + 1 + i) else none))))))]) ++ ((List.range n.toNatClampNeg).map (fun i => H.size + 1 + i)).map (fun a => (a, .inl (cy, z)))) := by
    have hD1 := hD.push (e := .inl (cA, n.toNatClampNeg, .inr (.inr (.inr (.inr (fun i => if i < n.toNatClampNeg then some (H.size + 1 + i) else none)))))) hP rfl (hA _ hS.1)
    generalize hW1 : (X ++ va_pl L f) ++ [(H.size, .inl (cA, n.toNatClampNeg, .inr (.inr (.inr (.inr (fun i => if i < n.toNatClampNeg then some (H.size + 1 + i) else none))))))] = W1 at hD1 hP1 ⊢
    have hle : ∀ (k9 : Nat) (x : Nat × va_E), W1[k9]? = some x → x.1 ≤ H.size := fun k9 x hx => by
      rw [← hW1] at hx
      by_cases hl : k9 < (X ++ va_pl L f).length
      · rw [List.getElem?_append_left hl] at hx
        exact Nat.le_of_lt ((hP k9 x hx).lt)
      · rw [List.getElem?_append_right (by omega)] at hx
        have h0 : k9 - (X ++ va_pl L f).length < 1 := (List.getElem?_eq_some_iff.mp hx).1
        rw [show k9 - (X ++ va_pl L f).length = 0 by omega] at hx
        cases hx
        exact Nat.le_refl _
    have hr : ∀ (k9 : Nat) (x : Nat × va_E), (((List.range n.toNatClampNeg).map (fun i => H.size + 1 + i)).map (fun a => ((a, .inl (cy, z)) : Nat × va_E)))[k9]? = some x → x.1 = H.size + 1 + k9 := fun k9 x hx => by
      rw [List.getElem?_map, List.getElem?_map] at hx
      by_cases h9 : k9 < n.toNatClampNeg
      · rw [List.getElem?_range h9] at hx
        cases hx
        rfl
      · have hn0 : (List.range n.toNatClampNeg)[k9]? = none := List.getElem?_eq_none (by rw [List.length_range]; omega)
        rw [hn0] at hx
        cases hx
    refine ⟨fun i j x y hi hj hxy => ?_, fun k9 x hx => ?_⟩
    · by_cases h1 : i < W1.length <;> by_cases h2 : j < W1.length
      · rw [List.getElem?_append_left h1] at hi
        rw [List.getElem?_append_left h2] at hj
        exact hD1.1 i j x y hi hj hxy
      · rw [List.getElem?_append_left h1] at hi
        rw [List.getElem?_append_right (by omega)] at hj
        have := hle _ _ hi
        have := hr _ _ hj
        omega
      · rw [List.getElem?_append_right (by omega)] at hi
        rw [List.getElem?_append_left h2] at hj
        have := hle _ _ hj
        have := hr _ _ hi
        omega
      · rw [List.getElem?_append_right (by omega)] at hi hj
        have := hr _ _ hi
        have := hr _ _ hj
        omega
    · by_cases h1 : k9 < W1.length
      · rw [List.getElem?_append_left h1] at hx
        exact hD1.2 k9 x hx
      · rw [List.getElem?_append_right (by omega)] at hx
        have := hr _ _ hx
        exact hA _ (by have := hS.1; omega)
  have hAr : ArrOfT s cA (.array ty) := fun N9 z9 => by
    obtain ⟨-, k9, hk9, cm9, hkk9⟩ := (hO 0 0 0).1
    exact ⟨(fun q hq => by cases hq), k9, hk9, cm9, hkk9⟩
  have hK2 : va_K D cl (tys ++ [(cA, .array ty)]) s := ⟨hK.1, fun k9 x hx => by
    by_cases hl : k9 < tys.length
    · rw [List.getElem?_append_left hl] at hx
      exact hK.2 k9 x hx
    · rw [List.getElem?_append_right (by omega)] at hx
      have h0 : k9 - tys.length < 1 := (List.getElem?_eq_some_iff.mp hx).1
      rw [show k9 - tys.length = 0 by omega] at hx
      cases hx
      exact ⟨hAr, fA⟩⟩
  obtain ⟨t, a1, b1⟩ := kk H.size (fun i => H.size + 1 + i) cA F.heap (fun i j _ _ h => by have h9 : H.size + 1 + i = H.size + 1 + j := h; omega) hnl hK2 (by rw [← vr_rows hnm]; exact vr_lay hP2) (by rw [← vr_rows hnm]; exact vr_layD hD2) ⟨by rw [f1]; have := hS.1; omega, fun x h1 h2 => (hold x (Nat.lt_of_lt_of_le h1 hS.1)).trans (hS.2.1 x h1 h2), hS.2.2⟩ F rfl X'
  refine ⟨t, step t ?_, b1⟩
  have e : T.heap.size = H.size := by rw [hT]
  rw [e]
  exact a1
end VGM
/-! ===== END ===== -/
/-! constructors: calls, rows of references -/
theorem kk_blindI {E : En} {W0 : va_W} (av : List Value) : FrameBlind (va_Pc av (fun U => SG E U ∧ va_P (eD E) vwCl W0 U.heap ∧ va_D (AA E) W0)) := by
  intro a U g mk h
  obtain ⟨h1, h2, h3⟩ := h
  exact ⟨h1, SG.moved (s := U) (State.WarmedH.refl U) (Nat.le_refl _) h2, h3⟩
theorem kk_runI {p : Program} {E : En} {e : Env} {R : Room} {s : State} {m : MethodId} {args : Array Value} {below : List Frame} {meth : Method} {c : Code} {H : Heap} {locs : List Loc} {Z : State → Prop} {pc k n mc ms : Nat} {ls : Array Slot} {st0 rest : List Value} {Q' : va_W → Prop} {av : Array Value} {pre' : va_W}
    (hr : va_Run p (eL E) e R s m args below meth c H locs k n mc ms (F0 m pc ls st0) rest (Qi E pre' Q' av) (AA E)) (hT : va_S (AA E) s.heap H locs)
    (kk : ∀ (suf : va_W) (H1 : Heap) (locs1 : List Loc), Q' suf → va_P (eD E) vwCl (pre' ++ suf) H1 → va_D (AA E) (pre' ++ suf) → va_S (AA E) s.heap H1 locs1 → W p (eL E) e R s m args below meth c H1 locs1 (k + mc) (n + ms) Z (F0 m (pc + 3) ls rest)) : W p (eL E) e R s m args below meth c H locs k n Z (F0 m pc ls st0) := by
  intro T hT0 X
  obtain ⟨v, st₀, t, T', Lc, h0, X', hL, e1, e2, ⟨⟨suf, hv, hq, hP, hD⟩, hz, hk⟩, stp⟩ := hr T hT0 X
  cases hv
  rw [h0] at hz hk
  obtain ⟨t2, a1, b1⟩ := kk suf T'.heap (locs ++ Lc) hq (by rw [e1]; exact hP) hD
    ⟨Nat.le_trans hT.1 (by rw [e1]; exact hz), fun q h1 h2 => by rw [e1, hk q (Nat.lt_of_lt_of_le h1 hT.1) h2]; exact hT.2.1 q h1 h2, fun q hq => by
      rcases List.mem_append.mp hq with h | h
      · exact hT.2.2 q h
      · exact hL q h⟩ T' rfl X'
  exact ⟨t2, stp t2 a1, b1⟩
/-- what a call of a constructor needs of it -/
def OKI (mi : MI) : Prop := GW (.instanceMethod mi.1) ∧ GW (.initialized mi.1.cls) ∧ GW (.code mi.1 mi.2.1 mi.2.2.1 none) ∧ mi.1.name = "<init>" ∧ (mi.1.cls ≠ "java/lang/invoke/MethodHandle" ∧ mi.1.cls ≠ "java/lang/invoke/VarHandle" ∧ (parseMethodDescriptor mi.1.desc).map (fun d => d.parameters.length) = some 0) ∧ mi.2.2.1 ≤ 40 ∧ mi.2.2.2 = none
section IROWS2
variable {E : En} {mi : MI} {d pc : Nat} {L : List (Nat × Value)} {stk : List Value} {pre suf : va_W} {k n kc ks : Nat} {Q : va_W → Prop}
theorem I.callI {mi' : MI} {d' mc ms idx a : Nat} {suf0 : va_W} {x : Nat × va_E} {Q' : va_W → Prop} (hM : Ci E mi' d' mc ms [Value.ref a] (pre ++ suf0) [x] Q') (hs : suf = suf0 ++ [x]) (hok : OKI mi') (hlink : GW (.methodLink mi.1.cls idx mi'.1)) (hrest : (stk.map fun v => v.category).sum ≤ 8) (hdd : d' + 1 ≤ d) (hk1 : k + mc ≤ kc) (hn1 : n + ms ≤ ks) (hd : decode mi.2.1 pc = .ok (.invokespecial idx, 3)) (kk : ∀ suf' : va_W, Q' suf' → I E mi d (pc + 3) L stk pre (suf0 ++ suf') (k + mc) (n + ms) kc ks Q) : I E mi d pc L (Value.ref a :: stk) pre suf k n kc ks Q := by
  intro p e R s m args below meth c H locs ls hx hb hr hml ho hk hnm hR hS hP hD hT hl
  obtain ⟨o1, o2, o3, o4, o5, o6, o7⟩ := hok
  let Ts : List Cond := [.code mi'.1 mi'.2.1 mi'.2.2.1 mi'.2.2.2]
  have hg : ∀ w ∈ Ts, GW w := by
    intro w hw
    simp only [Ts, List.mem_cons, List.not_mem_nil, or_false] at hw
    rw [hw, o7]; exact o3
  have hts : ∀ w ∈ Ts, w.before args s = true := fun w h => hS.2.1 w (hg w h) _
  subst hs
  rw [← List.append_assoc] at hP hD
  refine kk_runI (va_runI (As := []) (rest := stk) (b := a) (Ts := Ts) (n := 0) (bytes := mi'.2.1) (maxL := mi'.2.2.1) ⟨hx, hb, hml, ho, hts⟩ hM (cwI 0 hts (kk_good hg) (by rw [o7]) rfl rfl (hS.2.1 _ o2 _) (hS.2.1 _ hlink _) (hS.2.1 _ o1 _) o4 o5 ⟨by show d' + 1 ≤ _; omega, by show 8 + (_ + 11) + 60 * d' ≤ _; omega⟩) ⟨kk_blindI _, fun U hU hW => ⟨rfl, SG.moved hW (by rw [hU]; exact hT.1) hS, by rw [hU]; exact hP, hD⟩⟩ rfl rfl hl.1 rfl (by show 2 * 0 + _ ≤ 8; omega) hd ⟨by omega, by omega⟩) hT (fun suf' H locs hq hP hD hT => ?_)
  rw [List.append_assoc] at hP hD
  exact kk suf' hq p e R s m args below meth c H locs ls hx hb hr hml ho hk hnm hR hS hP hD hT hl
theorem I.callIN {mi' : MI} {d' mc ms idx a : Nat} {suf0 : va_W} {x : Nat × va_E} {Q' : va_W → Prop} {host : String} (hM : Ci E mi' d' mc ms [Value.ref a] (pre ++ suf0) [x] Q') (hs : suf = suf0 ++ [x]) (hok : OKI mi') (hlink : (mi.1.cls, idx, mi'.1, host) ∈ nwl) (hrest : (stk.map fun v => v.category).sum ≤ 8) (hdd : d' + 1 ≤ d) (hk1 : k + mc ≤ kc) (hn1 : n + ms ≤ ks) (hd : decode mi.2.1 pc = .ok (.invokespecial idx, 3)) (kk : ∀ suf' : va_W, Q' suf' → I E mi d (pc + 3) L stk pre (suf0 ++ suf') (k + mc) (n + ms) kc ks Q) : I E mi d pc L (Value.ref a :: stk) pre suf k n kc ks Q := by
  intro p e R s m args below meth c H locs ls hx hb hr hml ho hk hnm hR hS hP hD hT hl
  obtain ⟨o1, o2, o3, o4, o5, o6, o7⟩ := hok
  let Ts : List Cond := [.code mi'.1 mi'.2.1 mi'.2.2.1 mi'.2.2.2]
  have hg : ∀ w ∈ Ts, GW w := by
    intro w hw
    simp only [Ts, List.mem_cons, List.not_mem_nil, or_false] at hw
    rw [hw, o7]; exact o3
  have hts : ∀ w ∈ Ts, w.before args s = true := fun w h => hS.2.1 w (hg w h) _
  subst hs
  rw [← List.append_assoc] at hP hD
  refine kk_runI (va_runIN (As := []) (rest := stk) (b := a) (Ts := Ts) (n := 0) (bytes := mi'.2.1) (maxL := mi'.2.2.1) (host := host) ⟨hx, hb, hml, ho, hts⟩ hM ⟨va_cnB 0 hts (kk_good hg) (by rw [o7]) rfl rfl (hS.2.2.1 _ hlink) (hS.2.1 _ o2 _) o5 ⟨by show d' + 1 ≤ _; omega, by show 8 + (_ + 11) + 60 * d' ≤ _; omega⟩, o4, hS.2.1 _ o1 _⟩ ⟨kk_blindI _, fun U hU hW => ⟨rfl, SG.moved hW (by rw [hU]; exact hT.1) hS, by rw [hU]; exact hP, hD⟩⟩ rfl rfl hl.1 rfl (by show 2 * 0 + _ ≤ 8; omega) hd ⟨by omega, by omega⟩) hT (fun suf' H locs hq hP hD hT => ?_)
  rw [List.append_assoc] at hP hD
  exact kk suf' hq p e R s m args below meth c H locs ls hx hb hr hml ho hk hnm hR hS hP hD hT hl
theorem I.callV {mi' : MI} {d' n0 idx ci i a N : Nat} {T : u_T} {fs : List Value} {Q' : va_W → Prop} (As : List Value) {stk0 : List Value} (hM : Ci E mi' d' 0 0 (Value.ref a :: As) pre suf Q') (hok : OKV mi' n0) (hlink : GW (.methodLink mi.1.cls idx mi'.1)) (hn : As.length = n0) (hst : stk0 = As.reverse ++ Value.ref a :: stk) (he : suf[i]? = some (a, .inr (ci, fs))) (hcl : vwCl[ci]? = some (mi'.1.cls, T, N)) (hrest : (stk.map fun v => v.category).sum ≤ 8) (hdd : d' + 1 ≤ d) (hk1 : k ≤ kc) (hn1 : n ≤ ks) (hd : decode mi.2.1 pc = .ok (.invokevirtual idx, 3)) (kk : ∀ suf' : va_W, Q' suf' → I E mi d (pc + 3) L stk pre suf' k n kc ks Q) : I E mi d pc L stk0 pre suf k n kc ks Q := by
  intro p e R s m args below meth c H locs ls hx hb hr hml ho hk hnm hR hS hP hD hT hl
  obtain ⟨o1, o2, o3, o4, o5, o6⟩ := hok
  let Ts : List Cond := wsV mi.1.cls idx mi'.1.cls mi'.1 [.code mi'.1 mi'.2.1 mi'.2.2.1 mi'.2.2.2]
  have hg : ∀ w ∈ Ts, GW w := by
    intro w hw
    simp only [Ts, wsV, List.cons_append, List.nil_append, List.mem_cons, List.not_mem_nil, or_false] at hw
    rcases hw with rfl | rfl | rfl | rfl | rfl
    · exact hlink
    · exact o1
    · exact o2
    · exact o3
    · exact o4
  have hts : ∀ w ∈ Ts, w.before args s = true := fun w h => hS.2.1 w (hg w h) _
  refine kk_runI (va_runV (As := As) (rest := stk) (b := a) (C := mi'.1.cls) (Ts := Ts) (n := n0) (bytes := mi'.2.1) (maxL := mi'.2.2.1) (ret := mi'.2.2.2) ⟨hx, hb, hml, ho, hts⟩ hM (cwV n0 hts (kk_good hg) rfl rfl rfl ⟨rfl, o5⟩ ⟨by show d' + 1 ≤ _; omega, by show 8 + (_ + 11) + 60 * d' ≤ _; omega⟩) ⟨kk_blindI _, va_recv hS.1 hP hcl (ap_get he), fun U hU hW => ⟨rfl, SG.moved hW (by rw [hU]; exact hT.1) hS, by rw [hU]; exact hP, hD⟩⟩ rfl hn hl.1 hst (by show 2 * 0 + _ ≤ 8; omega) hd ⟨by omega, by omega⟩) hT (fun suf' H locs hq hP hD hT => kk suf' hq p e R s m args below meth c H locs ls hx hb hr hml ho hk hnm hR hS hP hD hT hl)
theorem I.anew {x : Int} {N idx t : Nat} {C : String} (hC : (C = "FatLean$Court" ∧ t = 3) ∨ (C = "FatLean$Sheet" ∧ t = 4)) (hN : (Int32.ofInt x).toNatClampNeg = N) (h0 : ¬ Int32.ofInt x < 0) (hby : N * 4 ≤ 536870912) (hw : GW (.classLink mi.1.cls idx C)) (hk1 : k + 1 ≤ kc) (hn1 : n + N ≤ ks) (hd : decode mi.2.1 pc = .ok (.anewarray idx, 3)) (kk : ∀ q : Nat, I E mi d (pc + 3) L (Value.ref q :: stk) pre (suf ++ [(q, arR E t N (fun _ => none))]) (k + 1) (n + N) kc ks Q) : I E mi d pc L (vi x :: stk) pre suf k n kc ks Q := by
  intro p e R s m args below meth c H locs ls hx hb hr hml ho hk hnm hR hS hP hD hT hl
  have ho2 : va_AO C s := by
    rcases hC with ⟨rfl, -⟩ | ⟨rfl, -⟩
    · exact hS.2.2.2.2.1
    · exact hS.2.2.2.2.2.1
  refine va_newq hx hb ho (hS.2.1 _ hw _) ho2 hS.1 hP hD hT (fun q h => Nat.le_trans hS.2.2.2.1 h) h0 hN hby (by omega) (by omega) hd (fun q cA H1 hK1 hP1 hD1 hT1 => ?_)
  have ec : cA = eC E t := by
    rcases hC with ⟨rfl, rfl⟩ | ⟨rfl, rfl⟩
    · exact kn_3 hK1
    · exact kn_4 hK1
  rw [ec, List.append_assoc] at hP1 hD1
  exact kk q p e R s m args below meth c H1 locs ls hx hb hr hml ho hk hnm hR hS hP1 hD1 hT1 hl
theorem I.aast {i j ci a v N t idx : Nat} {f : Nat → Option Nat} {x : Int} {vs : List Value} {C : String} {T : u_T} {M : Nat} {suf' : va_W} (he : suf[i]? = some (a, arR E t N f)) (hv : suf[j]? = some (v, .inr (ci, vs))) (ht : (tys E)[t]? = some (eC E t, .object C)) (hcl : vwCl[ci]? = some (C, T, M)) (hi : (Int32.ofInt x).toNatClampNeg = idx) (hin : vp_in (Int32.ofInt x) N) (hset : suf.set i (a, arR E t N (va_up f idx (some v))) = suf') (hd : decode mi.2.1 pc = .ok (.aastore, 1)) (kk : I E mi d (pc + 1) L stk pre suf' k n kc ks Q) : I E mi d pc L (Value.ref v :: vi x :: Value.ref a :: stk) pre suf k n kc ks Q := by
  intro p e R s m args below meth c H locs ls hx hb hr hml ho hk hnm hR hS hP hD hT hl
  refine va_astq hx hb hS.1 hP hD hT (pre.length + i) t (pre.length + j) ci (ap_get he) ht (ap_get hv) hcl hin hd (fun H locs hP1 hD1 hT1 => ?_)
  rw [hi, ap_set] at hP1 hD1
  have e2 : suf.set i (a, .inl (eC E t, N, .inr (.inr (.inr (.inr (va_up f idx (some v))))))) = suf' := hset
  rw [e2] at hP1 hD1
  exact kk p e R s m args below meth c H locs ls hx hb hr hml ho hk hnm hR hS hP1 hD1 hT1 hl
theorem I.mna {x y : Int} {N K idx : Nat} (hN : (Int32.ofInt x).toNatClampNeg = N) (hK0 : (Int32.ofInt y).toNatClampNeg = K) (h0 : ¬ Int32.ofInt x < 0) (h1 : ¬ Int32.ofInt y < 0) (hb1 : N * 4 ≤ 536870912) (hb2 : K * 4 ≤ 536870912) (hb3 : K ≤ 536870912) (hw : GW (.classLink mi.1.cls idx "[[I")) (hw2 : GW (.arrayClass .int)) (hk1 : k + (1 + N) ≤ kc) (hn1 : n + (N + N * K) ≤ ks) (hd : decode mi.2.1 pc = .ok (.multianewarray idx 2, 4)) (kk : ∀ (q : Nat) (r : Nat → Nat), I E mi d (pc + 4) L (Value.ref q :: stk) pre (suf ++ (q, arR E 5 N (fun i => if i < N then some (r i) else none)) :: ((List.range N).map r).map (fun a => (a, arI E K zr))) (k + 1 + N) (n + N + N * K) kc ks Q) : I E mi d pc L (vi y :: vi x :: stk) pre suf k n kc ks Q := by
  intro p e R s m args below meth c H locs ls hx hb hr hml ho hk hnm hR hS hP hD hT hl
  have hP0 : va_P (eD E) vwCl ((pre ++ suf) ++ va_pl [] (fun _ => .inl (eC E 0, 0, .inl (fun _ => 0)))) H := by rw [show va_pl [] (fun _ => (.inl (eC E 0, 0, .inl (fun _ => 0)) : va_E)) = [] from rfl, List.append_nil]; exact hP
  have hD0 : va_D (AA E) ((pre ++ suf) ++ va_pl [] (fun _ => .inl (eC E 0, 0, .inl (fun _ => 0)))) := by rw [show va_pl [] (fun _ => (.inl (eC E 0, 0, .inl (fun _ => 0)) : va_E)) = [] from rfl, List.append_nil]; exact hD
  have hf0 : s.vm.findClass (FieldType.array .int).toString = some (eC E 0) := (hS.1.2 0 (eC E 0, .int) rfl).2
  refine va_mna (ty := .int) (cy := eC E 0) (z := (K, .inl (fun k => Int32.ofInt (zr k)))) (X := pre ++ suf) (L := []) (f := fun _ => .inl (eC E 0, 0, .inl (fun _ => 0))) hx hb ho (hS.2.1 _ hw _) hS.2.2.2.2.2.2 (hS.2.1 _ hw2 _) hf0 hS.1 hP0 hD0 hT (fun q h => Nat.le_trans hS.2.2.2.1 h) h0 h1 hN hK0 hb1 hb2 hb3 rfl rfl (by omega) (by omega) (fun c => ?_) hd (fun q r cA H1 _ _ hK1 hP1 hD1 hT1 => ?_)
  · show ({ cls := c, slots := Array.replicate K (defaultValue .int), vm := .none } : Cell) = _
    rw [arrV_new]
    rfl
  · rw [← vr_rows (fun a _ h => by cases h), kn_5 hK1] at hP1 hD1
    rw [show va_pl [] (fun _ => (.inl (eC E 0, 0, .inl (fun _ => 0)) : va_E)) = [] from rfl, List.nil_append, List.append_assoc, List.append_assoc] at hP1 hD1
    exact kk q r p e R s m args below meth c H1 locs ls hx hb hr hml ho hk hnm hR hS hP1 hD1 hT1 hl
end IROWS2
/-- a row of references is what its places below its length are -/
theorem conv_P {E : En} {ws : va_W} {i a N t : Nat} {f g : Nat → Option Nat} {H : Heap} (he : ws[i]? = some (a, arR E t N f)) (hfg : ∀ j, j < N → f j = g j) (hP : va_P (eD E) vwCl ws H) : va_P (eD E) vwCl (ws.set i (a, arR E t N g)) H := by
  have ec : vp_cell (eC E t) (N, .inr (.inr (.inr (.inr f)))) = vp_cell (eC E t) (N, .inr (.inr (.inr (.inr g)))) := by
    rw [vp_cell_q, vp_cell_q]
    unfold arrV
    congr 1
    apply Array.ext
    · simp
    · intro j h1 h2
      simp at h1
      simp [hfg j h1]
  intro j q hq
  by_cases hj : j = i
  · subst hj
    rw [List.getElem?_set_self (List.getElem?_eq_some_iff.mp he).1] at hq
    cases hq
    have := hP _ _ he
    show H[a]? = some (vp_cell (eC E t) (N, .inr (.inr (.inr (.inr g)))))
    rw [← ec]; exact this
  · rw [List.getElem?_set_ne (fun z => hj z.symm)] at hq
    exact hP j q hq
