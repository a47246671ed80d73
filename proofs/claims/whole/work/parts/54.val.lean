/-! what the years to come are worth -/
def mxB (g : Nat → Int) : Nat → Int
  | 0 => g 0
  | t + 1 => max (mxB g t) (g (t + 1))
def amB (g : Nat → Int) : Nat → Nat
  | 0 => 0
  | t + 1 => if g (t + 1) ≤ g (amB g t) then amB g t else t + 1
theorem amB_le (g : Nat → Int) : ∀ t, amB g t ≤ t
  | 0 => Nat.le_refl _
  | t + 1 => by have := amB_le g t; rw [amB]; split <;> omega
theorem amB_mx (g : Nat → Int) : ∀ t, g (amB g t) = mxB g t
  | 0 => rfl
  | t + 1 => by
    have := amB_mx g t
    rw [amB, mxB]
    by_cases q : g (t + 1) ≤ g (amB g t)
    · rw [if_pos q]; omega
    · rw [if_neg q]; omega
theorem mxB_cong {g h : Nat → Int} : ∀ {t : Nat}, (∀ i, i ≤ t → g i = h i) → mxB g t = mxB h t
  | 0, e => e 0 (Nat.le_refl _)
  | t + 1, e => by rw [mxB, mxB, mxB_cong (fun i hi => e i (by omega)), e (t + 1) (Nat.le_refl _)]
theorem mxB_add {g : Nat → Int} (c : Int) : ∀ (t : Nat), mxB (fun k => c + g k) t = c + mxB g t
  | 0 => rfl
  | t + 1 => by rw [mxB, mxB, mxB_add c t]; omega
theorem mxB_rng {g : Nat → Int} {lo hi : Int} : ∀ {t : Nat}, (∀ i, i ≤ t → lo ≤ g i ∧ g i ≤ hi) → lo ≤ mxB g t ∧ mxB g t ≤ hi
  | 0, e => e 0 (Nat.le_refl _)
  | t + 1, e => by
    have a := mxB_rng (g := g) (lo := lo) (hi := hi) (t := t) (fun i hi => e i (by omega))
    have b := e (t + 1) (Nat.le_refl _)
    rw [mxB]; omega
theorem amB_cong {g h : Nat → Int} : ∀ {t : Nat}, (∀ i, i ≤ t → g i = h i) → amB g t = amB h t
  | 0, _ => rfl
  | t + 1, e => by
    have a := amB_cong (g := g) (h := h) (t := t) (fun i hi => e i (by omega))
    have l := amB_le h t
    rw [amB, amB, a, e (t + 1) (Nat.le_refl _), e (amB h t) (by omega)]
theorem amB_add {g : Nat → Int} (c : Int) : ∀ (t : Nat), amB (fun k => c + g k) t = amB g t
  | 0 => rfl
  | t + 1 => by
    rw [amB, amB, amB_add c t]
    by_cases q : g (t + 1) ≤ g (amB g t)
    · rw [if_pos q, if_pos (by omega)]
    · rw [if_neg q, if_neg (by omega)]
/-- it is the least that reaches the greatest -/
theorem amB_lt (g : Nat → Int) : ∀ (t i : Nat), i < amB g t → g i < mxB g t
  | 0, i, h => by rw [amB] at h; omega
  | t + 1, i, h => by
    have ih := amB_lt g t
    have e := amB_mx g t
    rw [amB] at h
    rw [mxB]
    by_cases q : g (t + 1) ≤ g (amB g t)
    · rw [if_pos q] at h; have := ih i h; omega
    · rw [if_neg q] at h
      have : g i ≤ mxB g t := by
        have m : ∀ (t : Nat) (i : Nat), i ≤ t → g i ≤ mxB g t := by
          intro t
          induction t with
          | zero => intro i hi; rw [show i = 0 by omega]; exact Int.le_refl _
          | succ t ih2 =>
            intro i hi
            rw [mxB]
            by_cases q2 : i = t + 1
            · rw [q2]; omega
            · have := ih2 i (by omega); omega
        exact m t i (by omega)
      omega
theorem mul_rng {a x p q : Int} (ha : 0 ≤ a) (ha2 : a ≤ p) (hx : -q ≤ x) (hx2 : x ≤ q) (hq : 0 ≤ q) : -(p * q) ≤ a * x ∧ a * x ≤ p * q := by
  have h1 : a * x ≤ a * q := Int.mul_le_mul_of_nonneg_left hx2 ha
  have h2 : a * (-q) ≤ a * x := Int.mul_le_mul_of_nonneg_left hx ha
  have h3 : a * q ≤ p * q := Int.mul_le_mul_of_nonneg_right ha2 hq
  rw [Int.mul_neg] at h2
  omega
def lfX (S : Nat → Int) (B : Int → Int) (s f : Int) : Int := max 0 (s + B f - S 6)
def hgX (S : Nat → Int) (B : Int → Int) (s f : Int) : Int := max 0 (S 6 - (s + B f))
/-- a year of which the readings are so, kept so much -/
def bkS (S : Nat → Int) (B : Int → Int) (O : Nat → Int) (m : Nat) (v : Int → Int → Int) (are s f : Int) (kept : Nat) : Int := odS O are m * ((lfX S B s f - kept) * prS S f - hgX S B s f * S 7) + v are (rtS S kept)
def vbS (S : Nat → Int) (B : Int → Int) (O R : Nat → Int) (m : Nat) (v : Int → Int → Int) (y A s f : Int) : Int := if tlS R A y f m = 0 then 0 else mxB (bkS S B O m v (tlS R A y f m) s f) (min (S 8) (lfX S B s f)).toNat
def vlS (S : Nat → Int) (B : Int → Int) (O R : Nat → Int) (m : Nat) : Nat → Int → Int → Int → Int
  | 0, _, _, _ => 0
  | k + 1, y, A, s => vbS S B O R m (vlS S B O R m k (y + 1)) y A s 0 + vbS S B O R m (vlS S B O R m k (y + 1)) y A s 1
def Wk : Nat → Int
  | 0 => 0
  | k + 1 => 2 * (60000 + Wk k)
theorem Wk_rng : ∀ k, k ≤ 5 → 0 ≤ Wk k ∧ Wk k ≤ 4000000 := by
  intro k hk
  have : k = 0 ∨ k = 1 ∨ k = 2 ∨ k = 3 ∨ k = 4 ∨ k = 5 := by omega
  rcases this with rfl | rfl | rfl | rfl | rfl | rfl <;> decide
theorem rtX {S : Nat → Int} (h : OkS S) {k : Int} (h0 : 0 ≤ k) (h1 : k ≤ 40) : 0 ≤ rtS S k ∧ rtS S k ≤ k := by
  have := rtS_rng h h0 h1; omega
theorem bk_rng {S : Nat → Int} {B : Int → Int} {O : Nat → Int} {m : Nat} {v : Int → Int → Int} {W are s f : Int} {kept : Nat} (ok : OkS S) (hB : OkB B) (hm : m ≤ 4) (hO : ∀ i, i < m → 1 ≤ O i ∧ O i ≤ 9) (hf : isF f) (hs : 0 ≤ s ∧ s ≤ 40) (hv : ∀ a s, 0 ≤ s → s ≤ 40 → -W ≤ v a s ∧ v a s ≤ W) (hk : (kept : Int) ≤ min (S 8) (lfX S B s f)) : -(60000 + W) ≤ bkS S B O m v are s f kept ∧ bkS S B O m v are s f kept ≤ 60000 + W := by
  have hb := hB f hf
  obtain ⟨h6, h7, h8, h9, h10, h11, h12, h13, h14, h15⟩ := ok
  have ok : OkS S := ⟨h6, h7, h8, h9, h10, h11, h12, h13, h14, h15⟩
  have hr := rtX ok (k := (kept : Int)) (by omega) (by omega)
  have hvv := hv are (rtS S kept) hr.1 (by omega)
  have ho := odS_rng (A := are) hO
  have hp : 0 ≤ prS S f ∧ prS S f ≤ 9 := by unfold prS; split <;> omega
  have hl : 0 ≤ lfX S B s f ∧ lfX S B s f ≤ 76 := by unfold lfX; omega
  have hh : 0 ≤ hgX S B s f ∧ hgX S B s f ≤ 40 := by unfold hgX; omega
  have a1 := mul_rng (a := lfX S B s f - kept) (x := prS S f) (p := 76) (q := 9) (by omega) (by omega) (by omega) (by omega) (by decide)
  have a2 := mul_rng (a := hgX S B s f) (x := S 7) (p := 40) (q := 20) (by omega) (by omega) (by omega) (by omega) (by decide)
  have a3 := mul_rng (a := odS O are m) (x := (lfX S B s f - kept) * prS S f - hgX S B s f * S 7) (p := 36) (q := 1484) (by omega) (by omega) (by omega) (by omega) (by decide)
  unfold bkS
  omega
theorem vb_rng {S : Nat → Int} {B : Int → Int} {O R : Nat → Int} {m : Nat} {v : Int → Int → Int} {W y A s f : Int} (ok : OkS S) (hB : OkB B) (hm : m ≤ 4) (hO : ∀ i, i < m → 1 ≤ O i ∧ O i ≤ 9) (hf : isF f) (hs : 0 ≤ s ∧ s ≤ 40) (hW : 0 ≤ W) (hv : ∀ a s, 0 ≤ s → s ≤ 40 → -W ≤ v a s ∧ v a s ≤ W) : -(60000 + W) ≤ vbS S B O R m v y A s f ∧ vbS S B O R m v y A s f ≤ 60000 + W := by
  unfold vbS
  split
  · omega
  · have h8 : 0 ≤ S 8 ∧ S 8 ≤ 40 := by unfold OkS at ok; omega
    have hl : 0 ≤ lfX S B s f := by unfold lfX; omega
    exact mxB_rng (fun i hi => bk_rng ok hB hm hO hf hs hv (by omega))
theorem vl_rng {S : Nat → Int} {B : Int → Int} {O R : Nat → Int} {m : Nat} (ok : OkS S) (hB : OkB B) (hm : m ≤ 4) (hO : ∀ i, i < m → 1 ≤ O i ∧ O i ≤ 9) : ∀ (k : Nat) (y A s : Int), 0 ≤ s → s ≤ 40 → -(Wk k) ≤ vlS S B O R m k y A s ∧ vlS S B O R m k y A s ≤ Wk k ∧ 0 ≤ Wk k
  | 0, y, A, s, _, _ => by unfold vlS Wk; omega
  | k + 1, y, A, s, h0, h1 => by
    have ih := vl_rng (R := R) ok hB hm hO k
    have hW := (ih 0 0 0 (by decide) (by decide)).2.2
    have a := vb_rng (R := R) (y := y) (A := A) (s := s) (f := 0) (v := vlS S B O R m k (y + 1)) ok hB hm hO (Or.inl rfl) ⟨h0, h1⟩ hW (fun a s q1 q2 => ⟨(ih (y + 1) a s q1 q2).1, (ih (y + 1) a s q1 q2).2.1⟩)
    have b := vb_rng (R := R) (y := y) (A := A) (s := s) (f := 1) (v := vlS S B O R m k (y + 1)) ok hB hm hO (Or.inr rfl) ⟨h0, h1⟩ hW (fun a s q1 q2 => ⟨(ih (y + 1) a s q1 q2).1, (ih (y + 1) a s q1 q2).2.1⟩)
    rw [vlS, Wk]; omega
