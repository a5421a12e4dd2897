/-! ===== sets as masks ===== -/
theorem iter_bits (p : Int → Prop) [DecidablePred p] : ∀ (k c A : Nat), c + k ≤ 31 → A < 2 ^ 31 → ∃ B : Nat, iter (bitS p) k (c : Int) (A : Int) = (B : Int) ∧ B < 2 ^ 31 ∧ ∀ j, B.testBit j = (A.testBit j || decide (c ≤ j ∧ j < c + k ∧ p (j : Int)))
  | 0, c, A, _, hA => ⟨A, rfl, hA, fun j => by
    have : ¬ (c ≤ j ∧ j < c + 0 ∧ p (j : Int)) := by omega
    rw [decide_eq_false this, Bool.or_false]⟩
  | k + 1, c, A, hk, hA => by
    simp only [iter, bitS]
    by_cases hp : p (c : Int)
    · rw [if_pos hp, bshl_nat (by omega), bor_nat hA (Nat.pow_lt_pow_right (by omega) (by omega))]
      obtain ⟨B, h1, h2, h3⟩ := iter_bits p k (c + 1) (A ||| 2 ^ c) (by omega) (Nat.or_lt_two_pow hA (Nat.pow_lt_pow_right (by omega) (by omega)))
      refine ⟨B, h1, h2, fun j => ?_⟩
      rw [h3 j, or_bit_self]
      by_cases hj : c = j
      · subst hj
        have : (c ≤ c ∧ c < c + (k + 1) ∧ p (c : Int)) := ⟨by omega, by omega, hp⟩
        simp [this]
      · have e : (c + 1 ≤ j ∧ j < c + 1 + k ∧ p (j : Int)) ↔ (c ≤ j ∧ j < c + (k + 1) ∧ p (j : Int)) := by
          constructor
          · rintro ⟨a, b, c'⟩; exact ⟨by omega, by omega, c'⟩
          · rintro ⟨a, b, c'⟩; exact ⟨by omega, by omega, c'⟩
        simp [hj, e]
    · rw [if_neg hp]
      obtain ⟨B, h1, h2, h3⟩ := iter_bits p k (c + 1) A (by omega) hA
      refine ⟨B, h1, h2, fun j => ?_⟩
      rw [h3 j]
      by_cases hj : c = j
      · subst hj
        have h4 : ¬ (c + 1 ≤ c ∧ c < c + 1 + k ∧ p (c : Int)) := by omega
        have h5 : ¬ (c ≤ c ∧ c < c + (k + 1) ∧ p (c : Int)) := fun q => hp q.2.2
        rw [decide_eq_false h4, decide_eq_false h5]
      · have e : (c + 1 ≤ j ∧ j < c + 1 + k ∧ p (j : Int)) ↔ (c ≤ j ∧ j < c + (k + 1) ∧ p (j : Int)) := by
          constructor
          · rintro ⟨a, b, c'⟩; exact ⟨by omega, by omega, c'⟩
          · rintro ⟨a, b, c'⟩; exact ⟨by omega, by omega, c'⟩
        simp [e]
theorem iter_bits0 (p : Int → Prop) [DecidablePred p] (n : Nat) (hn : n ≤ 16) : ∃ B : Nat, iter (bitS p) n 0 0 = (B : Int) ∧ B < 2 ^ n ∧ ∀ j, B.testBit j = decide (j < n ∧ p (j : Int)) := by
  obtain ⟨B, h1, h2, h3⟩ := iter_bits p n 0 0 (by omega) (by omega)
  have h4 : ∀ j, B.testBit j = decide (j < n ∧ p (j : Int)) := by
    intro j
    rw [h3 j]
    simp
  refine ⟨B, h1, ?_, h4⟩
  apply Nat.lt_pow_two_of_testBit
  intro i hi
  rw [h4 i]
  simp
  omega
theorem mask_lt {x n : Nat} (h : ∀ j, x.testBit j = true → j < n) : x < 2 ^ n := by
  apply Nat.lt_pow_two_of_testBit
  intro i hi
  cases hb : x.testBit i with
  | false => rfl
  | true => exact absurd (h i hb) (by omega)
theorem mask_bit {x n j : Nat} (h : x < 2 ^ n) (hb : x.testBit j = true) : j < n := by
  rcases Nat.lt_or_ge j n with q | q
  · exact q
  · rw [Nat.testBit_lt_two_pow (Nat.lt_of_lt_of_le h (Nat.pow_le_pow_right (by omega) q))] at hb
    cases hb
theorem pow16 {n : Nat} (hn : n ≤ 16) : 2 ^ n ≤ 65536 := Nat.pow_le_pow_right (n := 2) (by omega) hn
/-- how many of the lowest n bits are set -/
def cntb (x : Nat) : Nat → Nat
  | 0 => 0
  | n + 1 => cntb x n + if x.testBit n then 1 else 0
theorem cntb_le (x : Nat) : ∀ n, cntb x n ≤ n
  | 0 => Nat.le_refl 0
  | n + 1 => by
    have := cntb_le x n
    simp only [cntb]
    split <;> omega
theorem cntb_mono {x y : Nat} : ∀ n, (∀ i, i < n → x.testBit i = true → y.testBit i = true) → cntb x n ≤ cntb y n
  | 0, _ => Nat.le_refl 0
  | n + 1, h => by
    have h1 := cntb_mono n (fun i hi => h i (by omega))
    have h2 := h n (by omega)
    simp only [cntb]
    by_cases hx : x.testBit n = true
    · simp [hx, h2 hx]; exact h1
    · simp [hx]; omega
theorem cntb_strict {x y : Nat} : ∀ n, (∀ i, i < n → x.testBit i = true → y.testBit i = true) → ∀ i, i < n → x.testBit i = false → y.testBit i = true → cntb x n < cntb y n
  | 0, _, i, hi, _, _ => by omega
  | n + 1, h, i, hi, hx, hy => by
    simp only [cntb]
    by_cases e : i = n
    · subst e
      have := cntb_mono (x := x) (y := y) i (fun j hj => h j (by omega))
      simp [hx, hy]
      omega
    · have := cntb_strict n (fun j hj => h j (by omega)) i (by omega) hx hy
      have h2 := h n (by omega)
      by_cases hz : x.testBit n = true
      · simp [hz, h2 hz]; exact this
      · simp [hz]; omega
theorem cntb_full {x : Nat} : ∀ n, cntb x n = n → ∀ i, i < n → x.testBit i = true
  | 0, _, i, hi => by omega
  | n + 1, h, i, hi => by
    have h1 := cntb_le x n
    simp only [cntb] at h
    by_cases hz : x.testBit n = true
    · simp [hz] at h
      by_cases e : i = n
      · subst e; exact hz
      · exact cntb_full n h i (by omega)
    · simp [hz] at h
      omega
theorem cntb_zero (n : Nat) : cntb 0 n = 0 := by
  induction n with
  | zero => rfl
  | succ n ih => simp [cntb, ih]
theorem cntb_add {x i : Nat} : ∀ n, i < n → x.testBit i = false → cntb (x ||| 2 ^ i) n = cntb x n + 1
  | 0, hi, _ => by omega
  | n + 1, hi, hx => by
    simp only [cntb, or_bit_self]
    by_cases e : i = n
    · subst e
      have : cntb (x ||| 2 ^ i) i = cntb x i := by
        apply Nat.le_antisymm
        · apply cntb_mono
          intro j hj hb
          rw [or_bit_self] at hb
          have : ¬ i = j := by omega
          simpa [this] using hb
        · apply cntb_mono
          intro j hj hb
          rw [or_bit_self, hb]
          rfl
      rw [this]
      simp [hx]
    · rw [cntb_add n (by omega) hx]
      simp [e]
      omega
/-! ===== what hangs together ===== -/
/-- the least set of cuts that holds c and with each all that are near it -/
def closedS (n : Nat) (nr : Nat → Nat → Prop) (X : Nat) : Prop := ∀ a b, a < n → b < n → X.testBit a = true → nr a b → X.testBit b = true
def leastS (n : Nat) (nr : Nat → Nat → Prop) (c X : Nat) : Prop := X < 2 ^ n ∧ X.testBit c = true ∧ closedS n nr X ∧ ∀ Y, Y.testBit c = true → closedS n nr Y → ∀ i, X.testBit i = true → Y.testBit i = true
theorem leastS_uniq {n : Nat} {nr : Nat → Nat → Prop} {c X Y : Nat} (hX : leastS n nr c X) (hY : leastS n nr c Y) : X = Y := by
  apply Nat.eq_of_testBit_eq
  intro i
  have h1 := hX.2.2.2 Y hY.2.1 hY.2.2.1 i
  have h2 := hY.2.2.2 X hX.2.1 hX.2.2.1 i
  cases hx : X.testBit i <;> cases hy : Y.testBit i
  · rfl
  · rw [h2 hy] at hx; cases hx
  · rw [h1 hx] at hy; cases hy
  · rfl
/-- grown so far: within every closed set that holds c -/
def grownS (n : Nat) (nr : Nat → Nat → Prop) (c X : Nat) : Prop := X < 2 ^ n ∧ X.testBit c = true ∧ ∀ Y, Y.testBit c = true → closedS n nr Y → ∀ i, X.testBit i = true → Y.testBit i = true
theorem grownS_1 {n c : Nat} {nr : Nat → Nat → Prop} (hc : c < n) : grownS n nr c (2 ^ c) := by
  refine ⟨Nat.pow_lt_pow_right (by omega) hc, by simp, fun Y hY _ i hi => ?_⟩
  rw [Nat.testBit_two_pow] at hi
  have : c = i := by simpa using hi
  rw [← this]; exact hY
theorem grownS_or {n c X N a : Nat} {nr : Nat → Nat → Prop} (h : grownS n nr c X) (ha : X.testBit a = true) (han : a < n) (hN : ∀ j, N.testBit j = true → j < n ∧ nr a j) : grownS n nr c (X ||| N) := by
  obtain ⟨h1, h2, h3⟩ := h
  refine ⟨Nat.or_lt_two_pow h1 (mask_lt (fun j hj => (hN j hj).1)), by rw [Nat.testBit_or, h2]; rfl, fun Y hY hcl i hi => ?_⟩
  rw [Nat.testBit_or, Bool.or_eq_true] at hi
  rcases hi with hi | hi
  · exact h3 Y hY hcl i hi
  · exact hcl a i han (hN i hi).1 (h3 Y hY hcl a ha) (hN i hi).2
