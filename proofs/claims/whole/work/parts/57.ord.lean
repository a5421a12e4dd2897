/-! ===== orders: counting by sets ===== -/
def rm (S l : Nat) : Nat := mdiff S (2 ^ l)
theorem rm_bit (S l j : Nat) : (rm S l).testBit j = (S.testBit j && !decide (l = j)) := by
  unfold rm
  rw [mdiff_bit, Nat.testBit_two_pow]
theorem rm_lt {S l : Nat} (h : S.testBit l = true) : rm S l < S := by
  have e : S &&& rm S l = rm S l := by
    apply Nat.eq_of_testBit_eq
    intro j
    rw [Nat.testBit_and, rm_bit]
    cases S.testBit j <;> rfl
  have h1 : rm S l ≤ S := by rw [← e]; exact Nat.and_le_left
  have h2 : rm S l ≠ S := fun q => by
    have := rm_bit S l l
    rw [q, h] at this
    simp at this
  omega
def sub (a b : Nat) : Prop := ∀ j, a.testBit j = true → b.testBit j = true
theorem mdiff0 (a b : Nat) : mdiff a b = 0 ↔ sub a b := by
  constructor
  · intro h j hj
    have := mdiff_bit a b j
    rw [h, Nat.zero_testBit, hj] at this
    cases hb : b.testBit j
    · rw [hb] at this; cases this
    · rfl
  · intro h
    apply Nat.eq_of_testBit_eq
    intro j
    rw [mdiff_bit, Nat.zero_testBit]
    have := h j
    cases ha : a.testBit j
    · rfl
    · rw [this ha]; rfl
def sumL (f : Nat → Nat) : Nat → Nat
  | 0 => 0
  | n + 1 => sumL f n + f n
theorem sumL_pos {f : Nat → Nat} : ∀ n, 0 < sumL f n ↔ ∃ l, l < n ∧ 0 < f l
  | 0 => by simp [sumL]
  | n + 1 => by
    have ih := sumL_pos (f := f) n
    simp only [sumL]
    constructor
    · intro h
      by_cases q : 0 < f n
      · exact ⟨n, by omega, q⟩
      · obtain ⟨l, h1, h2⟩ := ih.mp (by omega)
        exact ⟨l, by omega, h2⟩
    · rintro ⟨l, h1, h2⟩
      by_cases e : l = n
      · subst e; omega
      · have := ih.mpr ⟨l, by omega, h2⟩
        omega
theorem sumL_congr {f g : Nat → Nat} : ∀ n, (∀ l, l < n → f l = g l) → sumL f n = sumL g n
  | 0, _ => rfl
  | n + 1, h => by
    simp only [sumL]
    rw [sumL_congr n (fun l hl => h l (by omega)), h n (by omega)]
def tm (A T : Nat → Nat) (S l : Nat) : Nat := if S.testBit l = true ∧ mdiff (A l) (rm S l) = 0 then T (rm S l) else 0
def IsT (n : Nat) (A T : Nat → Nat) : Prop := T 0 = 1 ∧ ∀ S, 0 < S → S < 2 ^ n → T S = sumL (tm A T S) n
def clA (n : Nat) (A : Nat → Nat) (S : Nat) : Prop := ∀ x, x < n → S.testBit x = true → sub (A x) S
theorem rm_sub (S l : Nat) : sub (rm S l) S := fun j hj => by
  rw [rm_bit, Bool.and_eq_true] at hj
  exact hj.1
theorem IsT_last {n : Nat} {A T : Nat → Nat} (hT : IsT n A T) {S : Nat} (h0 : 0 < S) (hS : S < 2 ^ n) (hp : 0 < T S) : ∃ l, l < n ∧ S.testBit l = true ∧ sub (A l) (rm S l) ∧ 0 < T (rm S l) := by
  rw [hT.2 S h0 hS, sumL_pos] at hp
  obtain ⟨l, h1, h2⟩ := hp
  unfold tm at h2
  split at h2
  · next q => exact ⟨l, h1, q.1, (mdiff0 _ _).mp q.2, h2⟩
  · omega
theorem IsT_more {n : Nat} {A T : Nat → Nat} (hT : IsT n A T) {S l : Nat} (hS : S < 2 ^ n) (hl : l < n) (hb : S.testBit l = true) (hs : sub (A l) (rm S l)) (hp : 0 < T (rm S l)) : 0 < T S := by
  have h0 : 0 < S := by
    rcases Nat.eq_zero_or_pos S with q | q
    · rw [q, Nat.zero_testBit] at hb; cases hb
    · exact q
  rw [hT.2 S h0 hS, sumL_pos]
  refine ⟨l, hl, ?_⟩
  unfold tm
  rw [if_pos ⟨hb, (mdiff0 _ _).mpr hs⟩]
  exact hp
theorem IsT_closed {n : Nat} {A T : Nat → Nat} (hT : IsT n A T) : ∀ (m S : Nat), S ≤ m → S < 2 ^ n → 0 < T S → clA n A S := by
  intro m
  induction m with
  | zero =>
    intro S hm _ _ x _ hx
    have : S = 0 := by omega
    rw [this, Nat.zero_testBit] at hx
    cases hx
  | succ m ih =>
    intro S hm hS hp x hxn hx
    have h0 : 0 < S := by
      rcases Nat.eq_zero_or_pos S with q | q
      · rw [q, Nat.zero_testBit] at hx; cases hx
      · exact q
    obtain ⟨l, h1, h2, h3, h4⟩ := IsT_last hT h0 hS hp
    have hlt := rm_lt h2
    by_cases e : x = l
    · subst e; exact fun j hj => rm_sub S x j (h3 j hj)
    · have hx' : (rm S l).testBit x = true := by
        have : ¬ l = x := fun q => e q.symm
        rw [rm_bit, hx]; simp [this]
      exact fun j hj => rm_sub S l j (ih (rm S l) (by omega) (by omega) h4 x hxn hx' j hj)
theorem IsT_down {n : Nat} {A T : Nat → Nat} (hT : IsT n A T) : ∀ (m S D : Nat), S ≤ m → S < 2 ^ n → 0 < T S → sub D S → clA n A D → 0 < T D := by
  intro m
  induction m with
  | zero =>
    intro S D hm _ hp hD _
    have hS0 : S = 0 := by omega
    have : D = 0 := by
      apply Nat.eq_of_testBit_eq
      intro j
      rw [Nat.zero_testBit]
      cases hd : D.testBit j
      · rfl
      · have := hD j hd; rw [hS0, Nat.zero_testBit] at this; cases this
    rw [this, hT.1]
    omega
  | succ m ih =>
    intro S D hm hS hp hD hc
    rcases Nat.eq_zero_or_pos S with q | q
    · exact ih S D (by omega) hS hp hD hc
    · obtain ⟨l, h1, h2, h3, h4⟩ := IsT_last hT q hS hp
      have hlt := rm_lt h2
      have hrc := IsT_closed hT (rm S l) (rm S l) (by omega) (by omega) h4
      by_cases hl : D.testBit l = true
      · have hsub : sub (rm D l) (rm S l) := fun j hj => by
          rw [rm_bit, Bool.and_eq_true] at hj ⊢
          exact ⟨hD j hj.1, hj.2⟩
        have hDl : D < 2 ^ n := mask_lt (fun j hj => mask_bit hS (hD j hj))
        have hcl : clA n A (rm D l) := fun x hxn hx j hj => by
          have hx1 := hx
          rw [rm_bit, Bool.and_eq_true] at hx1
          have a1 := hrc x hxn (hsub x hx) j hj
          have a2 := hc x hxn hx1.1 j hj
          rw [rm_bit, Bool.and_eq_true] at a1 ⊢
          exact ⟨a2, a1.2⟩
        refine IsT_more hT hDl h1 hl (fun j hj => ?_) (ih (rm S l) (rm D l) (by omega) (by omega) h4 hsub hcl)
        have a1 := h3 j hj
        have a2 := hc l h1 hl j hj
        rw [rm_bit, Bool.and_eq_true] at a1 ⊢
        exact ⟨a2, a1.2⟩
      · refine ih (rm S l) D (by omega) (by omega) h4 (fun j hj => ?_) hc
        have hne : ¬ l = j := fun e => hl (by rw [e]; exact hj)
        rw [rm_bit, hD j hj]
        simp [hne]
/-- C: all that are ahead of those ahead, too -/
def isCl (n : Nat) (A C : Nat → Nat) : Prop := (∀ k, k < n → sub (A k) (C k)) ∧ (∀ k m, k < n → m < n → (C k).testBit m = true → sub (C m) (C k)) ∧ (∀ k, k < n → ∀ S, clA n A S → sub (A k) S → sub (C k) S) ∧ ∀ k, k < n → C k < 2 ^ n
theorem IsT_eq {n : Nat} {A C T T' : Nat → Nat} (hT : IsT n A T) (hT' : IsT n C T') (hC : isCl n A C) : ∀ (m S : Nat), S ≤ m → S < 2 ^ n → T S = T' S := by
  intro m
  induction m with
  | zero =>
    intro S hm _
    have : S = 0 := by omega
    rw [this, hT.1, hT'.1]
  | succ m ih =>
    intro S hm hS
    rcases Nat.eq_zero_or_pos S with q | q
    · rw [q, hT.1, hT'.1]
    · rw [hT.2 S q hS, hT'.2 S q hS]
      refine sumL_congr n (fun l hl => ?_)
      unfold tm
      by_cases hb : S.testBit l = true
      · have hlt := rm_lt hb
        have e := ih (rm S l) (by omega) (by omega)
        by_cases hc : sub (C l) (rm S l)
        · have ha : sub (A l) (rm S l) := fun j hj => hc j (hC.1 l hl j hj)
          rw [if_pos ⟨hb, (mdiff0 _ _).mpr ha⟩, if_pos ⟨hb, (mdiff0 _ _).mpr hc⟩, e]
        · have e1 : (if S.testBit l = true ∧ mdiff (C l) (rm S l) = 0 then T' (rm S l) else 0) = 0 := if_neg (fun z => hc ((mdiff0 _ _).mp z.2))
          rw [e1]
          by_cases ha : sub (A l) (rm S l)
          · rw [if_pos ⟨hb, (mdiff0 _ _).mpr ha⟩]
            rcases Nat.eq_zero_or_pos (T (rm S l)) with z | z
            · exact z
            · exact absurd (hC.2.2.1 l hl (rm S l) (IsT_closed hT (rm S l) (rm S l) (by omega) (by omega) z) ha) hc
          · rw [if_neg (fun z => ha ((mdiff0 _ _).mp z.2))]
      · rw [if_neg (fun z => hb z.1), if_neg (fun z => hb z.1)]
theorem IsT_irr {n : Nat} {A T : Nat → Nat} (hT : IsT n A T) : ∀ (m S : Nat), S ≤ m → S < 2 ^ n → 0 < T S → ∀ x, x < n → S.testBit x = true → (A x).testBit x = false := by
  intro m
  induction m with
  | zero =>
    intro S hm _ _ x _ hx
    have : S = 0 := by omega
    rw [this, Nat.zero_testBit] at hx
    cases hx
  | succ m ih =>
    intro S hm hS hp x hxn hx
    have h0 : 0 < S := by
      rcases Nat.eq_zero_or_pos S with q | q
      · rw [q, Nat.zero_testBit] at hx; cases hx
      · exact q
    obtain ⟨l, h1, h2, h3, h4⟩ := IsT_last hT h0 hS hp
    have hlt := rm_lt h2
    by_cases e : x = l
    · subst e
      cases hb : (A x).testBit x
      · rfl
      · have := h3 x hb
        rw [rm_bit] at this
        simp at this
    · have hx' : (rm S l).testBit x = true := by
        have : ¬ l = x := fun q => e q.symm
        rw [rm_bit, hx]; simp [this]
      exact ih (rm S l) (by omega) (by omega) h4 x hxn hx'
/-- the fewest that must be ahead of a cut -/
theorem ord_earliest {n : Nat} {A C T T' : Nat → Nat} (hT : IsT n A T) (hT' : IsT n C T') (hC : isCl n A C) {cut : Nat} (hcut : cut < n) (hall : 0 < T (2 ^ n - 1)) :
    ((C cut).testBit cut = false ∧ sub (A cut) (C cut) ∧ 0 < T (C cut)) ∧ ∀ S, S < 2 ^ n → S.testBit cut = false → sub (A cut) S → 0 < T S → sub (C cut) S := by
  have hpos := Nat.two_pow_pos n
  have hbit : ∀ j, (2 ^ n - 1).testBit j = decide (j < n) := fun j => Nat.testBit_two_pow_sub_one n j
  have hall' : 0 < T' (2 ^ n - 1) := by rw [← IsT_eq hT hT' hC (2 ^ n - 1) (2 ^ n - 1) (by omega) (by omega)]; exact hall
  refine ⟨⟨?_, hC.1 cut hcut, ?_⟩, fun S hS _ hs hp => hC.2.2.1 cut hcut S (IsT_closed hT S S (by omega) hS hp) hs⟩
  · exact IsT_irr hT' (2 ^ n - 1) (2 ^ n - 1) (by omega) (by omega) hall' cut hcut (by rw [hbit]; simpa using hcut)
  · refine IsT_down hT (2 ^ n - 1) (2 ^ n - 1) (C cut) (by omega) (by omega) hall (fun j hj => ?_) (fun x hx hb j hj => ?_)
    · rw [hbit]
      simpa using mask_bit (hC.2.2.2 cut hcut) hj
    · exact hC.2.1 cut x hcut hx hb j (hC.1 x hx j hj)
theorem popc_cntb {x : Nat} (hx : x < 65536) : popc x = cntb x 16 := by
  have e : ∀ i, (if x.testBit i = true then 1 else 0) = x / 2 ^ i % 2 := fun i => by
    rw [Nat.testBit_eq_decide_div_mod_eq]
    by_cases h : x / 2 ^ i % 2 = 1
    · simp [h]
    · have : x / 2 ^ i % 2 = 0 := by omega
      simp [this]
  simp only [cntb, e, popc, Nat.reducePow, Nat.div_one]
  omega
theorem popc_sub {x y : Nat} (hx : x < 65536) (hy : y < 65536) (h : sub x y) : popc x ≤ popc y := by
  rw [popc_cntb hx, popc_cntb hy]
  exact cntb_mono 16 (fun i _ hi => h i hi)
