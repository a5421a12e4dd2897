def tabT (n : Nat) (A : Nat → Nat) : Nat → Nat → Nat
  | 0 => fun _ => 0
  | k + 1 => fun S => if S = k then (if k = 0 then 1 else sumL (tm A (tabT n A k) k) n) else tabT n A k S
def ordT (n : Nat) (A : Nat → Nat) (S : Nat) : Nat := tabT n A (S + 1) S
theorem tab_stable (n : Nat) (A : Nat → Nat) : ∀ (k S : Nat), S < k → tabT n A k S = ordT n A S
  | 0, S, h => by omega
  | k + 1, S, h => by
    by_cases e : S = k
    · subst e; rfl
    · have := tab_stable n A k S (by omega)
      rw [← this]
      simp only [tabT, if_neg e]
theorem ordT_0 (n : Nat) (A : Nat → Nat) : ordT n A 0 = 1 := by simp [ordT, tabT]
theorem ordT_S (n : Nat) (A : Nat → Nat) {S : Nat} (h : 0 < S) : ordT n A S = sumL (tm A (ordT n A) S) n := by
  have e : ordT n A S = sumL (tm A (tabT n A S) S) n := by simp only [ordT, tabT, if_true]; rw [if_neg (by omega)]
  rw [e]
  refine sumL_congr n (fun l _ => ?_)
  unfold tm
  split
  · next q => exact tab_stable n A S (rm S l) (rm_lt q.1)
  · rfl
theorem IsT_ordT (n : Nat) (A : Nat → Nat) : IsT n A (ordT n A) := ⟨ordT_0 n A, fun S h _ => ordT_S n A h⟩
def fa : Nat → Nat
  | 0 => 1
  | k + 1 => (k + 1) * fa k
theorem sumL_le {f : Nat → Nat} {S b : Nat} : ∀ n, (∀ l, l < n → f l ≤ if S.testBit l = true then b else 0) → sumL f n ≤ cntb S n * b
  | 0, _ => by simp [sumL, cntb]
  | n + 1, h => by
    have h1 := sumL_le n (fun l hl => h l (by omega))
    have h2 := h n (by omega)
    simp only [sumL, cntb]
    split at h2
    · next q => rw [if_pos q, Nat.add_mul, Nat.one_mul]; omega
    · next q => rw [if_neg q, Nat.add_zero]; omega
theorem sumL_mono (f : Nat → Nat) : ∀ (n m : Nat), m ≤ n → sumL f m ≤ sumL f n
  | 0, m, h => by have : m = 0 := by omega
                  subst this; exact Nat.le_refl _
  | n + 1, m, h => by
    by_cases e : m = n + 1
    · subst e; exact Nat.le_refl _
    · have := sumL_mono f n m (by omega)
      simp only [sumL]
      omega
theorem cntb_rm {S l n : Nat} (hl : l < n) (h : S.testBit l = true) : cntb (rm S l) n + 1 = cntb S n := by
  have e : rm S l ||| 2 ^ l = S := by
    apply Nat.eq_of_testBit_eq
    intro j
    rw [or_bit_self, rm_bit]
    by_cases q : l = j
    · subst q; simp [h]
    · simp [q]
  have := cntb_add (x := rm S l) (i := l) n hl (by rw [rm_bit]; simp)
  rw [e] at this
  omega
theorem ordT_le {n : Nat} {A : Nat → Nat} : ∀ (m S : Nat), S ≤ m → S < 2 ^ n → ordT n A S ≤ fa (cntb S n) := by
  intro m
  induction m with
  | zero =>
    intro S hm _
    have : S = 0 := by omega
    subst this
    rw [ordT_0, cntb_zero]
    exact Nat.le_refl _
  | succ m ih =>
    intro S hm hS
    rcases Nat.eq_zero_or_pos S with q | q
    · exact ih S (by omega) hS
    · rw [ordT_S n A q]
      have hpos : 0 < cntb S n := by
        rcases Nat.eq_zero_or_pos (cntb S n) with z | z
        · exfalso
          have : S = 0 := by
            apply Nat.eq_of_testBit_eq
            intro j
            rw [Nat.zero_testBit]
            cases hj : S.testBit j
            · rfl
            · have := cntb_rm (mask_bit hS hj) hj
              omega
          omega
        · exact z
      obtain ⟨c, hc⟩ : ∃ c, cntb S n = c + 1 := ⟨cntb S n - 1, by omega⟩
      have := sumL_le (f := tm A (ordT n A) S) (S := S) (b := fa c) n (fun l hl => by
        unfold tm
        by_cases hb : S.testBit l = true
        · rw [if_pos hb]
          split
          · have hlt := rm_lt hb
            have h1 := ih (rm S l) (by omega) (by omega)
            have h2 := cntb_rm hl hb
            rw [show cntb (rm S l) n = c by omega] at h1
            exact h1
          · omega
        · rw [if_neg hb, if_neg (fun z => hb z.1)]
          exact Nat.le_refl 0)
      rw [hc] at this ⊢
      exact this
theorem fa_le : ∀ k, k ≤ 10 → fa k ≤ 3628800 := by decide
theorem ordT_bound {n : Nat} {A : Nat → Nat} (hn : n ≤ 10) {S : Nat} (hS : S < 2 ^ n) : ordT n A S ≤ 3628800 := Nat.le_trans (ordT_le S S (Nat.le_refl _) hS) (fa_le _ (Nat.le_trans (cntb_le S n) hn))
theorem pow10 {n : Nat} (hn : n ≤ 10) : 2 ^ n ≤ 1024 := Nat.pow_le_pow_right (n := 2) (by omega) hn
theorem rm_nat {S l : Nat} (hS : S < 2 ^ 31) (hl : l < 31) : band (S : Int) (bxor (bshl 1 (l : Int)) (-1)) = ((rm S l : Nat) : Int) := by
  rw [bshl_nat hl, bnot_nat hS (Nat.pow_lt_pow_right (by omega) hl)]
  rfl
/-! tellOrders -/
def Fc62 (M M' : Me) : Prop := ∀ k i, k ≠ 62 → M' k i = M k i
theorem l_X6_tell_26 {Q : Int → Me → Prop} {M : Me} {n s : Nat} {A : Nat → Nat} (hn : n ≤ 10) (hA : ∀ l : Nat, l < n → M 65 (l : Int) = (A l : Int) ∧ A l < 2 ^ n) (h0 : 0 < s) (hs : s < 2 ^ n) (hT : ∀ S : Nat, S < s → M 62 (S : Int) = (ordT n A S : Int))
    (hk : Go (km 0 mX6_tellOrders Q) 15 [some (.inr 61), some (.inl (n : Int)), some (.inl ((2 ^ n - 1 : Nat) : Int)), some (.inl ((s + 1 : Nat) : Int)), none, none, none] [] (mput M 62 (s : Int) (ordT n A s : Int))) :
    ∀ (k l : Nat), l + k = n → Go (km 0 mX6_tellOrders Q) 26 [some (.inr 61), some (.inl (n : Int)), some (.inl ((2 ^ n - 1 : Nat) : Int)), some (.inl (s : Int)), some (.inl ((sumL (tm A (ordT n A) s) l : Nat) : Int)), some (.inl (l : Int)), none] [] M := by
  have hp := pow10 hn
  intro k
  induction k with
  | zero =>
    intro l hl
    have : l = n := by omega
    subst this
    rw [← ordT_S l A h0]
    exact s_X6_tellOrders_26 l _ s _ l M ⟨fun _ => ⟨by omega, by unfold cn; omega, hk⟩, fun v => by exfalso; omega⟩
  | succ k ih =>
    intro l hl
    have hln : l < n := by omega
    have hsum : sumL (tm A (ordT n A) s) (l + 1) = sumL (tm A (ordT n A) s) l + tm A (ordT n A) s l := rfl
    have hle := sumL_mono (tm A (ordT n A) s) n (l + 1) (by omega)
    have hbd := ordT_bound (A := A) hn hs
    rw [ordT_S n A h0] at hbd
    refine s_X6_tellOrders_26 n _ s _ l M ?_
    rw [rm_nat (by omega) (by omega)]
    refine ⟨fun v => by exfalso; omega, fun _ => ⟨fun v => ⟨by unfold cn; omega, ?_⟩, fun v => ⟨by omega, ?_⟩⟩⟩
    · have hb : ¬ s.testBit l = true := fun q => by have := rm_lt q; omega
      have e : sumL (tm A (ordT n A) s) (l + 1) = sumL (tm A (ordT n A) s) l := by
        rw [hsum]; unfold tm; rw [if_neg (fun z => hb z.1)]; rfl
      have g := ih (l + 1) (by omega)
      rw [e] at g
      exact g
    · have hb : s.testBit l = true := by
        cases hb : s.testBit l
        · exfalso
          apply v
          have : rm s l = s := by
            apply Nat.eq_of_testBit_eq
            intro j
            rw [rm_bit]
            by_cases q : l = j
            · subst q; rw [hb]; rfl
            · simp [q]
          rw [this]
        · rfl
      have hlt := rm_lt hb
      obtain ⟨a1, a2⟩ := hA l hln
      rw [a1, bnot_nat (by omega) (by omega)]
      refine ⟨fun v2 => ⟨by unfold cn; omega, ?_⟩, fun v2 => ⟨by omega, ?_⟩⟩
      · have e : sumL (tm A (ordT n A) s) (l + 1) = sumL (tm A (ordT n A) s) l := by
          rw [hsum]; unfold tm; rw [if_neg (fun z => by rw [z.2] at v2; exact v2 rfl)]; rfl
        have g := ih (l + 1) (by omega)
        rw [e] at g
        exact g
      · have e : sumL (tm A (ordT n A) s) (l + 1) = sumL (tm A (ordT n A) s) l + ordT n A (rm s l) := by
          rw [hsum]; conv => lhs; rhs; unfold tm
          rw [if_pos ⟨hb, by omega⟩]
        rw [hT (rm s l) hlt]
        have g := ih (l + 1) (by omega)
        rw [e] at g
        rw [e] at hle
        refine ⟨by unfold cn; omega, by unfold cn; omega, ?_⟩
        rw [show ((sumL (tm A (ordT n A) s) l : Nat) : Int) + ((ordT n A (rm s l) : Nat) : Int) = ((sumL (tm A (ordT n A) s) l + ordT n A (rm s l) : Nat) : Int) by omega]
        exact g
theorem l_X6_tell_15 {Q : Int → Me → Prop} {M0 : Me} {n : Nat} {A : Nat → Nat} (hn : n ≤ 10) (hn1 : 0 < n) (hA : ∀ l : Nat, l < n → M0 65 (l : Int) = (A l : Int) ∧ A l < 2 ^ n)
    (hQ : ∀ M', Fc62 M0 M' → (∀ S : Nat, S < 2 ^ n → M' 62 (S : Int) = (ordT n A S : Int)) → Q (ordT n A (2 ^ n - 1) : Int) M') :
    ∀ (k s : Nat) (M : Me), 0 < s → s + k = 2 ^ n → Fc62 M0 M → (∀ S : Nat, S < s → M 62 (S : Int) = (ordT n A S : Int)) → Go (km 0 mX6_tellOrders Q) 15 [some (.inr 61), some (.inl (n : Int)), some (.inl ((2 ^ n - 1 : Nat) : Int)), some (.inl (s : Int)), none, none, none] [] M := by
  have hp := pow10 hn
  have hpos := Nat.two_pow_pos n
  intro k
  induction k with
  | zero =>
    intro s M s0 hs f hT
    refine s_X6_tellOrders_15 n _ s M ⟨fun _ => ⟨by omega, ?_⟩, fun v => by exfalso; omega⟩
    rw [hT (2 ^ n - 1) (by omega)]
    exact hQ M f (fun S hS => hT S (by omega))
  | succ k ih =>
    intro s M s0 hs f hT
    refine s_X6_tellOrders_15 n _ s M ⟨fun v => by exfalso; omega, fun _ => ?_⟩
    refine l_X6_tell_26 hn (fun l hl => by rw [f 65 l (by decide)]; exact hA l hl) s0 (by omega) hT (ih (s + 1) _ (by omega) (by omega) (fun k i h => (mput_ne _ _ _ _ h).trans (f k i h)) (fun S hS => ?_)) n 0 (by omega)
    by_cases e : S = s
    · subst e; exact mput_same _ _ _ _
    · rw [mput_ni _ _ _ _ (by omega)]; exact hT S (by omega)
theorem p_X6_tellOrders {Q : Int → Me → Prop} {M : Me} {n : Nat} {A : Nat → Nat} (hn : n ≤ 10) (hn1 : 0 < n) (hA : ∀ l : Nat, l < n → M 65 (l : Int) = (A l : Int) ∧ A l < 2 ^ n)
    (hQ : ∀ M', Fc62 M M' → (∀ S : Nat, S < 2 ^ n → M' 62 (S : Int) = (ordT n A S : Int)) → Q (ordT n A (2 ^ n - 1) : Int) M') : Calls 0 mX6_tellOrders [.inr 61, .inl (n : Int)] M Q := by
  have hp := pow10 hn
  have hpos := Nat.two_pow_pos n
  refine e_X6_tellOrders ?_
  rw [bshl_nat (by omega), show ((2 ^ n : Nat) : Int) - 1 = ((2 ^ n - 1 : Nat) : Int) by omega]
  refine ⟨by unfold cn; omega, ?_⟩
  refine l_X6_tell_15 hn hn1 hA hQ (2 ^ n - 1) 1 _ (by omega) (by omega) (fun k i h => mput_ne _ _ _ _ h) (fun S hS => ?_)
  have : S = 0 := by omega
  subst this
  rw [ordT_0]
  exact mput_same _ _ _ _
/-! waysOf of the reference -/
def Fc123 (M M' : Me) : Prop := ∀ k i, k ≠ 123 → M' k i = M k i
theorem l_X12_ways_26 {Q : Int → Me → Prop} {M0 : Me} {n s : Nat} {A : Nat → Nat} (hn : n ≤ 10) (hA : ∀ l : Nat, l < n → M0 122 (l : Int) = (A l : Int) ∧ A l < 2 ^ n) (hs : s < 2 ^ n)
    (hk : ∀ M, Fc123 M0 M → (∀ S : Nat, S < s + 1 → M 123 (S : Int) = (ordT n A S : Int)) → Go (km 1 mX12_waysOf Q) 2 [some (.inr 76), some (.inl (n : Int)), some (.inl ((s + 1 : Nat) : Int)), none] [] M) :
    ∀ (k l : Nat) (M : Me), l + k = n → Fc123 M0 M → (∀ S : Nat, S < s → M 123 (S : Int) = (ordT n A S : Int)) → M 123 (s : Int) = (((if s = 0 then 1 else sumL (tm A (ordT n A) s) l) : Nat) : Int) → Go (km 1 mX12_waysOf Q) 26 [some (.inr 76), some (.inl (n : Int)), some (.inl (s : Int)), some (.inl (l : Int))] [] M := by
  have hp := pow10 hn
  intro k
  induction k with
  | zero =>
    intro l M hl f hT hv
    have : l = n := by omega
    subst this
    refine s_X12_waysOf_26 l s l M ⟨fun _ => ⟨by unfold cn; omega, hk M f (fun S hS => ?_)⟩, fun v => by exfalso; omega⟩
    by_cases e : S = s
    · subst e
      rw [hv]
      by_cases q : S = 0
      · subst q; rw [if_pos rfl, ordT_0]
      · rw [if_neg q, ordT_S l A (by omega)]
    · exact hT S (by omega)
  | succ k ih =>
    intro l M hl f hT hv
    have hln : l < n := by omega
    have hsum : sumL (tm A (ordT n A) s) (l + 1) = sumL (tm A (ordT n A) s) l + tm A (ordT n A) s l := rfl
    obtain ⟨a1, a2⟩ := hA l hln
    have e122 := f 122 l (by decide)
    refine s_X12_waysOf_26 n s l M ?_
    rw [rm_nat (by omega) (by omega), e122, a1, has_iff (by omega) (by omega)]
    refine ⟨fun v => by exfalso; omega, fun _ => ⟨fun hb => ⟨by omega, ?_⟩, fun hb => ⟨by unfold cn; omega, ?_⟩⟩⟩
    · have hlt := rm_lt hb
      have s0 : 0 < s := by omega
      have hle := sumL_mono (tm A (ordT n A) s) n (l + 1) (by omega)
      have hbd := ordT_bound (A := A) hn hs
      rw [ordT_S n A s0] at hbd
      rw [if_neg (by omega)] at hv
      rw [bnot_nat (by omega) (by omega)]
      refine ⟨fun v2 => ⟨by unfold cn; omega, ih (l + 1) M (by omega) f hT ?_⟩, fun v2 => ?_⟩
      · rw [hv, if_neg (by omega), hsum]
        unfold tm
        rw [if_neg (fun z => by rw [z.2] at v2; exact v2 rfl)]
        rfl
      · have e : sumL (tm A (ordT n A) s) (l + 1) = sumL (tm A (ordT n A) s) l + ordT n A (rm s l) := by
          rw [hsum]; conv => lhs; rhs; unfold tm
          rw [if_pos ⟨hb, by omega⟩]
        rw [hv, hT (rm s l) hlt]
        rw [e] at hle
        refine ⟨by omega, by omega, by unfold cn; omega, by omega, by unfold cn; omega, ih (l + 1) _ (by omega) (fun k i h => (mput_ne _ _ _ _ h).trans (f k i h)) (fun S hS => ?_) ?_⟩
        · rw [mput_ni _ _ _ _ (by omega)]; exact hT S hS
        · rw [mput_same, if_neg (by omega), e]
          omega
    · refine ih (l + 1) M (by omega) f hT ?_
      have e0 : tm A (ordT n A) s l = 0 := by unfold tm; rw [if_neg (fun z => hb z.1)]
      rw [hv, hsum, e0, Nat.add_zero]
theorem l_X12_ways_2 {Q : Int → Me → Prop} {M0 : Me} {n : Nat} {A : Nat → Nat} (hn : n ≤ 10) (hA : ∀ l : Nat, l < n → M0 122 (l : Int) = (A l : Int) ∧ A l < 2 ^ n)
    (hQ : ∀ M', Fc123 M0 M' → Q (ordT n A (2 ^ n - 1) : Int) M') :
    ∀ (k s : Nat) (M : Me), s + k = 2 ^ n → Fc123 M0 M → (∀ S : Nat, S < s → M 123 (S : Int) = (ordT n A S : Int)) → Go (km 1 mX12_waysOf Q) 2 [some (.inr 76), some (.inl (n : Int)), some (.inl (s : Int)), none] [] M := by
  have hp := pow10 hn
  have hpos := Nat.two_pow_pos n
  intro k
  induction k with
  | zero =>
    intro s M hs f hT
    refine s_X12_waysOf_2 n s M ?_
    rw [bshl_nat (by omega), show ((2 ^ n : Nat) : Int) - 1 = ((2 ^ n - 1 : Nat) : Int) by omega, hT (2 ^ n - 1) (by omega)]
    exact ⟨fun _ => ⟨by unfold cn; omega, by omega, hQ M f⟩, fun v => by exfalso; omega⟩
  | succ k ih =>
    intro s M hs f hT
    have go : ∀ v : Int, v = (((if s = 0 then 1 else 0) : Nat) : Int) → Go (km 1 mX12_waysOf Q) 26 [some (.inr 76), some (.inl (n : Int)), some (.inl (s : Int)), some (.inl 0)] [] (mput M 123 (s : Int) v) := fun v hv => by
      refine l_X12_ways_26 hn hA (by omega) (fun M' f' hT' => ih (s + 1) M' (by omega) f' hT') n 0 _ (by omega) (fun k i h => (mput_ne _ _ _ _ h).trans (f k i h)) (fun S hS => ?_) ?_
      · rw [mput_ni _ _ _ _ (by omega)]; exact hT S hS
      · rw [mput_same, hv]; rfl
    refine s_X12_waysOf_2 n s M ?_
    rw [bshl_nat (by omega)]
    refine ⟨fun v => by exfalso; omega, fun _ => ⟨fun v => ⟨by omega, go 0 ?_⟩, fun v => ⟨by omega, go 1 ?_⟩⟩⟩
    · rw [if_neg (by omega)]; rfl
    · rw [if_pos (by omega)]; rfl
theorem p_X12_waysOf {Q : Int → Me → Prop} {M : Me} {n : Nat} {A : Nat → Nat} (hn : n ≤ 10) (hA : ∀ l : Nat, l < n → M 122 (l : Int) = (A l : Int) ∧ A l < 2 ^ n)
    (hQ : ∀ M', Fc123 M M' → Q (ordT n A (2 ^ n - 1) : Int) M') : Calls 1 mX12_waysOf [.inr 76, .inl (n : Int)] M Q :=
  e_X12_waysOf (l_X12_ways_2 hn hA hQ (2 ^ n) 0 M (by omega) (fun _ _ _ => rfl) (fun S hS => by omega))
