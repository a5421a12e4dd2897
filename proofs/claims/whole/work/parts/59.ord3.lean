/-! ===== the closure ===== -/
def clS (B : Nat → Nat) (m : Nat) : Nat → Nat := fun k => if (B k).testBit m = true then B k ||| B m else B k
def clI : Nat → Nat → (Nat → Nat) → Nat → Nat
  | 0, _, B => B
  | k + 1, m, B => clI k (m + 1) (clS B m)
theorem clS_self (B : Nat → Nat) (m : Nat) : clS B m m = B m := by
  unfold clS
  split
  · exact Nat.or_self _
  · rfl
theorem clS_bit {B : Nat → Nat} {m k j : Nat} (h : (clS B m k).testBit j = true) : (B k).testBit j = true ∨ ((B k).testBit m = true ∧ (B m).testBit j = true) := by
  unfold clS at h
  split at h
  · next q =>
    rw [Nat.testBit_or, Bool.or_eq_true] at h
    rcases h with h | h
    · exact Or.inl h
    · exact Or.inr ⟨q, h⟩
  · exact Or.inl h
theorem clS_old {B : Nat → Nat} {m k : Nat} : sub (B k) (clS B m k) := fun j hj => by
  unfold clS
  split
  · rw [Nat.testBit_or, hj]; rfl
  · exact hj
theorem clS_new {B : Nat → Nat} {m k : Nat} (h : (B k).testBit m = true) : sub (B m) (clS B m k) := fun j hj => by
  unfold clS
  rw [if_pos h, Nat.testBit_or, hj, Bool.or_true]
def clInv (n : Nat) (A : Nat → Nat) (m : Nat) (B : Nat → Nat) : Prop := (∀ k, k < n → sub (A k) (B k)) ∧ (∀ k p, k < n → p < n → p < m → (B k).testBit p = true → sub (B p) (B k)) ∧ (∀ k, k < n → ∀ S, clA n A S → sub (A k) S → sub (B k) S) ∧ ∀ k, k < n → B k < 2 ^ n
theorem clInv_step {n m : Nat} {A B : Nat → Nat} (hm : m < n) (h : clInv n A m B) : clInv n A (m + 1) (clS B m) := by
  obtain ⟨h1, h2, h3, h4⟩ := h
  refine ⟨fun k hk j hj => clS_old j (h1 k hk j hj), fun k p hk hp hpm hb j hj => ?_, fun k hk S hS hA j hj => ?_, fun k hk => ?_⟩
  · have key : ∀ x, x < n → (clS B m k).testBit x = true → (B x).testBit j = true → x ≤ m → (clS B m k).testBit j = true := fun x hx hbx hjx hxm => by
      rcases clS_bit hbx with q | ⟨q1, q2⟩
      · by_cases e : x = m
        · subst e; exact clS_new q j hjx
        · exact clS_old j (h2 k x hk hx (by omega) q j hjx)
      · by_cases e : x = m
        · subst e; exact clS_new q1 j hjx
        · exact clS_new q1 j (h2 m x hm hx (by omega) q2 j hjx)
    rcases clS_bit hj with q | ⟨q1, q2⟩
    · exact key p hp hb q (by omega)
    · by_cases e : p = m
      · subst e; exact key p hp hb q2 (by omega)
      · -- m is in B p, p in the new set of k: so m is there, too
        rcases clS_bit hb with z | ⟨z1, z2⟩
        · have : (B k).testBit m = true := h2 k p hk hp (by omega) z m q1
          exact clS_new this j q2
        · exact clS_new z1 j q2
  · rcases clS_bit hj with q | ⟨q1, q2⟩
    · exact h3 k hk S hS hA j q
    · have hmS := h3 k hk S hS hA m q1
      exact h3 m hm S hS (hS m hm hmS) j q2
  · unfold clS
    split
    · exact Nat.or_lt_two_pow (h4 k hk) (h4 m hm)
    · exact h4 k hk
theorem clI_inv {n : Nat} {A : Nat → Nat} : ∀ (k m : Nat) (B : Nat → Nat), m + k = n → clInv n A m B → clInv n A n (clI k m B)
  | 0, m, B, h, hi => by have : m = n := by omega
                         subst this; exact hi
  | k + 1, m, B, h, hi => clI_inv k (m + 1) (clS B m) (by omega) (clInv_step (by omega) hi)
def clos (n : Nat) (A : Nat → Nat) : Nat → Nat := clI n 0 A
theorem isCl_clos {n : Nat} {A : Nat → Nat} (hA : ∀ k, k < n → A k < 2 ^ n) : isCl n A (clos n A) := by
  obtain ⟨h1, h2, h3, h4⟩ := clI_inv (A := A) n 0 A (by omega) ⟨fun k _ j hj => hj, fun k p _ _ hp => by omega, fun k _ S _ hs => hs, hA⟩
  exact ⟨h1, fun k m hk hm hb => h2 k m hk hm hm hb, h3, h4⟩
def Fc122 (M M' : Me) : Prop := ∀ k i, k ≠ 122 → M' k i = M k i
theorem l_X12_closes_9 {Q : Int → Me → Prop} {M0 : Me} {n m : Nat} {B : Nat → Nat} (hn : n ≤ 10) (hm : m < n) (hB : ∀ k, k < n → B k < 2 ^ n)
    (hk : ∀ M, Fc122 M0 M → (∀ k : Nat, k < n → M 122 (k : Int) = (clS B m k : Int)) → Go (km 1 mX12_closes Q) 2 [some (.inr 76), some (.inl (n : Int)), some (.inl ((m + 1 : Nat) : Int)), none] [] M) :
    ∀ (c k : Nat) (M : Me), k + c = n → Fc122 M0 M → (∀ x : Nat, x < k → M 122 (x : Int) = (clS B m x : Int)) → (∀ x : Nat, k ≤ x → x < n → M 122 (x : Int) = (B x : Int)) → Go (km 1 mX12_closes Q) 9 [some (.inr 76), some (.inl (n : Int)), some (.inl (m : Int)), some (.inl (k : Int))] [] M := by
  have hp := pow10 hn
  intro c
  induction c with
  | zero =>
    intro k M hc f h1 h2
    have : k = n := by omega
    subst this
    exact s_X12_closes_9 k m k M ⟨fun _ => ⟨by unfold cn; omega, hk M f h1⟩, fun v => by exfalso; omega⟩
  | succ c ih =>
    intro k M hc f h1 h2
    have hkn : k < n := by omega
    have ek := h2 k (Nat.le_refl k) hkn
    have em : M 122 (m : Int) = (B m : Int) := by
      by_cases q : k ≤ m
      · exact h2 m q hm
      · rw [h1 m (by omega), clS_self]
    have b1 := hB k hkn
    have b2 := hB m hm
    refine s_X12_closes_9 n m k M ?_
    rw [ek, em, has_iff (by omega) (by omega)]
    refine ⟨fun v => by exfalso; omega, fun _ => ⟨by omega, fun hb => ⟨by omega, by omega, by omega, by unfold cn; omega, ?_⟩, fun hb => ⟨by unfold cn; omega, ?_⟩⟩⟩
    · rw [bor_nat (by omega) (by omega)]
      refine ih (k + 1) _ (by omega) (fun a i h => (mput_ne _ _ _ _ h).trans (f a i h)) (fun x hx => ?_) (fun x hx hxn => ?_)
      · by_cases e : x = k
        · subst e; rw [mput_same]; unfold clS; rw [if_pos hb]
        · rw [mput_ni _ _ _ _ (by omega)]; exact h1 x (by omega)
      · rw [mput_ni _ _ _ _ (by omega)]; exact h2 x (by omega) hxn
    · refine ih (k + 1) M (by omega) f (fun x hx => ?_) (fun x hx hxn => h2 x (by omega) hxn)
      by_cases e : x = k
      · subst e; rw [ek]; unfold clS; rw [if_neg hb]
      · exact h1 x (by omega)
theorem l_X12_closes_2 {Q : Int → Me → Prop} {M0 : Me} {n : Nat} (hn : n ≤ 10) (C : Nat → Nat) (hQ : ∀ M', Fc122 M0 M' → (∀ k : Nat, k < n → M' 122 (k : Int) = (C k : Int)) → Q 0 M') :
    ∀ (c m : Nat) (B : Nat → Nat) (M : Me), m + c = n → clI c m B = C → Fc122 M0 M → (∀ k, k < n → B k < 2 ^ n) → (∀ k : Nat, k < n → M 122 (k : Int) = (B k : Int)) → Go (km 1 mX12_closes Q) 2 [some (.inr 76), some (.inl (n : Int)), some (.inl (m : Int)), none] [] M := by
  intro c
  induction c with
  | zero =>
    intro m B M hm hC f hB h
    simp only [clI] at hC
    subst hC
    exact s_X12_closes_2 n m M ⟨fun _ => hQ M f h, fun v => by exfalso; omega⟩
  | succ c ih =>
    intro m B M hm hC f hB h
    refine s_X12_closes_2 n m M ⟨fun v => by exfalso; omega, fun _ => ?_⟩
    refine l_X12_closes_9 hn (by omega) hB (fun M' f' h' => ih (m + 1) (clS B m) M' (by omega) hC f' (fun k hk => ?_) h') n 0 M (by omega) f (fun x hx => by omega) (fun x _ hx => h x hx)
    unfold clS
    split
    · exact Nat.or_lt_two_pow (hB k hk) (hB m (by omega))
    · exact hB k hk
theorem p_X12_closes {Q : Int → Me → Prop} {M : Me} {n : Nat} {A : Nat → Nat} (hn : n ≤ 10) (hA : ∀ l : Nat, l < n → M 122 (l : Int) = (A l : Int) ∧ A l < 2 ^ n) (hQ : ∀ M', Fc122 M M' → (∀ k : Nat, k < n → M' 122 (k : Int) = (clos n A k : Int)) → Q 0 M') : Calls 1 mX12_closes [.inr 76, .inl (n : Int)] M Q :=
  e_X12_closes (l_X12_closes_2 hn (clos n A) hQ n 0 A M (by omega) rfl (fun _ _ _ => rfl) (fun k hk => (hA k hk).2) (fun k hk => (hA k hk).1))
/-! earliest -/
theorem cntb_top {x n : Nat} (h : x < 2 ^ n) : ∀ m, cntb x m ≤ n
  | 0 => Nat.zero_le n
  | m + 1 => by
    have ih := cntb_top h m
    have hl := cntb_le x m
    simp only [cntb]
    split
    · next q => have := mask_bit h q; omega
    · omega
theorem l_X6_earliest {Q : Int → Me → Prop} {M : Me} {n cut : Nat} {A : Nat → Nat} (hn : n ≤ 10) (hcut : cut < n) (hA : ∀ l : Nat, l < n → M 65 (l : Int) = (A l : Int) ∧ A l < 2 ^ n) (hT : ∀ S : Nat, S < 2 ^ n → M 62 (S : Int) = (ordT n A S : Int)) (hall : 0 < ordT n A (2 ^ n - 1)) (hQ : Q (popc (clos n A cut) : Int) M) :
    ∀ (k s b : Nat), s + k = 2 ^ n → b ≤ n → (∀ S, S < s → S.testBit cut = false → sub (A cut) S → 0 < ordT n A S → b ≤ popc S) → (b = n ∨ ∃ S, S < 2 ^ n ∧ S.testBit cut = false ∧ sub (A cut) S ∧ 0 < ordT n A S ∧ b = popc S) → Go (km 1 mX6_earliest Q) 24 [some (.inr 61), none, some (.inl (cut : Int)), some (.inl ((2 ^ n - 1 : Nat) : Int)), some (.inl (b : Int)), some (.inl (s : Int)), none] [] M := by
  have hp := pow10 hn
  have hpos := Nat.two_pow_pos n
  have hC := isCl_clos (fun k hk => (hA k hk).2)
  obtain ⟨⟨e1, e2, e3⟩, e4⟩ := ord_earliest (IsT_ordT n A) (IsT_ordT n (clos n A)) hC hcut hall
  have hCl := hC.2.2.2 cut hcut
  intro k
  induction k with
  | zero =>
    intro s b hs hbn h1 h2
    have hb : b = popc (clos n A cut) := by
      have a1 := h1 (clos n A cut) (by omega) e1 e2 e3
      rcases h2 with q | ⟨S, q1, q2, q3, q4, q5⟩
      · have := cntb_top hCl 16
        rw [← popc_cntb (by omega)] at this
        omega
      · have := popc_sub (by omega) (by omega) (e4 S q1 q2 q3 q4)
        omega
    refine s_X6_earliest_24 cut _ b s M ⟨fun _ => by rw [hb]; exact hQ, fun v => by exfalso; omega⟩
  | succ k ih =>
    intro s b hs hbn h1 h2
    obtain ⟨a1, a2⟩ := hA cut hcut
    have same : ¬ (s.testBit cut = false ∧ sub (A cut) s ∧ 0 < ordT n A s) → Go (km 1 mX6_earliest Q) 24 [some (.inr 61), none, some (.inl (cut : Int)), some (.inl ((2 ^ n - 1 : Nat) : Int)), some (.inl (b : Int)), some (.inl ((s : Int) + 1)), none] [] M := fun q => by
      refine ih (s + 1) b (by omega) hbn (fun S hS z1 z2 z3 => ?_) h2
      by_cases e : S = s
      · subst e; exact absurd ⟨z1, z2, z3⟩ q
      · exact h1 S (by omega) z1 z2 z3
    refine s_X6_earliest_24 cut _ b s M ?_
    rw [a1, bnot_nat (by omega) (by omega), has_iff0 (by omega) (by omega), hT s (by omega)]
    refine ⟨fun v => by exfalso; omega, fun _ => ⟨fun v => ⟨by unfold cn; omega, same (fun z => ?_)⟩, fun v => ⟨by omega, fun v2 => ⟨by unfold cn; omega, same (fun z => ?_)⟩, fun v2 => ⟨by omega, fun v3 => ⟨by unfold cn; omega, same (fun z => by omega)⟩, fun v3 => p_bitCount (by omega) ⟨by unfold cn; omega, ?_⟩⟩⟩⟩⟩
    · apply v
      rw [has_nat (by omega) (by omega), z.1]
      rfl
    · apply v2
      rw [(mdiff0 _ _).mpr z.2.1]
      rfl
    · have hs2 : sub (A cut) s := (mdiff0 _ _).mp (by omega)
      rw [show min (b : Int) (popc s : Int) = ((min b (popc s) : Nat) : Int) by omega]
      refine ih (s + 1) (min b (popc s)) (by omega) (by omega) (fun S hS z1 z2 z3 => ?_) ?_
      · by_cases e : S = s
        · subst e; omega
        · have := h1 S (by omega) z1 z2 z3; omega
      · by_cases q : popc s ≤ b
        · exact Or.inr ⟨s, by omega, v, hs2, by omega, by omega⟩
        · rcases h2 with z | ⟨S, q1, q2, q3, q4, q5⟩
          · exact Or.inl (by omega)
          · exact Or.inr ⟨S, q1, q2, q3, q4, by omega⟩
theorem p_X6_earliest {Q : Int → Me → Prop} {M : Me} {n cut : Nat} {A : Nat → Nat} (hn : n ≤ 10) (hcut : cut < n) (hA : ∀ l : Nat, l < n → M 65 (l : Int) = (A l : Int) ∧ A l < 2 ^ n) (hT : ∀ S : Nat, S < 2 ^ n → M 62 (S : Int) = (ordT n A S : Int)) (hQ : Q (if ordT n A (2 ^ n - 1) = 0 then -2 else (popc (clos n A cut) : Int)) M) : Calls 1 mX6_earliest [.inr 61, .inl (n : Int), .inl (cut : Int)] M Q := by
  have hp := pow10 hn
  have hpos := Nat.two_pow_pos n
  refine e_X6_earliest ?_
  rw [bshl_nat (by omega), show ((2 ^ n : Nat) : Int) - 1 = ((2 ^ n - 1 : Nat) : Int) by omega, hT (2 ^ n - 1) (by omega)]
  refine ⟨by unfold cn; omega, by omega, fun v => ?_, fun v => ?_⟩
  · rw [if_neg (by omega)] at hQ
    exact l_X6_earliest hn hcut hA hT (by omega) hQ (2 ^ n) 0 n (by omega) (Nat.le_refl n) (fun S hS => by omega) (Or.inl rfl)
  · rw [if_pos (by omega)] at hQ
    exact hQ
