/-! ===== masks as natural numbers ===== -/
theorem ofInt_nat (n : Nat) : Int32.ofInt (n : Int) = nI n := rfl
theorem bor_nat {a b : Nat} (ha : a < 2 ^ 31) (hb : b < 2 ^ 31) : bor (a : Int) (b : Int) = ((a ||| b : Nat) : Int) := by
  have hab : a ||| b < 2 ^ 31 := Nat.or_lt_two_pow ha hb
  unfold bor
  rw [ofInt_nat, ofInt_nat]
  have e : nI a ||| nI b = nI (a ||| b) := by
    apply Int32.toBitVec_inj.mp
    apply BitVec.eq_of_toNat_eq
    rw [Int32.toBitVec_or, BitVec.toNat_or, pk_tn (by omega), pk_tn (by omega), pk_tn (by omega)]
  rw [e, nI_toInt hab]
theorem band_nat {a b : Nat} (ha : a < 2 ^ 31) (hb : b < 2 ^ 31) : band (a : Int) (b : Int) = ((a &&& b : Nat) : Int) := by
  have hab : a &&& b < 2 ^ 31 := Nat.lt_of_le_of_lt Nat.and_le_left ha
  unfold band
  rw [ofInt_nat, ofInt_nat]
  have e : nI a &&& nI b = nI (a &&& b) := by
    apply Int32.toBitVec_inj.mp
    apply BitVec.eq_of_toNat_eq
    rw [Int32.toBitVec_and, BitVec.toNat_and, pk_tn (by omega), pk_tn (by omega), pk_tn (by omega)]
  rw [e, nI_toInt hab]
theorem sh_smod : ∀ i, i < 31 → ((nI i &&& 31).toBitVec.smod 32).toNat = i := by decide +kernel
theorem bshl_nat {i : Nat} (hi : i < 31) : bshl 1 (i : Int) = ((2 ^ i : Nat) : Int) := by
  have h2 : 2 ^ i < 2 ^ 31 := Nat.pow_lt_pow_right (by omega) hi
  unfold bshl
  have e1 : Int32.ofInt 1 = nI 1 := rfl
  rw [e1, ofInt_nat, pk_shlN (n := 1) _ i (sh_smod i hi) (by omega), nI_toInt (by omega), Nat.one_mul]
theorem bshr_nat {x i : Nat} (hx : x < 2 ^ 31) (hi : i < 31) : bshr (x : Int) (i : Int) = ((x / 2 ^ i : Nat) : Int) := by
  have h2 : x / 2 ^ i ≤ x := Nat.div_le_self _ _
  unfold bshr
  rw [ofInt_nat, ofInt_nat, pk_shrN hx _ i (sh_smod i hi), nI_toInt (by omega)]
theorem has_nat {x i : Nat} (hx : x < 2 ^ 31) (hi : i < 31) : band (bshr (x : Int) (i : Int)) 1 = if x.testBit i then 1 else 0 := by
  have h2 : x / 2 ^ i ≤ x := Nat.div_le_self _ _
  rw [bshr_nat hx hi]
  have e1 : (1 : Int) = ((1 : Nat) : Int) := rfl
  rw [e1, band_nat (by omega) (by omega), Nat.and_one_is_mod, Nat.testBit_eq_decide_div_mod_eq]
  by_cases h : x / 2 ^ i % 2 = 1
  · rw [if_pos (by simpa using h), h]
  · rw [if_neg (by simpa using h)]
    have : x / 2 ^ i % 2 = 0 := by omega
    rw [this]
    rfl
theorem has_iff {x i : Nat} (hx : x < 2 ^ 31) (hi : i < 31) : band (bshr (x : Int) (i : Int)) 1 = 1 ↔ x.testBit i = true := by
  rw [has_nat hx hi]
  by_cases h : x.testBit i = true
  · simp [h]
  · simp [h]
theorem has_iff0 {x i : Nat} (hx : x < 2 ^ 31) (hi : i < 31) : band (bshr (x : Int) (i : Int)) 1 = 0 ↔ x.testBit i = false := by
  rw [has_nat hx hi]
  by_cases h : x.testBit i = true
  · simp [h]
  · simp [h]
/-- a without b -/
def mdiff (a b : Nat) : Nat := a ^^^ (a &&& b)
theorem mdiff_bit (a b i : Nat) : (mdiff a b).testBit i = (a.testBit i && !b.testBit i) := by
  unfold mdiff
  rw [Nat.testBit_xor, Nat.testBit_and]
  cases a.testBit i <;> cases b.testBit i <;> rfl
theorem mdiff_lt {a b : Nat} (ha : a < 2 ^ 31) : mdiff a b < 2 ^ 31 := Nat.xor_lt_two_pow ha (Nat.lt_of_le_of_lt Nat.and_le_left ha)
theorem bnot_nat {a b : Nat} (ha : a < 2 ^ 31) (hb : b < 2 ^ 31) : band (a : Int) (bxor (b : Int) (-1)) = ((mdiff a b : Nat) : Int) := by
  unfold band bxor
  rw [ofInt_of32, ofInt_nat, ofInt_nat]
  have e : nI a &&& (nI b ^^^ Int32.ofInt (-1)) = nI (mdiff a b) := by
    apply Int32.toBitVec_inj.mp
    apply BitVec.eq_of_getLsbD_eq
    intro i hi
    have t1 : ∀ n, n < 2 ^ 31 → ∀ j, (nI n).toBitVec.getLsbD j = n.testBit j := by
      intro n hn j
      rw [← BitVec.testBit_toNat, pk_tn (by omega)]
    have t2 : (Int32.ofInt (-1)).toBitVec = BitVec.allOnes 32 := by decide
    rw [Int32.toBitVec_and, Int32.toBitVec_xor, BitVec.getLsbD_and, BitVec.getLsbD_xor, t2, BitVec.getLsbD_allOnes, t1 a ha, t1 b hb, t1 _ (mdiff_lt ha), mdiff_bit]
    simp [hi]
  rw [e, nI_toInt (mdiff_lt ha)]
theorem or_bit_self (x i : Nat) (j : Nat) : (x ||| 2 ^ i).testBit j = (x.testBit j || decide (i = j)) := by
  rw [Nat.testBit_or, Nat.testBit_two_pow]
