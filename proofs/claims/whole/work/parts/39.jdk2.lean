def ntc (x : Nat) : Bool := Nat.beq x 0 || (Nat.testBit x (Nat.log2 (mdiff (x - 1) x + 1)) && Nat.beq (mdiff (x - 1) x + 1) (2 ^ Nat.log2 (mdiff (x - 1) x + 1)) && Nat.ble (Nat.log2 (mdiff (x - 1) x + 1)) 15)
theorem ntc_all : all2 ntc 16 0 = true := by decide +kernel
theorem ntz_spec {x : Nat} (h0 : 0 < x) (h1 : x < 65536) : ∃ t, t < 16 ∧ x.testBit t = true ∧ mdiff (x - 1) x = 2 ^ t - 1 := by
  have := all2_spec ntc 16 0 ntc_all x (by omega) (by omega)
  simp only [ntc, Bool.and_eq_true, Bool.or_eq_true] at this
  rcases this with h | ⟨⟨h2, h3⟩, h4⟩
  · have := Nat.eq_of_beq_eq_true h
    omega
  · have h3 := Nat.eq_of_beq_eq_true h3
    have h4 := Nat.le_of_ble_eq_true h4
    exact ⟨_, by omega, h2, by omega⟩
theorem band_comm (a b : Int) : band a b = band b a := by
  unfold band
  rw [Int32.and_comm]
set_option maxHeartbeats 4000000 in
theorem p_ntz {x : Nat} (h0 : 0 < x) (h1 : x < 65536) {M : Me} {Q : Int → Me → Prop} (h : ∀ t : Nat, t < 16 → x.testBit t = true → Q (t : Int) M) : Calls 0 mJ6_numberOfTrailingZeros_0f7a4 [.inl (x : Int)] M Q := by
  obtain ⟨t, ht, hb, hy⟩ := ntz_spec h0 h1
  have hQ := h t ht hb
  have e : band (bxor (x : Int) (-1)) ((x : Int) - 1) = ((2 ^ t - 1 : Nat) : Int) := by
    rw [band_comm, show (x : Int) - 1 = ((x - 1 : Nat) : Int) by omega, bnot_nat (by omega) (by omega), hy]
  refine e_J6_numberOfTrailingZeros_0f7a4 ?_
  rw [e]
  refine ⟨by unfold cn; omega, ?_⟩
  clear e hy hb h
  have hcases : t = 0 ∨ t = 1 ∨ t = 2 ∨ t = 3 ∨ t = 4 ∨ t = 5 ∨ t = 6 ∨ t = 7 ∨ t = 8 ∨ t = 9 ∨ t = 10 ∨ t = 11 ∨ t = 12 ∨ t = 13 ∨ t = 14 ∨ t = 15 := by omega
  rcases hcases with rfl | rfl | rfl | rfl | rfl | rfl | rfl | rfl | rfl | rfl | rfl | rfl | rfl | rfl | rfl | rfl <;>
    (repeat' (first | refine And.intro ?_ ?_ | (intro hh; first | (exfalso; revert hh; decide) | skip))) <;>
    first
      | exact Eq.mp (congrArg (fun z => Q z M) (by decide)) hQ
      | decide
/-- bits of the reference, and of the JDK -/
theorem l_X12_bits {Q : Int → Me → Prop} {M : Me} {x : Nat} (hx : x < 65536) : ∀ (k : Nat) (acc c : Nat), c + k = 16 → acc ≤ c → Q (iter (fun i n => n + band (bshr (x : Int) i) 1) k (c : Int) (acc : Int)) M → Go (km 0 mX12_bits Q) 4 [some (.inl (x : Int)), some (.inl (acc : Int)), some (.inl (c : Int))] [] M := by
  intro k
  induction k with
  | zero => intro acc c hk ha hQ; exact s_X12_bits_4 x acc c M ⟨fun v1 => (by first | exact hQ | (exfalso; omega)), fun v1 => ⟨by first | omega | (exfalso; omega), ⟨by first | omega | (exfalso; omega), (by first | exact hQ | (exfalso; omega))⟩⟩⟩
  | succ k ih =>
    intro acc c hk ha hQ
    simp only [iter] at hQ
    have hb := has_nat (x := x) (i := c) (by omega) (by omega)
    by_cases hz : x.testBit c = true
    · rw [if_pos hz] at hb
      rw [hb] at hQ
      refine s_X12_bits_4 x acc c M ?_
      rw [hb]
      exact ⟨fun v => by exfalso; omega, fun v => ⟨by unfold cn; omega, by unfold cn; omega, ih (acc + 1) (c + 1) (by omega) (by omega) hQ⟩⟩
    · rw [if_neg hz] at hb
      rw [hb] at hQ
      refine s_X12_bits_4 x acc c M ?_
      rw [hb]
      refine ⟨fun v => by exfalso; omega, fun v => ⟨by unfold cn; omega, by unfold cn; omega, ?_⟩⟩
      rw [Int.add_zero] at hQ ⊢
      exact ih acc (c + 1) (by omega) (by omega) hQ
theorem bits_popc {x : Nat} (hx : x < 65536) : iter (fun i n => n + band (bshr (x : Int) i) 1) 16 (0 : Int) (0 : Int) = (popc x : Int) := by
  have hb : ∀ i : Nat, i < 16 → band (bshr (x : Int) (i : Int)) 1 = ((x / 2 ^ i % 2 : Nat) : Int) := by
    intro i hi
    have h2 : x / 2 ^ i ≤ x := Nat.div_le_self _ _
    rw [bshr_nat (by omega) (by omega)]
    have e1 : (1 : Int) = ((1 : Nat) : Int) := rfl
    rw [e1, band_nat (by omega) (by omega), Nat.and_one_is_mod]
  have hb' : ∀ i : Int, 0 ≤ i → i < 16 → band (bshr (x : Int) i) 1 = ((x / 2 ^ i.toNat % 2 : Nat) : Int) := by
    intro i h0 h1
    have := hb i.toNat (by omega)
    rw [Int.toNat_of_nonneg h0] at this
    exact this
  simp only [iter]
  rw [hb' 0 (by omega) (by omega), hb' (0 + 1) (by omega) (by omega), hb' (0 + 1 + 1) (by omega) (by omega), hb' (0 + 1 + 1 + 1) (by omega) (by omega), hb' (0 + 1 + 1 + 1 + 1) (by omega) (by omega), hb' (0 + 1 + 1 + 1 + 1 + 1) (by omega) (by omega), hb' (0 + 1 + 1 + 1 + 1 + 1 + 1) (by omega) (by omega), hb' (0 + 1 + 1 + 1 + 1 + 1 + 1 + 1) (by omega) (by omega), hb' (0 + 1 + 1 + 1 + 1 + 1 + 1 + 1 + 1) (by omega) (by omega), hb' (0 + 1 + 1 + 1 + 1 + 1 + 1 + 1 + 1 + 1) (by omega) (by omega), hb' (0 + 1 + 1 + 1 + 1 + 1 + 1 + 1 + 1 + 1 + 1) (by omega) (by omega), hb' (0 + 1 + 1 + 1 + 1 + 1 + 1 + 1 + 1 + 1 + 1 + 1) (by omega) (by omega), hb' (0 + 1 + 1 + 1 + 1 + 1 + 1 + 1 + 1 + 1 + 1 + 1 + 1) (by omega) (by omega), hb' (0 + 1 + 1 + 1 + 1 + 1 + 1 + 1 + 1 + 1 + 1 + 1 + 1 + 1) (by omega) (by omega), hb' (0 + 1 + 1 + 1 + 1 + 1 + 1 + 1 + 1 + 1 + 1 + 1 + 1 + 1 + 1) (by omega) (by omega), hb' (0 + 1 + 1 + 1 + 1 + 1 + 1 + 1 + 1 + 1 + 1 + 1 + 1 + 1 + 1 + 1) (by omega) (by omega)]
  unfold popc
  simp only [Int.reduceAdd, Int.reduceToNat, Int.zero_add, Nat.reducePow, Nat.div_one, Int.natCast_add]
theorem p_X12_bits {x : Nat} (hx : x < 65536) {M : Me} {Q : Int → Me → Prop} (h : Q (popc x : Int) M) : Calls 0 mX12_bits [.inl (x : Int)] M Q := by
  refine e_X12_bits (l_X12_bits hx 16 0 0 (by omega) (by omega) ?_)
  have := bits_popc hx
  simp only [Int.natCast_zero] at this ⊢
  rw [this]
  exact h
theorem us1 {n : Nat} (h : n < 2 ^ 31) : bushr (n : Int) 1 = ((n / 2 ^ 1 : Nat) : Int) := bushr_nat (i := 1) h (by omega)
theorem us2 {n : Nat} (h : n < 2 ^ 31) : bushr (n : Int) 2 = ((n / 2 ^ 2 : Nat) : Int) := bushr_nat (i := 2) h (by omega)
theorem us4 {n : Nat} (h : n < 2 ^ 31) : bushr (n : Int) 4 = ((n / 2 ^ 4 : Nat) : Int) := bushr_nat (i := 4) h (by omega)
theorem us8 {n : Nat} (h : n < 2 ^ 31) : bushr (n : Int) 8 = ((n / 2 ^ 8 : Nat) : Int) := bushr_nat (i := 8) h (by omega)
theorem us16 {n : Nat} (h : n < 2 ^ 31) : bushr (n : Int) 16 = ((n / 2 ^ 16 : Nat) : Int) := bushr_nat (i := 16) h (by omega)
theorem bandL {n : Nat} (h : n < 2 ^ 31) (k : Nat) (hk : k < 2 ^ 31) : band (n : Int) (k : Int) = ((n &&& k : Nat) : Int) := band_nat h hk
theorem and_le_r (a b : Nat) : a &&& b ≤ b := Nat.and_le_right
theorem p_bitCount {x : Nat} (hx : x < 65536) {M : Me} {Q : Int → Me → Prop} (h : Q (popc x : Int) M) : Calls 0 mJ6_bitCount_0f7a4 [.inl (x : Int)] M Q := by
  obtain ⟨q1, q2⟩ := bcc_at hx
  refine e_J6_bitCount_0f7a4 ?_
  have e1 : (x : Int) - band (bushr (x : Int) 1) 1431655765 = ((bc1 x : Nat) : Int) := by
    rw [us1 (by omega), show (1431655765 : Int) = ((1431655765 : Nat) : Int) from rfl, bandL (by omega) _ (by omega)]
    unfold bc1
    omega
  have b1 : bc1 x < 65536 := by unfold bc1; omega
  rw [e1]
  have e2 : band ((bc1 x : Nat) : Int) 858993459 + band (bushr ((bc1 x : Nat) : Int) 2) 858993459 = ((bc2 (bc1 x) : Nat) : Int) := by
    rw [us2 (by omega), show (858993459 : Int) = ((858993459 : Nat) : Int) from rfl, bandL (by omega) _ (by omega), bandL (by omega) _ (by omega)]
    unfold bc2
    omega
  have b2 : bc2 (bc1 x) < 131072 := by
    have := Nat.and_le_left (n := bc1 x) (m := 858993459)
    have := Nat.and_le_left (n := bc1 x / 2 ^ 2) (m := 858993459)
    unfold bc2
    omega
  rw [e2]
  generalize bc2 (bc1 x) = y at *
  have e3 : band ((y : Int) + bushr (y : Int) 4) 252645135 = ((bc3 y : Nat) : Int) := by
    rw [us4 (by omega), show (252645135 : Int) = ((252645135 : Nat) : Int) from rfl, show (y : Int) + ((y / 2 ^ 4 : Nat) : Int) = ((y + y / 2 ^ 4 : Nat) : Int) by omega, bandL (by omega) _ (by omega)]
    rfl
  have b3 : bc3 y < 262144 := by
    have := Nat.and_le_left (n := y + y / 2 ^ 4) (m := 252645135)
    unfold bc3
    omega
  have b3' : cn ((y : Int) + bushr (y : Int) 4) := by rw [us4 (by omega)]; unfold cn; omega
  rw [e3]
  generalize bc3 y = z at *
  have e4 : (z : Int) + bushr (z : Int) 8 = ((bc4 z : Nat) : Int) := by
    rw [us8 (by omega)]
    unfold bc4
    omega
  have b4 : bc4 z < 524288 := by unfold bc4; omega
  rw [e4]
  generalize bc4 z = w at *
  have e5 : (w : Int) + bushr (w : Int) 16 = ((bc5 w : Nat) : Int) := by
    rw [us16 (by omega)]
    unfold bc5
    omega
  have b5 : bc5 w < 1048576 := by unfold bc5; omega
  rw [e5]
  generalize bc5 w = v at *
  have e6 : band (v : Int) 63 = ((v &&& 63 : Nat) : Int) := by
    rw [show (63 : Int) = ((63 : Nat) : Int) from rfl, bandL (by omega) _ (by omega)]
  rw [e6, q1]
  exact ⟨by unfold cn; omega, by unfold cn; omega, b3', by unfold cn; omega, by unfold cn; omega, h⟩
theorem p_compare {a b : Int} {M : Me} {Q : Int → Me → Prop} (h : Q (if a < b then -1 else if a = b then 0 else 1) M) : Calls 0 mJ6_compare_7cf53 [.inl a, .inl b] M Q := by
  exact e_J6_compare_7cf53 ⟨fun v1 => ⟨fun v2 => (by first | (rw [if_pos (by omega)] at h; exact h) | (rw [if_neg (by omega), if_pos (by omega)] at h; exact h) | (rw [if_neg (by omega), if_neg (by omega)] at h; exact h)), fun v2 => (by first | (rw [if_pos (by omega)] at h; exact h) | (rw [if_neg (by omega), if_pos (by omega)] at h; exact h) | (rw [if_neg (by omega), if_neg (by omega)] at h; exact h))⟩, fun v1 => (by first | (rw [if_pos (by omega)] at h; exact h) | (rw [if_neg (by omega), if_pos (by omega)] at h; exact h) | (rw [if_neg (by omega), if_neg (by omega)] at h; exact h))⟩
