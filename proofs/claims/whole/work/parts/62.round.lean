/-! ===== the shortest round ===== -/
def mnI (init : Int) (R : Nat) (v : Nat → Int) : Nat → Int
  | 0 => init
  | n + 1 => if R.testBit n = true then min (mnI init R v n) (v n) else mnI init R v n
theorem mnI_congr {init : Int} {R : Nat} {v v' : Nat → Int} : ∀ n, (∀ e, e < n → R.testBit e = true → v e = v' e) → mnI init R v n = mnI init R v' n
  | 0, _ => rfl
  | n + 1, h => by
    simp only [mnI]
    rw [mnI_congr n (fun e he => h e (by omega))]
    split
    · next q => rw [h n (by omega) q]
    · rfl
theorem mnI_le {init : Int} {R : Nat} {v : Nat → Int} : ∀ n, mnI init R v n ≤ init ∧ ∀ e, e < n → R.testBit e = true → mnI init R v n ≤ v e
  | 0 => ⟨Int.le_refl _, fun e he => by omega⟩
  | n + 1 => by
    obtain ⟨h1, h2⟩ := mnI_le (init := init) (R := R) (v := v) n
    simp only [mnI]
    split
    · refine ⟨by omega, fun e he hb => ?_⟩
      by_cases q : e = n
      · subst q; omega
      · have := h2 e (by omega) hb; omega
    · next z =>
      refine ⟨h1, fun e he hb => ?_⟩
      by_cases q : e = n
      · subst q; exact absurd hb z
      · exact h2 e (by omega) hb
theorem mnI_in {init : Int} {R : Nat} {v : Nat → Int} : ∀ n, mnI init R v n = init ∨ ∃ e, e < n ∧ R.testBit e = true ∧ mnI init R v n = v e
  | 0 => Or.inl rfl
  | n + 1 => by
    simp only [mnI]
    split
    · next z =>
      by_cases q : v n ≤ mnI init R v n
      · exact Or.inr ⟨n, by omega, z, by omega⟩
      · rcases mnI_in (init := init) (R := R) (v := v) n with h | ⟨e, h1, h2, h3⟩
        · exact Or.inl (by omega)
        · exact Or.inr ⟨e, by omega, h2, by omega⟩
    · rcases mnI_in (init := init) (R := R) (v := v) n with h | ⟨e, h1, h2, h3⟩
      · exact Or.inl h
      · exact Or.inr ⟨e, by omega, h2, h3⟩
theorem mnI_init {i1 i2 : Int} {R : Nat} {v : Nat → Int} {n : Nat} (hex : ∃ e, e < n ∧ R.testBit e = true) (h1 : ∀ e, e < n → R.testBit e = true → v e ≤ i1 ∧ v e ≤ i2) : mnI i1 R v n = mnI i2 R v n := by
  obtain ⟨e0, a1, a2⟩ := hex
  have l1 := (mnI_le (init := i1) (R := R) (v := v) n).2
  have l2 := (mnI_le (init := i2) (R := R) (v := v) n).2
  have b0 := h1 e0 a1 a2
  have c1 := l1 e0 a1 a2
  have c2 := l2 e0 a1 a2
  rcases mnI_in (init := i1) (R := R) (v := v) n with h | ⟨e, q1, q2, q3⟩ <;> rcases mnI_in (init := i2) (R := R) (v := v) n with g | ⟨e', p1, p2, p3⟩
  · omega
  · have := l1 e' p1 p2
    have := h1 e' p1 p2
    omega
  · have := l2 e q1 q2
    have := h1 e q1 q2
    omega
  · have := l1 e' p1 p2
    have := l2 e q1 q2
    omega
/-- the fewest steps from f through the places of R to 0, 0 -/
def gT (p : Nat → Int) (m : Nat) : Nat → Nat → Nat → Int
  | 0 => fun _ _ => 0
  | k + 1 => fun R f => if R = k then (if k = 0 then dst (p f) 0 else mnI 1000000 k (fun e => dst (p f) (p e) + gT p m k (rm k e) e) m) else gT p m k R f
def gw (p : Nat → Int) (m R f : Nat) : Int := gT p m (R + 1) R f
theorem gT_stable (p : Nat → Int) (m : Nat) : ∀ (k R f : Nat), R < k → gT p m k R f = gw p m R f
  | 0, R, f, h => by omega
  | k + 1, R, f, h => by
    by_cases e : R = k
    · subst e; rfl
    · have := gT_stable p m k R f (by omega)
      rw [← this]
      simp only [gT, if_neg e]
theorem gw_0 (p : Nat → Int) (m f : Nat) : gw p m 0 f = dst (p f) 0 := by simp [gw, gT]
theorem gw_S (p : Nat → Int) (m f : Nat) {R : Nat} (h : 0 < R) : gw p m R f = mnI 1000000 R (fun e => dst (p f) (p e) + gw p m (rm R e) e) m := by
  have e : gw p m R f = mnI 1000000 R (fun e => dst (p f) (p e) + gT p m R (rm R e) e) m := by simp only [gw, gT, if_true]; rw [if_neg (by omega)]
  rw [e]
  exact mnI_congr m (fun e _ hb => by rw [gT_stable p m R (rm R e) e (rm_lt hb)])
theorem dst_b {a b : Int} (ha : pl a) (hb : pl b) : 0 ≤ dst a b ∧ dst a b ≤ 38 := by
  unfold dst pl at *
  omega
theorem gw_b {p : Nat → Int} {m : Nat} (hp : ∀ e, e < m → pl (p e)) : ∀ (k R f : Nat), R ≤ k → R < 2 ^ m → f < m → 0 ≤ gw p m R f ∧ gw p m R f ≤ 38 * (cntb R m + 1) := by
  intro k
  induction k with
  | zero =>
    intro R f hk hR hf
    have : R = 0 := by omega
    subst this
    rw [gw_0]
    have := dst_b (hp f hf) (b := 0) (by unfold pl; omega)
    omega
  | succ k ih =>
    intro R f hk hR hf
    rcases Nat.eq_zero_or_pos R with q | q
    · exact ih R f (by omega) hR hf
    · rw [gw_S p m f q]
      have hv : ∀ e, e < m → R.testBit e = true → 0 ≤ dst (p f) (p e) + gw p m (rm R e) e ∧ dst (p f) (p e) + gw p m (rm R e) e ≤ 38 * (cntb R m + 1) := fun e he hb => by
        have h1 := dst_b (hp f hf) (hp e he)
        have hlt := rm_lt hb
        have h2 := ih (rm R e) e (by omega) (by omega) he
        have h3 := cntb_rm he hb
        omega
      have hex : ∃ e, e < m ∧ R.testBit e = true := by
        apply Classical.byContradiction
        intro hno
        have : R = 0 := by
          apply Nat.eq_of_testBit_eq
          intro j
          rw [Nat.zero_testBit]
          cases hj : R.testBit j
          · rfl
          · exact absurd ⟨j, mask_bit hR hj, hj⟩ hno
        omega
      obtain ⟨e0, a1, a2⟩ := hex
      have c1 := (mnI_le (init := 1000000) (R := R) (v := fun e => dst (p f) (p e) + gw p m (rm R e) e) m).2 e0 a1 a2
      have b0 := hv e0 a1 a2
      have hcm := cntb_le R m
      rcases mnI_in (init := 1000000) (R := R) (v := fun e => dst (p f) (p e) + gw p m (rm R e) e) m with h | ⟨e, q1, q2, q3⟩
      · rw [h] at c1 ⊢
        omega
      · have := hv e q1 q2
        rw [q3]
        exact this
theorem gw_400 {p : Nat → Int} {m : Nat} (hm : m ≤ 9) (hp : ∀ e, e < m → pl (p e)) {R f : Nat} (hR : R < 2 ^ m) (hf : f < m) : 0 ≤ gw p m R f ∧ gw p m R f ≤ 380 := by
  have h1 := gw_b hp R R f (Nat.le_refl R) hR hf
  have h2 := cntb_le R m
  omega
theorem ex_bit {R m : Nat} (h0 : 0 < R) (hR : R < 2 ^ m) : ∃ e, e < m ∧ R.testBit e = true := by
  apply Classical.byContradiction
  intro hno
  have : R = 0 := by
    apply Nat.eq_of_testBit_eq
    intro j
    rw [Nat.zero_testBit]
    cases hj : R.testBit j
    · rfl
    · exact absurd ⟨j, mask_bit hR hj, hj⟩ hno
  omega
theorem pow9 {m : Nat} (hm : m ≤ 9) : 2 ^ m ≤ 512 := Nat.pow_le_pow_right (n := 2) (by omega) hm
theorem xor_bit {S f : Nat} (h : S.testBit f = true) : S ^^^ 2 ^ f = rm S f := by
  apply Nat.eq_of_testBit_eq
  intro j
  rw [Nat.testBit_xor, Nat.testBit_two_pow, rm_bit]
  by_cases q : f = j
  · subst q; simp [h]
  · simp [q]
theorem bxor_nat {a b : Nat} (ha : a < 2 ^ 31) (hb : b < 2 ^ 31) : bxor (a : Int) (b : Int) = ((a ^^^ b : Nat) : Int) := by
  have hab : a ^^^ b < 2 ^ 31 := Nat.xor_lt_two_pow ha hb
  unfold bxor
  rw [ofInt_nat, ofInt_nat]
  have e : nI a ^^^ nI b = nI (a ^^^ b) := by
    apply Int32.toBitVec_inj.mp
    apply BitVec.eq_of_toNat_eq
    rw [Int32.toBitVec_xor, BitVec.toNat_xor, pk_tn (by omega), pk_tn (by omega), pk_tn (by omega)]
  rw [e, nI_toInt hab]
/-! wayHome -/
theorem l_X6_wayHome {Q : Int → Me → Prop} {M : Me} {p : Nat → Int} {m f R : Nat} (hm : m ≤ 9) (hp : ∀ e, e < m → pl (p e)) (hsp : ∀ e : Nat, e < m → M 64 (e : Int) = p e) (hf : f < m) (h0 : 0 < R) (hR : R < 2 ^ m) (hT : ∀ e : Nat, e < m → R.testBit e = true → M 62 (9 * (R : Int) + e) = gw p m (rm R e) e) (hQ : Q (gw p m R f) M) :
    ∀ (k e : Nat) (x : Int), e + k = m → x = mnI 1000000 R (fun e => dst (p f) (p e) + gw p m (rm R e) e) e → Go (km 2 mX6_wayHome Q) 30 [some (.inr 61), none, some (.inl (f : Int)), some (.inl (m : Int)), some (.inl (R : Int)), some (.inl x), some (.inl (e : Int)), none] [] M := by
  have h9 := pow9 hm
  intro k
  induction k with
  | zero =>
    intro e x he hx
    have : e = m := by omega
    subst this
    rw [← gw_S p e f h0] at hx
    exact s_X6_wayHome_30 f e R x e M ⟨fun _ => by rw [hx]; exact hQ, fun v => by exfalso; omega⟩
  | succ k ih =>
    intro e x he hx
    have hem : e < m := by omega
    have hstep : mnI 1000000 R (fun e => dst (p f) (p e) + gw p m (rm R e) e) (e + 1) = if R.testBit e = true then min (mnI 1000000 R (fun e => dst (p f) (p e) + gw p m (rm R e) e) e) (dst (p f) (p e) + gw p m (rm R e) e) else mnI 1000000 R (fun e => dst (p f) (p e) + gw p m (rm R e) e) e := rfl
    refine s_X6_wayHome_30 f m R x e M ?_
    rw [hsp f hf, hsp e hem]
    have pf := hp f hf
    have pe := hp e hem
    have hd := dst_b pf pe
    unfold pl at pf pe
    refine ⟨fun v => by exfalso; omega, fun _ => ⟨fun v => ⟨by unfold cn; omega, ?_⟩, fun v => ?_⟩⟩
    · have hb : ¬ R.testBit e = true := fun q => v ((has_iff (by omega) (by omega)).mpr q)
      refine ih (e + 1) x (by omega) ?_
      rw [hstep, if_neg hb]; exact hx
    · have hb := (has_iff (by omega) (by omega)).mp v
      rw [hT e hem hb]
      have hlt := rm_lt hb
      have h2 := gw_400 hm hp (R := rm R e) (f := e) (by omega) hem
      refine ⟨by omega, by omega, by omega, by omega, by unfold cn; omega, by unfold cn; omega, by omega, by unfold cn; omega, by unfold cn; omega, ih (e + 1) _ (by omega) ?_⟩
      rw [hstep, if_pos hb, hx]
theorem p_X6_wayHome {Q : Int → Me → Prop} {M : Me} {p : Nat → Int} {m f S : Nat} (hm : m ≤ 9) (hp : ∀ e, e < m → pl (p e)) (hsp : ∀ e : Nat, e < m → M 64 (e : Int) = p e) (hf : f < m) (hS : S < 2 ^ m) (hb : S.testBit f = true) (hT : ∀ e : Nat, e < m → (rm S f).testBit e = true → M 62 (9 * ((rm S f : Nat) : Int) + e) = gw p m (rm (rm S f) e) e) (hQ : Q (gw p m (rm S f) f) M) : Calls 2 mX6_wayHome [.inr 61, .inl (S : Int), .inl (f : Int), .inl (m : Int)] M Q := by
  have h9 := pow9 hm
  have hlt := rm_lt hb
  have h2f : 2 ^ f < 2 ^ m := Nat.pow_lt_pow_right (by omega) hf
  have pf := hp f hf
  unfold pl at pf
  refine e_X6_wayHome ?_
  rw [bshl_nat (by omega), bxor_nat (by omega) (by omega), xor_bit hb]
  refine ⟨fun v => l_X6_wayHome hm hp hsp hf (by omega) (by omega) hT hQ m 0 _ (by omega) rfl, fun v => ⟨by omega, by rw [hsp f hf]; omega, by omega, ?_⟩⟩
  have e0 : rm S f = 0 := by omega
  rw [e0, gw_0] at hQ
  rw [hsp f hf]
  exact hQ
