/-- how often a letter goes about -/
def hvS (st f s : Int → Int) (L c acc : Int) : Int := if st c = 2 then acc + ((if f c = L then 1 else 0) + (if s c = L then 1 else 0)) else acc
theorem hvS_pos {st f s : Int → Int} {L c acc : Int} (h : st c = 2) : hvS st f s L c acc = acc + ((if f c = L then 1 else 0) + (if s c = L then 1 else 0)) := if_pos h
theorem hvS_neg {st f s : Int → Int} {L c acc : Int} (h : ¬ st c = 2) : hvS st f s L c acc = acc := if_neg h
theorem hv_bound (st f s : Int → Int) (L : Int) : ∀ (k : Nat) (c acc : Int), acc ≤ iter (hvS st f s L) k c acc ∧ iter (hvS st f s L) k c acc ≤ acc + 2 * k
  | 0, c, acc => by simp only [iter]; omega
  | k + 1, c, acc => by
    simp only [iter]
    have := hv_bound st f s L k (c + 1) (hvS st f s L c acc)
    have h2 : acc ≤ hvS st f s L c acc ∧ hvS st f s L c acc ≤ acc + 2 := by
      unfold hvS
      split
      · split <;> split <;> omega
      · omega
    omega
theorem iter_succ {α : Type} (f : Int → α → α) : ∀ (k : Nat) (c : Int) (a : α), iter f (k + 1) c a = f (c + k) (iter f k c a)
  | 0, c, a => by simp [iter]
  | k + 1, c, a => by
    have := iter_succ f k (c + 1) (f c a)
    simp only [iter] at this ⊢
    rw [this]
    congr 1
    omega
theorem bit1 {f L : Int} (h0 : 0 ≤ f ∧ f < 16) (h1 : 0 ≤ L ∧ L < 16) : band (bshr (bshl 1 f) L) 1 = if f = L then 1 else 0 := by
  obtain ⟨a, rfl⟩ : ∃ a : Nat, f = a := ⟨f.toNat, by omega⟩
  obtain ⟨b, rfl⟩ : ∃ b : Nat, L = b := ⟨L.toNat, by omega⟩
  have ha := pow16 (n := a) (by omega)
  rw [bshl_nat (by omega), has_nat (by omega) (by omega), Nat.testBit_two_pow]
  by_cases h : a = b
  · subst h; simp
  · rw [if_neg (by simpa using h), if_neg (by omega)]
theorem bit2 {f s L : Int} (h0 : 0 ≤ f ∧ f < 16) (h2 : 0 ≤ s ∧ s < 16) (hne : s ≠ f) (h1 : 0 ≤ L ∧ L < 16) : band (bshr (bor (bshl 1 f) (bshl 1 s)) L) 1 = (if f = L then 1 else 0) + (if s = L then 1 else 0) := by
  obtain ⟨a, rfl⟩ : ∃ a : Nat, f = a := ⟨f.toNat, by omega⟩
  obtain ⟨b, rfl⟩ : ∃ b : Nat, L = b := ⟨L.toNat, by omega⟩
  obtain ⟨d, rfl⟩ : ∃ d : Nat, s = d := ⟨s.toNat, by omega⟩
  have ha := pow16 (n := a) (by omega)
  have hd := pow16 (n := d) (by omega)
  rw [bshl_nat (by omega), bshl_nat (by omega), bor_nat (by omega) (by omega), has_nat (Nat.or_lt_two_pow (by omega) (by omega)) (by omega), Nat.testBit_or, Nat.testBit_two_pow, Nat.testBit_two_pow]
  by_cases h : a = b
  · have : ¬ d = b := by omega
    subst h
    simp [this]
    omega
  · by_cases h' : d = b
    · subst h'
      simp [h]
      omega
    · simp [h, h']
      omega
def Fs67 (M M' : Me) : Prop := ∀ k i, k ≠ 67 → M' k i = M k i
theorem l_X7_stock_18 {Q : Int → Me → Prop} {M0 : Me} {n L : Int} (hn : n = M0 3 8) (h16 : n ≤ 16) (hr : ∀ c, 0 ≤ c → c < n → (0 ≤ M0 5 c ∧ M0 5 c < 16) ∧ M0 6 c < 16 ∧ M0 6 c ≠ M0 5 c) (hL : 0 ≤ L ∧ L < 16)
    (hk : ∀ M, Fs67 M0 M → (∀ j, 0 ≤ j → j < L + 1 → M 67 j = iter (hvS (M0 38) (M0 5) (M0 6) j) n.toNat 0 0) → Go (km 1 mX7_stock Q) 2 [some (.inr 66), some (.inr 3), some (.inr 37), some (.inl (L + 1)), none] [] M) :
    ∀ (k : Nat) (c : Nat) (M : Me), (c : Int) + k = n → Fs67 M0 M → (∀ j, 0 ≤ j → j < L → M 67 j = iter (hvS (M0 38) (M0 5) (M0 6) j) n.toNat 0 0) → M 67 L = iter (hvS (M0 38) (M0 5) (M0 6) L) c 0 0 → Go (km 1 mX7_stock Q) 18 [some (.inr 66), some (.inr 3), some (.inr 37), some (.inl L), some (.inl (c : Int))] [] M := by
  intro k
  induction k with
  | zero =>
    intro c M hc f hj hl
    have e38 := f 3 8 (by decide)
    refine s_X7_stock_18 L c M ?_
    rw [e38]
    refine ⟨fun _ => ⟨by unfold cn; omega, hk M f (fun j a b => ?_)⟩, fun v => by exfalso; omega⟩
    by_cases e : j = L
    · subst e; rw [hl]; congr 1; omega
    · exact hj j a (by omega)
  | succ k ih =>
    intro c M hc f hj hl
    have e38 := f 3 8 (by decide)
    have es := f 38 c (by decide)
    have e5 := f 5 c (by decide)
    have e6 := f 6 c (by decide)
    obtain ⟨r1, r2, r3⟩ := hr c (by omega) (by omega)
    have hb := hv_bound (M0 38) (M0 5) (M0 6) L c 0 0
    have hstep := iter_succ (hvS (M0 38) (M0 5) (M0 6) L) c 0 0
    rw [Int.zero_add] at hstep
    have up : ∀ v, M 67 L + v = iter (hvS (M0 38) (M0 5) (M0 6) L) (c + 1) 0 0 → Go (km 1 mX7_stock Q) 18 [some (.inr 66), some (.inr 3), some (.inr 37), some (.inl L), some (.inl ((c : Int) + 1))] [] (mput M 67 L (M 67 L + v)) := fun v hv => by
      refine ih (c + 1) _ (by omega) (fun k i h => (mput_ne _ _ _ _ h).trans (f k i h)) (fun j a b => ?_) ?_
      · rw [mput_ni _ _ _ _ (by omega)]; exact hj j a b
      · rw [mput_same]; exact hv
    refine s_X7_stock_18 L c M ?_
    simp only [Nat.reduceAdd]
    rw [e38, es, e5, e6]
    refine ⟨fun v => by exfalso; omega, fun _ => ⟨by omega, fun v => ⟨by unfold cn; omega, ?_⟩, fun v => ⟨by omega, by omega, fun v2 => ?_, fun v2 => ?_⟩⟩⟩
    · refine ih (c + 1) M (by omega) f hj ?_
      rw [hstep, hl, hvS_neg v]
    · rw [bit2 r1 ⟨v2, r2⟩ r3 hL]
      have q : M 67 L + ((if M0 5 c = L then 1 else 0) + (if M0 6 c = L then 1 else 0)) = iter (hvS (M0 38) (M0 5) (M0 6) L) (c + 1) 0 0 := by
        rw [hstep, hl, hvS_pos v]
      refine ⟨?_, by omega, by unfold cn; omega, up _ q⟩
      rw [hl]
      unfold cn
      split <;> split <;> omega
    · rw [bit1 r1 hL]
      have q : M 67 L + (if M0 5 c = L then 1 else 0) = iter (hvS (M0 38) (M0 5) (M0 6) L) (c + 1) 0 0 := by
        rw [hstep, hl, hvS_pos v, if_neg (show ¬ M0 6 c = L by omega)]
        omega
      refine ⟨?_, by omega, by unfold cn; omega, up _ q⟩
      rw [hl]
      unfold cn
      split <;> omega
theorem l_X7_stock_2 {Q : Int → Me → Prop} {M0 : Me} {n : Int} (hn : n = M0 3 8) (h0 : 0 ≤ n) (h16 : n ≤ 16) (hr : ∀ c, 0 ≤ c → c < n → (0 ≤ M0 5 c ∧ M0 5 c < 16) ∧ M0 6 c < 16 ∧ M0 6 c ≠ M0 5 c)
    (hQ : ∀ M, Fs67 M0 M → (∀ j, 0 ≤ j → j < 16 → M 67 j = iter (hvS (M0 38) (M0 5) (M0 6) j) n.toNat 0 0) → Q 0 M) :
    ∀ (k : Nat) (L : Int) (M : Me), 0 ≤ L → L + k = 16 → Fs67 M0 M → (∀ j, 0 ≤ j → j < L → M 67 j = iter (hvS (M0 38) (M0 5) (M0 6) j) n.toNat 0 0) → Go (km 1 mX7_stock Q) 2 [some (.inr 66), some (.inr 3), some (.inr 37), some (.inl L), none] [] M := by
  intro k
  induction k with
  | zero => intro L M l0 hL f hj; exact s_X7_stock_2 L M ⟨fun _ => hQ M f (fun j a b => hj j a (by omega)), fun v => by exfalso; omega⟩
  | succ k ih =>
    intro L M l0 hL f hj
    refine s_X7_stock_2 L M ⟨fun v => by exfalso; omega, fun _ => ⟨by omega, ?_⟩⟩
    refine l_X7_stock_18 hn h16 hr (by omega) (fun M' f' hj' => ih (L + 1) M' (by omega) (by omega) f' hj') n.toNat 0 _ (by omega) (fun k i h => (mput_ne _ _ _ _ h).trans (f k i h)) (fun j a b => ?_) (mput_same _ _ _ _)
    rw [mput_ni _ _ _ _ (by omega)]
    exact hj j a b
theorem p_X7_stock {Q : Int → Me → Prop} {M : Me} (h0 : 0 ≤ M 3 8) (h16 : M 3 8 ≤ 16) (hr : ∀ c, 0 ≤ c → c < M 3 8 → (0 ≤ M 5 c ∧ M 5 c < 16) ∧ M 6 c < 16 ∧ M 6 c ≠ M 5 c)
    (hQ : ∀ M', Fs67 M M' → (∀ j, 0 ≤ j → j < 16 → M' 67 j = iter (hvS (M 38) (M 5) (M 6) j) (M 3 8).toNat 0 0) → Q 0 M') : Calls 1 mX7_stock [.inr 66, .inr 3, .inr 37] M Q :=
  e_X7_stock (l_X7_stock_2 rfl h0 h16 hr hQ 16 0 M (by omega) (by omega) (fun _ _ _ => rfl) (fun j a b => by omega))
/-! counts of the reference -/
def Fs114 (M M' : Me) : Prop := ∀ k i, k ≠ 114 → M' k i = M k i
theorem l_X12_counts_23 {Q : Int → Me → Prop} {M0 : Me} {n : Int} (hn : n = M0 76 11) (h16 : n ≤ 16) (hr : ∀ c, 0 ≤ c → c < n → (0 ≤ M0 81 c ∧ M0 81 c < 16) ∧ M0 82 c < 16 ∧ M0 82 c ≠ M0 81 c)
    (hQ : ∀ M, Fs114 M0 M → (∀ j, 0 ≤ j → j < 16 → M 114 j = iter (hvS (M0 77) (M0 81) (M0 82) j) n.toNat 0 0) → Q 0 M) :
    ∀ (k : Nat) (c : Nat) (M : Me), (c : Int) + k = n → Fs114 M0 M → (∀ j, 0 ≤ j → j < 16 → M 114 j = iter (hvS (M0 77) (M0 81) (M0 82) j) c 0 0) → Go (km 0 mX12_counts Q) 23 [some (.inr 76), some (.inl (c : Int))] [] M := by
  intro k
  induction k with
  | zero =>
    intro c M hc f hj
    have e11 := f 76 11 (by decide)
    refine s_X12_counts_23 c M ?_
    rw [e11]
    refine ⟨fun _ => hQ M f (fun j a b => ?_), fun v => by exfalso; omega⟩
    rw [hj j a b]
    congr 1
    omega
  | succ k ih =>
    intro c M hc f hj
    have e11 := f 76 11 (by decide)
    have es := f 77 (0 + c) (by decide)
    rw [Int.zero_add] at es
    have e5 := f 81 c (by decide)
    have e6 := f 82 c (by decide)
    obtain ⟨r1, r2, r3⟩ := hr c (by omega) (by omega)
    have hstep : ∀ L, iter (hvS (M0 77) (M0 81) (M0 82) L) (c + 1) 0 0 = hvS (M0 77) (M0 81) (M0 82) L c (iter (hvS (M0 77) (M0 81) (M0 82) L) c 0 0) := fun L => by
      have := iter_succ (hvS (M0 77) (M0 81) (M0 82) L) c 0 0
      rw [Int.zero_add] at this
      exact this
    have hb : ∀ L, 0 ≤ iter (hvS (M0 77) (M0 81) (M0 82) L) c 0 0 ∧ iter (hvS (M0 77) (M0 81) (M0 82) L) c 0 0 ≤ 32 := fun L => by
      have := hv_bound (M0 77) (M0 81) (M0 82) L c 0 0
      omega
    have b5 := hj (M0 81 c) r1.1 r1.2
    have g5 := hb (M0 81 c)
    refine s_X12_counts_23 c M ?_
    rw [e11, e5, e6]
    simp only [Int.zero_add]
    have es' : M 77 (c : Int) = M0 77 (c : Int) := f 77 c (by decide)
    rw [es']
    refine ⟨fun v => by exfalso; omega, fun _ => ⟨by unfold cn; omega, by omega, fun v => ⟨by omega, by omega, r1, by unfold cn; omega, r1, by omega, fun v2 => ⟨by unfold cn; omega, ?_⟩, fun v2 => ⟨by omega, by omega, ⟨v2, r2⟩, ?_, ⟨v2, r2⟩, by unfold cn; omega, ?_⟩⟩, fun v => ⟨by unfold cn; omega, ?_⟩⟩⟩
    · refine ih (c + 1) _ (by omega) (fun k i h => (mput_ne _ _ _ _ h).trans (f k i h)) (fun j a b => ?_)
      rw [hstep j, hvS_pos v, if_neg (show ¬ M0 82 c = j by omega)]
      by_cases q : j = M0 81 c
      · subst q; rw [mput_same, if_pos rfl, b5]; omega
      · rw [mput_ni _ _ _ _ q, if_neg (fun z => q z.symm), hj j a b]; omega
    · rw [mput_ni _ _ _ _ r3, hj _ v2 r2]
      have := hb (M0 82 c)
      unfold cn
      omega
    · refine ih (c + 1) _ (by omega) (fun k i h => (mput_ne _ _ _ _ h).trans ((mput_ne _ _ _ _ h).trans (f k i h))) (fun j a b => ?_)
      rw [hstep j, hvS_pos v]
      by_cases q : j = M0 82 c
      · subst q
        rw [mput_same, mput_ni _ _ _ _ r3, if_neg (show ¬ M0 81 c = M0 82 c from fun z => r3 z.symm), if_pos rfl, hj _ v2 r2]
        omega
      · rw [mput_ni _ _ _ _ q, if_neg (show ¬ M0 82 c = j from fun z => q z.symm)]
        by_cases q2 : j = M0 81 c
        · subst q2; rw [mput_same, if_pos rfl, b5]; omega
        · rw [mput_ni _ _ _ _ q2, if_neg (show ¬ M0 81 c = j from fun z => q2 z.symm), hj j a b]; omega
    · refine ih (c + 1) M (by omega) f (fun j a b => ?_)
      rw [hstep j, hj j a b, hvS_neg v]
theorem l_X12_counts_2 {Q : Int → Me → Prop} {M0 : Me} (h : ∀ M, Fs114 M0 M → (∀ j, 0 ≤ j → j < 16 → M 114 j = 0) → Go (km 0 mX12_counts Q) 23 [some (.inr 76), some (.inl 0)] [] M) : ∀ (k : Nat) (i : Int) (M : Me), 0 ≤ i → i + k = 16 → Fs114 M0 M → (∀ j, 0 ≤ j → j < i → M 114 j = 0) → Go (km 0 mX12_counts Q) 2 [some (.inr 76), some (.inl i)] [] M := by
  intro k
  induction k with
  | zero => intro i M i0 ik f hz; exact s_X12_counts_2 i M ⟨fun _ => h M f (fun j a b => hz j a (by omega)), fun v => by exfalso; omega⟩
  | succ k ih =>
    intro i M i0 ik f hz
    refine s_X12_counts_2 i M ⟨fun v => by exfalso; omega, fun _ => ⟨by omega, by unfold cn; omega, ?_⟩⟩
    refine ih (i + 1) _ (by omega) (by omega) (fun k i h => (mput_ne _ _ _ _ h).trans (f k i h)) (fun j a b => ?_)
    by_cases q : j = i
    · subst q; exact mput_same _ _ _ _
    · rw [mput_ni _ _ _ _ q]; exact hz j a (by omega)
theorem p_X12_counts {Q : Int → Me → Prop} {M : Me} (h0 : 0 ≤ M 76 11) (h16 : M 76 11 ≤ 16) (hr : ∀ c, 0 ≤ c → c < M 76 11 → (0 ≤ M 81 c ∧ M 81 c < 16) ∧ M 82 c < 16 ∧ M 82 c ≠ M 81 c)
    (hQ : ∀ M', Fs114 M M' → (∀ j, 0 ≤ j → j < 16 → M' 114 j = iter (hvS (M 77) (M 81) (M 82) j) (M 76 11).toNat 0 0) → Q 0 M') : Calls 0 mX12_counts [.inr 76] M Q :=
  e_X12_counts (l_X12_counts_2 (fun M1 f1 z1 => l_X12_counts_23 rfl h16 hr hQ (M 76 11).toNat 0 M1 (by omega) f1 (fun j a b => z1 j a b)) 16 0 M (by omega) (by omega) (fun _ _ _ => rfl) (fun j a b => by omega))
