def dst (a b : Int) : Int := max (a % 24 - b % 24) (-(a % 24 - b % 24)) + max (a / 24 - b / 24) (-(a / 24 - b / 24))
def sd (a b c : Int) : Int := (b % 24 - a % 24) * (c / 24 - a / 24) - (b / 24 - a / 24) * (c % 24 - a % 24)
def pl (a : Int) : Prop := 0 ≤ a ∧ a < 384
theorem p_X11_isSpan {a : Int} {M : Me} {Q : Int → Me → Prop} (h : (1 ≤ a ∧ a ≤ 100 → Q 1 M) ∧ (¬ (1 ≤ a ∧ a ≤ 100) → Q 0 M)) : Calls 0 mX11_isSpan [.inl a] M Q :=
  Calls.of (by decide) (Nat.le_of_ble_eq_true rfl) (s_X11_isSpan_0 a M ⟨fun _ => h.2 (by omega), fun _ => ⟨fun _ => h.2 (by omega), fun _ => h.1 (by omega)⟩⟩)
theorem p_X11_isAcross {a : Int} {M : Me} {Q : Int → Me → Prop} (h : (0 ≤ a ∧ a < 24 → Q 1 M) ∧ (¬ (0 ≤ a ∧ a < 24) → Q 0 M)) : Calls 0 mX11_isAcross [.inl a] M Q :=
  Calls.of (by decide) (Nat.le_of_ble_eq_true rfl) (s_X11_isAcross_0 a M ⟨fun _ => h.2 (by omega), fun _ => ⟨fun _ => h.2 (by omega), fun _ => h.1 (by omega)⟩⟩)
theorem p_X11_isAlong {a : Int} {M : Me} {Q : Int → Me → Prop} (h : (0 ≤ a ∧ a < 16 → Q 1 M) ∧ (¬ (0 ≤ a ∧ a < 16) → Q 0 M)) : Calls 0 mX11_isAlong [.inl a] M Q :=
  Calls.of (by decide) (Nat.le_of_ble_eq_true rfl) (s_X11_isAlong_0 a M ⟨fun _ => h.2 (by omega), fun _ => ⟨fun _ => h.2 (by omega), fun _ => h.1 (by omega)⟩⟩)
theorem p_X11_isDigit {a : Int} {M : Me} {Q : Int → Me → Prop} (h : (48 ≤ a ∧ a ≤ 57 → Q 1 M) ∧ (¬ (48 ≤ a ∧ a ≤ 57) → Q 0 M)) : Calls 0 mX11_isDigit [.inl a] M Q :=
  Calls.of (by decide) (Nat.le_of_ble_eq_true rfl) (s_X11_isDigit_0 a M ⟨fun _ => h.2 (by omega), fun _ => ⟨fun _ => h.2 (by omega), fun _ => h.1 (by omega)⟩⟩)
theorem p_X0_isLetter {a : Int} {M : Me} {Q : Int → Me → Prop} (h : (65 ≤ a ∧ a < 81 → Q 1 M) ∧ (¬ (65 ≤ a ∧ a < 81) → Q 0 M)) : Calls 0 mX0_isLetter [.inl a] M Q :=
  Calls.of (by decide) (Nat.le_of_ble_eq_true rfl) (s_X0_isLetter_0 a M ⟨fun _ => h.2 (by omega), fun _ => ⟨fun _ => h.2 (by omega), fun _ => h.1 (by omega)⟩⟩)
theorem p_X11_isCut {a : Int} {M : Me} {Q : Int → Me → Prop} (h : (0 ≤ a ∧ a < M 3 8 → Q 1 M) ∧ (¬ (0 ≤ a ∧ a < M 3 8) → Q 0 M)) : Calls 0 mX11_isCut [.inr 0, .inl a] M Q :=
  Calls.of (by decide) (Nat.le_of_ble_eq_true rfl) (s_X11_isCut_0 a M ⟨fun _ => h.2 (by omega), fun _ => ⟨fun _ => h.2 (by omega), fun _ => h.1 (by omega)⟩⟩)
theorem p_X12_in {a b c : Int} {M : Me} {Q : Int → Me → Prop} (h : (b ≤ a ∧ a ≤ c → Q 1 M) ∧ (¬ (b ≤ a ∧ a ≤ c) → Q 0 M)) : Calls 0 mX12_in [.inl a, .inl b, .inl c] M Q :=
  Calls.of (by decide) (Nat.le_of_ble_eq_true rfl) (s_X12_in_0 a b c M ⟨fun _ => h.2 (by omega), fun _ => ⟨fun _ => h.2 (by omega), fun _ => h.1 (by omega)⟩⟩)
theorem p_X12_min {a b : Int} {M : Me} {Q : Int → Me → Prop} (h : Q (min a b) M) : Calls 0 mX12_min [.inl a, .inl b] M Q :=
  Calls.of (by decide) (Nat.le_of_ble_eq_true rfl) (s_X12_min_0 a b M ⟨fun _ => by rw [Int.min_eq_right (by omega)] at h; exact h, fun _ => by rw [Int.min_eq_left (by omega)] at h; exact h⟩)
theorem p_X12_max {a b : Int} {M : Me} {Q : Int → Me → Prop} (h : Q (max a b) M) : Calls 0 mX12_max [.inl a, .inl b] M Q :=
  Calls.of (by decide) (Nat.le_of_ble_eq_true rfl) (s_X12_max_0 a b M ⟨fun _ => by rw [Int.max_eq_right (by omega)] at h; exact h, fun _ => by rw [Int.max_eq_left (by omega)] at h; exact h⟩)
theorem p_X12_size {a : Int} {M : Me} {Q : Int → Me → Prop} (hc : cn (-a)) (h : Q (max a (-a)) M) : Calls 0 mX12_size [.inl a] M Q :=
  Calls.of (by decide) (Nat.le_of_ble_eq_true rfl) (s_X12_size_0 a M ⟨fun _ => by rw [Int.max_eq_left (by omega)] at h; exact h, fun _ => ⟨hc, by rw [Int.max_eq_right (by omega)] at h; exact h⟩⟩)
theorem p_X12_has {a b : Int} {M : Me} {Q : Int → Me → Prop} (h : (band (bshr a b) 1 = 1 → Q 1 M) ∧ (¬ band (bshr a b) 1 = 1 → Q 0 M)) : Calls 0 mX12_has [.inl a, .inl b] M Q :=
  Calls.of (by decide) (Nat.le_of_ble_eq_true rfl) (s_X12_has_0 a b M ⟨fun q => h.2 q, fun q => h.1 q⟩)
theorem p_X11_steps {a b : Int} {M : Me} {Q : Int → Me → Prop} (ha : 0 ≤ a) (hb : 0 ≤ b) (h : Q (dst a b) M) : Calls 1 mX11_steps [.inl a, .inl b] M Q := by
  refine Calls.known (fun _ hs => ?_)
  have ca := hs.hd
  have cb := hs.tl.hd
  unfold cn at ca cb
  refine Calls.of (by decide) (Nat.le_of_ble_eq_true rfl) (s_X11_steps_0 a b M ?_)
  refine ⟨ha, hb, ?_, ?_, ha, hb, ?_, ?_, ?_, h⟩ <;> (unfold cn; omega)
theorem sd_cn {a b c : Int} (ha : pl a) (hb : pl b) (hc : pl c) : -400 ≤ (b % 24 - a % 24) * (c / 24 - a / 24) ∧ (b % 24 - a % 24) * (c / 24 - a / 24) ≤ 400 ∧ -400 ≤ (b / 24 - a / 24) * (c % 24 - a % 24) ∧ (b / 24 - a / 24) * (c % 24 - a % 24) ≤ 400 := by
  unfold pl at ha hb hc
  have h1 : ∀ x y : Int, -23 ≤ x → x ≤ 23 → -15 ≤ y → y ≤ 15 → -400 ≤ x * y ∧ x * y ≤ 400 := by
    intro x y a1 a2 b1 b2
    have e1 : (x + 23) * (15 - y) ≥ 0 := Int.mul_nonneg (by omega) (by omega)
    have e2 : (x + 23) * (y + 15) ≥ 0 := Int.mul_nonneg (by omega) (by omega)
    have e3 : (23 - x) * (15 - y) ≥ 0 := Int.mul_nonneg (by omega) (by omega)
    have e4 : (23 - x) * (y + 15) ≥ 0 := Int.mul_nonneg (by omega) (by omega)
    simp only [Int.mul_add, Int.add_mul, Int.sub_mul, Int.mul_sub] at e1 e2 e3 e4
    omega
  have p1 := h1 (b % 24 - a % 24) (c / 24 - a / 24) (by omega) (by omega) (by omega) (by omega)
  have p2 := h1 (c % 24 - a % 24) (b / 24 - a / 24) (by omega) (by omega) (by omega) (by omega)
  rw [Int.mul_comm (b / 24 - a / 24)]
  exact ⟨p1.1, p1.2, p2.1, p2.2⟩
theorem p_X11_side {a b c : Int} {M : Me} {Q : Int → Me → Prop} (ha : pl a) (hb : pl b) (hc : pl c) (h : Q (sd a b c) M) : Calls 0 mX11_side [.inl a, .inl b, .inl c] M Q := by
  obtain ⟨q1, q2, q3, q4⟩ := sd_cn ha hb hc
  have ha' := ha
  have hb' := hb
  have hc' := hc
  unfold pl at ha' hb' hc'
  refine Calls.of (by decide) (Nat.le_of_ble_eq_true rfl) (s_X11_side_0 a b c M ?_)
  refine ⟨by omega, by omega, ?_, by omega, by omega, ?_, by omega, by omega, ?_, ?_, by omega, by omega, ?_, ?_, ?_, h⟩ <;> (unfold cn; omega)
