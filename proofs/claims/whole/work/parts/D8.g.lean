set_option maxRecDepth 20000 in
theorem s_J0_length_8abf5_0 {Q : Int → Me → Prop}  (M : Me) (h :
    Q (bshr 11 0) M) :
    Go (km 1 mJ0_length_8abf5 Q) 0 [some (.inr 1001)] [] M := by
  refine a_aload_n (pc := 0) dJ0_length_8abf5_0 rfl ?_
  refine a_getSv (pc := 1) dJ0_length_8abf5_1 rfl ?_
  refine a_alenS (pc := 4) dJ0_length_8abf5_4 ?_
  refine a_aload_n (pc := 5) dJ0_length_8abf5_5 rfl ?_
  refine a_callVs (pc := 6) (d := 0) (st := [.inl 11]) [] dJ0_length_8abf5_6 l_J0_335 in_J0_coder_7d493 se_J0_coder_7d493 rfl rfl ⟨Nat.le_of_ble_eq_true rfl, Nat.le_of_ble_eq_true rfl⟩ ⟨Nat.le_of_ble_eq_true rfl, Nat.le_of_ble_eq_true rfl⟩ (Nat.le_of_ble_eq_true rfl) ?_
  refine p_coder ?_
  refine a_ishr (pc := 9) dJ0_length_8abf5_9 ?_
  exact a_iretI (pc := 10) dJ0_length_8abf5_10 rfl h
set_option maxRecDepth 20000 in
theorem e_J0_length_8abf5 {Q : Int → Me → Prop}  {M : Me} (h :
    Q (bshr 11 0) M) : Calls 1 mJ0_length_8abf5 [.inr 1001] M Q := Calls.of (by decide) (Nat.le_of_ble_eq_true rfl) (s_J0_length_8abf5_0   M h)
set_option maxRecDepth 20000 in
theorem s_J1_indexOfChar_4cfef_0 {Q : Int → Me → Prop}  (a b c : Int) (M : Me) (h :
    Go (km 0 mJ1_indexOfChar_4cfef Q) 7 [some (.inr 1002), none, none, some (.inl c), some (.inl (bbyt a)), some (.inl b)] [] M) :
    Go (km 0 mJ1_indexOfChar_4cfef Q) 0 [some (.inr 1002), some (.inl a), some (.inl b), some (.inl c), none, none] [] M := by
  refine a_iload_n (pc := 0) dJ1_indexOfChar_4cfef_0 rfl ?_
  refine a_i2b (pc := 1) dJ1_indexOfChar_4cfef_1 ?_
  refine a_istore (pc := 2) dJ1_indexOfChar_4cfef_2 (Nat.le_of_ble_eq_true rfl) ?_
  refine a_iload_n (pc := 4) dJ1_indexOfChar_4cfef_4 rfl ?_
  refine a_istore (pc := 5) dJ1_indexOfChar_4cfef_5 (Nat.le_of_ble_eq_true rfl) ?_
  exact Go.weak h (And.intro rfl (And.intro rfl (And.intro rfl (And.intro rfl True.intro))))
set_option maxRecDepth 20000 in
theorem e_J1_indexOfChar_4cfef {Q : Int → Me → Prop}  {a b c : Int} {M : Me} (h :
    Go (km 0 mJ1_indexOfChar_4cfef Q) 7 [some (.inr 1002), none, none, some (.inl c), some (.inl (bbyt a)), some (.inl b)] [] M) : Calls 0 mJ1_indexOfChar_4cfef [.inr 1002, .inl a, .inl b, .inl c] M Q := Calls.of (by decide) (Nat.le_of_ble_eq_true rfl) (s_J1_indexOfChar_4cfef_0  a b c M h)
set_option maxRecDepth 20000 in
theorem s_J1_indexOfChar_4cfef_7 {Q : Int → Me → Prop}  (x3 x4 x5 : Int) (M : Me) (h :
    ((x3 ≤ x5 →
    Q (-1) M) ∧ (x5 < x3 →
    (0 ≤ x5 ∧ x5 < 11) ∧
    ((sb x5 ≠ x4 →
    cn (x5 + 1) ∧
    Go (km 0 mJ1_indexOfChar_4cfef Q) 7 [some (.inr 1002), none, none, some (.inl x3), some (.inl x4), some (.inl (x5 + 1))] [] M) ∧ (sb x5 = x4 →
    Q x5 M))))) :
    Go (km 0 mJ1_indexOfChar_4cfef Q) 7 [some (.inr 1002), none, none, some (.inl x3), some (.inl x4), some (.inl x5)] [] M := by
  refine a_iload (pc := 7) dJ1_indexOfChar_4cfef_7 rfl ?_
  refine a_iload_n (pc := 9) dJ1_indexOfChar_4cfef_9 rfl ?_
  refine a_icmp_ge (pc := 10) 31 dJ1_indexOfChar_4cfef_10 rfl ⟨fun hc => ?_, fun hc => ?_⟩
  · replace h := h.1 hc
    refine a_iconst (pc := 31) dJ1_indexOfChar_4cfef_31 (cnb rfl) ?_
    exact a_iretI (pc := 32) dJ1_indexOfChar_4cfef_32 rfl h
  · replace h := h.2 hc
    refine a_aload_n (pc := 13) dJ1_indexOfChar_4cfef_13 rfl ?_
    refine a_iload (pc := 14) dJ1_indexOfChar_4cfef_14 rfl ?_
    refine a_baldS (pc := 16) dJ1_indexOfChar_4cfef_16 h.1.1 h.1.2 ?_
    replace h := h.2
    refine a_iload (pc := 17) dJ1_indexOfChar_4cfef_17 rfl ?_
    refine a_icmp_ne (pc := 19) 25 dJ1_indexOfChar_4cfef_19 rfl ⟨fun hc => ?_, fun hc => ?_⟩
    · replace h := h.1 hc
      refine a_iinc (pc := 25) dJ1_indexOfChar_4cfef_25 rfl h.1 (Nat.le_of_ble_eq_true rfl) ?_
      replace h := h.2
      refine a_goto (pc := 28) 7 dJ1_indexOfChar_4cfef_28 rfl ?_
      exact h
    · replace h := h.2 hc
      refine a_iload (pc := 22) dJ1_indexOfChar_4cfef_22 rfl ?_
      exact a_iretI (pc := 24) dJ1_indexOfChar_4cfef_24 rfl h
