set_option maxRecDepth 20000 in
theorem s_X0_digit_0 {Q : Int → Me → Prop}  (M : Me) (h :
    Calls 0 mX9_sign [.inr 1] M (fun r4 M4 =>
    ((48 ≤ r4 ∧ r4 ≤ 57 →
    cn ((M4 1 3) + 1) ∧
    cn (r4 - 48) ∧
    Q (r4 - 48) (mput M4 1 3 ((M4 1 3) + 1))) ∧ (¬ (48 ≤ r4 ∧ r4 ≤ 57) →
    Calls 0 mX9_fail [.inr 1, .inl 1, .inl (M4 1 3)] M4 (fun r27 M27 =>
    Q 0 M27))))) :
    Go (km 1 mX0_digit Q) 0 [some (.inr 12), none] [] M := by
  refine a_aload_n (pc := 0) dX0_digit_0 rfl ?_
  refine a_getr (pc := 1) dX0_digit_1 f_X0_9 rfl ?_
  refine a_callVi (pc := 4) (d := 0) (st := []) (o := 1) [] dX0_digit_4 l_X0_43 in_X9_sign se_X9_sign rfl rfl rfl ⟨Nat.le_of_ble_eq_true rfl, Nat.le_of_ble_eq_true rfl⟩ ⟨Nat.le_of_ble_eq_true rfl, Nat.le_of_ble_eq_true rfl⟩ (Nat.le_of_ble_eq_true rfl) ?_
  refine Calls.mono (fun r4 M4 hr4 hM4 h => ?_) h
  refine a_istore_n (pc := 7) dX0_digit_7 (Nat.le_of_ble_eq_true rfl) ?_
  refine a_iload_n (pc := 8) dX0_digit_8 rfl ?_
  refine a_callNi (pc := 9) (d := 0) (st := []) [.inl r4] dX0_digit_9 l_X0_47 st_X11_isDigit rfl ⟨Nat.le_of_ble_eq_true rfl, Nat.le_of_ble_eq_true rfl⟩ ⟨Nat.le_of_ble_eq_true rfl, Nat.le_of_ble_eq_true rfl⟩ (Nat.le_of_ble_eq_true rfl) ?_
  refine p_X11_isDigit ⟨fun hc => ?_, fun hc => ?_⟩
  · replace h := h.1 hc
    refine a_if_ne (pc := 12) 32 dX0_digit_12 rfl ⟨fun _ => ?_, fun hc => absurd hc (by decide)⟩
    refine a_aload_n (pc := 32) dX0_digit_32 rfl ?_
    refine a_getr (pc := 33) dX0_digit_33 f_X0_9 rfl ?_
    refine a_dup (pc := 36) dX0_digit_36 ?_
    refine a_geti (pc := 37) 3 dX0_digit_37 f_X0_51 rfl rfl ?_
    refine a_iconst (pc := 40) dX0_digit_40 (cnb rfl) ?_
    refine a_iadd (pc := 41) dX0_digit_41 h.1 ?_
    replace h := h.2
    refine a_puti (pc := 42) 3 dX0_digit_42 f_X0_51 rfl rfl (Or.inl rfl) ?_
    refine a_iload_n (pc := 45) dX0_digit_45 rfl ?_
    refine a_bipush (pc := 46) dX0_digit_46 (by decide) (cnb rfl) ?_
    refine a_isub (pc := 48) dX0_digit_48 h.1 ?_
    replace h := h.2
    exact a_iretI (pc := 49) dX0_digit_49 rfl h
  · replace h := h.2 hc
    refine a_if_ne (pc := 12) 32 dX0_digit_12 rfl ⟨fun hc => absurd hc (by decide), fun _ => ?_⟩
    refine a_aload_n (pc := 15) dX0_digit_15 rfl ?_
    refine a_getr (pc := 16) dX0_digit_16 f_X0_9 rfl ?_
    refine a_iconst (pc := 19) dX0_digit_19 (cnb rfl) ?_
    refine a_aload_n (pc := 20) dX0_digit_20 rfl ?_
    refine a_getr (pc := 21) dX0_digit_21 f_X0_9 rfl ?_
    refine a_geti (pc := 24) 3 dX0_digit_24 f_X0_51 rfl rfl ?_
    refine a_callVv (pc := 27) (d := 0) (st := []) (o := 1) [.inl 1, .inl (M4 1 3)] dX0_digit_27 l_X0_54 in_X9_fail se_X9_fail rfl rfl rfl ⟨Nat.le_of_ble_eq_true rfl, Nat.le_of_ble_eq_true rfl⟩ ⟨Nat.le_of_ble_eq_true rfl, Nat.le_of_ble_eq_true rfl⟩ (Nat.le_of_ble_eq_true rfl) ?_
    refine Calls.mono (fun r27 M27 hr27 hM27 h => ?_) h
    refine a_iconst (pc := 30) dX0_digit_30 (cnb rfl) ?_
    exact a_iretI (pc := 31) dX0_digit_31 rfl h
set_option maxRecDepth 20000 in
theorem e_X0_digit {Q : Int → Me → Prop}  {M : Me} (h :
    Calls 0 mX9_sign [.inr 1] M (fun r4 M4 =>
    ((48 ≤ r4 ∧ r4 ≤ 57 →
    cn ((M4 1 3) + 1) ∧
    cn (r4 - 48) ∧
    Q (r4 - 48) (mput M4 1 3 ((M4 1 3) + 1))) ∧ (¬ (48 ≤ r4 ∧ r4 ≤ 57) →
    Calls 0 mX9_fail [.inr 1, .inl 1, .inl (M4 1 3)] M4 (fun r27 M27 =>
    Q 0 M27))))) : Calls 1 mX0_digit [.inr 12] M Q := Calls.of (by decide) (Nat.le_of_ble_eq_true rfl) (s_X0_digit_0   M h)
set_option maxRecDepth 20000 in
theorem s_X0_number_0 {Q : Int → Me → Prop}  (a : Int) (M : Me) (h :
    Calls 1 mX0_digit [.inr 12] M (fun r9 M9 =>
    Calls 0 mX9_sign [.inr 1] M9 (fun r17 M17 =>
    ((48 ≤ r17 ∧ r17 ≤ 57 →
    cn (10 * r9) ∧
    Calls 1 mX0_digit [.inr 12] M17 (fun r31 M31 =>
    cn ((10 * r9) + r31) ∧
    Go (km 2 mX0_number Q) 36 [some (.inr 12), some (.inl a), some (.inl (M 1 3)), some (.inl ((10 * r9) + r31))] [] M31)) ∧ (¬ (48 ≤ r17 ∧ r17 ≤ 57) →
    Go (km 2 mX0_number Q) 36 [some (.inr 12), some (.inl a), some (.inl (M 1 3)), some (.inl r9)] [] M17))))) :
    Go (km 2 mX0_number Q) 0 [some (.inr 12), some (.inl a), none, none] [] M := by
  refine a_aload_n (pc := 0) dX0_number_0 rfl ?_
  refine a_getr (pc := 1) dX0_number_1 f_X0_9 rfl ?_
  refine a_geti (pc := 4) 3 dX0_number_4 f_X0_51 rfl rfl ?_
  refine a_istore_n (pc := 7) dX0_number_7 (Nat.le_of_ble_eq_true rfl) ?_
  refine a_aload_n (pc := 8) dX0_number_8 rfl ?_
  refine a_callVi (pc := 9) (d := 1) (st := []) (o := 12) [] dX0_number_9 l_X0_93 in_X0_digit se_X0_digit rfl rfl rfl ⟨Nat.le_of_ble_eq_true rfl, Nat.le_of_ble_eq_true rfl⟩ ⟨Nat.le_of_ble_eq_true rfl, Nat.le_of_ble_eq_true rfl⟩ (Nat.le_of_ble_eq_true rfl) ?_
  refine Calls.mono (fun r9 M9 hr9 hM9 h => ?_) h
  refine a_istore_n (pc := 12) dX0_number_12 (Nat.le_of_ble_eq_true rfl) ?_
  refine a_aload_n (pc := 13) dX0_number_13 rfl ?_
  refine a_getr (pc := 14) dX0_number_14 f_X0_9 rfl ?_
  refine a_callVi (pc := 17) (d := 0) (st := []) (o := 1) [] dX0_number_17 l_X0_43 in_X9_sign se_X9_sign rfl rfl rfl ⟨Nat.le_of_ble_eq_true rfl, Nat.le_of_ble_eq_true rfl⟩ ⟨Nat.le_of_ble_eq_true rfl, Nat.le_of_ble_eq_true rfl⟩ (Nat.le_of_ble_eq_true rfl) ?_
  refine Calls.mono (fun r17 M17 hr17 hM17 h => ?_) h
  refine a_callNi (pc := 20) (d := 0) (st := []) [.inl r17] dX0_number_20 l_X0_47 st_X11_isDigit rfl ⟨Nat.le_of_ble_eq_true rfl, Nat.le_of_ble_eq_true rfl⟩ ⟨Nat.le_of_ble_eq_true rfl, Nat.le_of_ble_eq_true rfl⟩ (Nat.le_of_ble_eq_true rfl) ?_
  refine p_X11_isDigit ⟨fun hc => ?_, fun hc => ?_⟩
  · replace h := h.1 hc
    refine a_if_eq (pc := 23) 36 dX0_number_23 rfl ⟨fun hc => absurd hc (by decide), fun _ => ?_⟩
    refine a_bipush (pc := 26) dX0_number_26 (by decide) (cnb rfl) ?_
    refine a_iload_n (pc := 28) dX0_number_28 rfl ?_
    refine a_imul (pc := 29) dX0_number_29 h.1 ?_
    replace h := h.2
    refine a_aload_n (pc := 30) dX0_number_30 rfl ?_
    refine a_callVi (pc := 31) (d := 1) (st := [.inl (10 * r9)]) (o := 12) [] dX0_number_31 l_X0_93 in_X0_digit se_X0_digit rfl rfl rfl ⟨Nat.le_of_ble_eq_true rfl, Nat.le_of_ble_eq_true rfl⟩ ⟨Nat.le_of_ble_eq_true rfl, Nat.le_of_ble_eq_true rfl⟩ (Nat.le_of_ble_eq_true rfl) ?_
    refine Calls.mono (fun r31 M31 hr31 hM31 h => ?_) h
    refine a_iadd (pc := 34) dX0_number_34 h.1 ?_
    replace h := h.2
    refine a_istore_n (pc := 35) dX0_number_35 (Nat.le_of_ble_eq_true rfl) ?_
    exact h
  · replace h := h.2 hc
    refine a_if_eq (pc := 23) 36 dX0_number_23 rfl ⟨fun _ => ?_, fun hc => absurd hc (by decide)⟩
    exact h
set_option maxRecDepth 20000 in
theorem e_X0_number {Q : Int → Me → Prop}  {a : Int} {M : Me} (h :
    Calls 1 mX0_digit [.inr 12] M (fun r9 M9 =>
    Calls 0 mX9_sign [.inr 1] M9 (fun r17 M17 =>
    ((48 ≤ r17 ∧ r17 ≤ 57 →
    cn (10 * r9) ∧
    Calls 1 mX0_digit [.inr 12] M17 (fun r31 M31 =>
    cn ((10 * r9) + r31) ∧
    Go (km 2 mX0_number Q) 36 [some (.inr 12), some (.inl a), some (.inl (M 1 3)), some (.inl ((10 * r9) + r31))] [] M31)) ∧ (¬ (48 ≤ r17 ∧ r17 ≤ 57) →
    Go (km 2 mX0_number Q) 36 [some (.inr 12), some (.inl a), some (.inl (M 1 3)), some (.inl r9)] [] M17))))) : Calls 2 mX0_number [.inr 12, .inl a] M Q := Calls.of (by decide) (Nat.le_of_ble_eq_true rfl) (s_X0_number_0  a M h)
set_option maxRecDepth 20000 in
theorem s_X0_number_36 {Q : Int → Me → Prop}  (x1 x2 x3 : Int) (M : Me) (h :
    Calls 0 mX9_sign [.inr 1] M (fun r40 M40 =>
    ((48 ≤ r40 ∧ r40 ≤ 57 →
    Calls 0 mX9_fail [.inr 1, .inl 2, .inl (M40 1 3)] M40 (fun r61 M61 =>
    Go (km 2 mX0_number Q) 64 [some (.inr 12), some (.inl x1), some (.inl x2), some (.inl x3)] [] M61)) ∧ (¬ (48 ≤ r40 ∧ r40 ≤ 57) →
    Go (km 2 mX0_number Q) 64 [some (.inr 12), some (.inl x1), some (.inl x2), some (.inl x3)] [] M40)))) :
    Go (km 2 mX0_number Q) 36 [some (.inr 12), some (.inl x1), some (.inl x2), some (.inl x3)] [] M := by
  refine a_aload_n (pc := 36) dX0_number_36 rfl ?_
  refine a_getr (pc := 37) dX0_number_37 f_X0_9 rfl ?_
  refine a_callVi (pc := 40) (d := 0) (st := []) (o := 1) [] dX0_number_40 l_X0_43 in_X9_sign se_X9_sign rfl rfl rfl ⟨Nat.le_of_ble_eq_true rfl, Nat.le_of_ble_eq_true rfl⟩ ⟨Nat.le_of_ble_eq_true rfl, Nat.le_of_ble_eq_true rfl⟩ (Nat.le_of_ble_eq_true rfl) ?_
  refine Calls.mono (fun r40 M40 hr40 hM40 h => ?_) h
  refine a_callNi (pc := 43) (d := 0) (st := []) [.inl r40] dX0_number_43 l_X0_47 st_X11_isDigit rfl ⟨Nat.le_of_ble_eq_true rfl, Nat.le_of_ble_eq_true rfl⟩ ⟨Nat.le_of_ble_eq_true rfl, Nat.le_of_ble_eq_true rfl⟩ (Nat.le_of_ble_eq_true rfl) ?_
  refine p_X11_isDigit ⟨fun hc => ?_, fun hc => ?_⟩
  · replace h := h.1 hc
    refine a_if_eq (pc := 46) 64 dX0_number_46 rfl ⟨fun hc => absurd hc (by decide), fun _ => ?_⟩
    refine a_aload_n (pc := 49) dX0_number_49 rfl ?_
    refine a_getr (pc := 50) dX0_number_50 f_X0_9 rfl ?_
    refine a_iconst (pc := 53) dX0_number_53 (cnb rfl) ?_
    refine a_aload_n (pc := 54) dX0_number_54 rfl ?_
    refine a_getr (pc := 55) dX0_number_55 f_X0_9 rfl ?_
    refine a_geti (pc := 58) 3 dX0_number_58 f_X0_51 rfl rfl ?_
    refine a_callVv (pc := 61) (d := 0) (st := []) (o := 1) [.inl 2, .inl (M40 1 3)] dX0_number_61 l_X0_54 in_X9_fail se_X9_fail rfl rfl rfl ⟨Nat.le_of_ble_eq_true rfl, Nat.le_of_ble_eq_true rfl⟩ ⟨Nat.le_of_ble_eq_true rfl, Nat.le_of_ble_eq_true rfl⟩ (Nat.le_of_ble_eq_true rfl) ?_
    refine Calls.mono (fun r61 M61 hr61 hM61 h => ?_) h
    exact h
  · replace h := h.2 hc
    refine a_if_eq (pc := 46) 64 dX0_number_46 rfl ⟨fun _ => ?_, fun hc => absurd hc (by decide)⟩
    exact h
set_option maxRecDepth 20000 in
theorem s_X0_number_64 {Q : Int → Me → Prop}  (x1 x2 x3 : Int) (M : Me) (h :
    ((x3 ≤ x1 →
    Q x3 M) ∧ (x1 < x3 →
    Calls 0 mX9_fail [.inr 1, .inl 3, .inl x2] M (fun r75 M75 =>
    Q x3 M75)))) :
    Go (km 2 mX0_number Q) 64 [some (.inr 12), some (.inl x1), some (.inl x2), some (.inl x3)] [] M := by
  refine a_iload_n (pc := 64) dX0_number_64 rfl ?_
  refine a_iload_n (pc := 65) dX0_number_65 rfl ?_
  refine a_icmp_le (pc := 66) 78 dX0_number_66 rfl ⟨fun hc => ?_, fun hc => ?_⟩
  · replace h := h.1 hc
    refine a_iload_n (pc := 78) dX0_number_78 rfl ?_
    exact a_iretI (pc := 79) dX0_number_79 rfl h
  · replace h := h.2 hc
    refine a_aload_n (pc := 69) dX0_number_69 rfl ?_
    refine a_getr (pc := 70) dX0_number_70 f_X0_9 rfl ?_
    refine a_iconst (pc := 73) dX0_number_73 (cnb rfl) ?_
    refine a_iload_n (pc := 74) dX0_number_74 rfl ?_
    refine a_callVv (pc := 75) (d := 0) (st := []) (o := 1) [.inl 3, .inl x2] dX0_number_75 l_X0_54 in_X9_fail se_X9_fail rfl rfl rfl ⟨Nat.le_of_ble_eq_true rfl, Nat.le_of_ble_eq_true rfl⟩ ⟨Nat.le_of_ble_eq_true rfl, Nat.le_of_ble_eq_true rfl⟩ (Nat.le_of_ble_eq_true rfl) ?_
    refine Calls.mono (fun r75 M75 hr75 hM75 h => ?_) h
    refine a_iload_n (pc := 78) dX0_number_78 rfl ?_
    exact a_iretI (pc := 79) dX0_number_79 rfl h
set_option maxRecDepth 20000 in
theorem s_X0_letter_0 {Q : Int → Me → Prop}  (M : Me) (h :
    Calls 0 mX9_sign [.inr 1] M (fun r4 M4 =>
    ((65 ≤ r4 ∧ r4 < 81 →
    cn ((M4 1 3) + 1) ∧
    cn (r4 - 65) ∧
    Q (r4 - 65) (mput M4 1 3 ((M4 1 3) + 1))) ∧ (¬ (65 ≤ r4 ∧ r4 < 81) →
    Calls 0 mX9_fail [.inr 1, .inl 1, .inl (M4 1 3)] M4 (fun r27 M27 =>
    Q 0 M27))))) :
    Go (km 1 mX0_letter Q) 0 [some (.inr 12), none] [] M := by
  refine a_aload_n (pc := 0) dX0_letter_0 rfl ?_
  refine a_getr (pc := 1) dX0_letter_1 f_X0_9 rfl ?_
  refine a_callVi (pc := 4) (d := 0) (st := []) (o := 1) [] dX0_letter_4 l_X0_43 in_X9_sign se_X9_sign rfl rfl rfl ⟨Nat.le_of_ble_eq_true rfl, Nat.le_of_ble_eq_true rfl⟩ ⟨Nat.le_of_ble_eq_true rfl, Nat.le_of_ble_eq_true rfl⟩ (Nat.le_of_ble_eq_true rfl) ?_
  refine Calls.mono (fun r4 M4 hr4 hM4 h => ?_) h
  refine a_istore_n (pc := 7) dX0_letter_7 (Nat.le_of_ble_eq_true rfl) ?_
  refine a_iload_n (pc := 8) dX0_letter_8 rfl ?_
  refine a_callSi (pc := 9) (d := 0) (st := []) [.inl r4] dX0_letter_9 l_X0_99 st_X0_isLetter rfl ⟨Nat.le_of_ble_eq_true rfl, Nat.le_of_ble_eq_true rfl⟩ ⟨Nat.le_of_ble_eq_true rfl, Nat.le_of_ble_eq_true rfl⟩ (Nat.le_of_ble_eq_true rfl) ?_
  refine p_X0_isLetter ⟨fun hc => ?_, fun hc => ?_⟩
  · replace h := h.1 hc
    refine a_if_ne (pc := 12) 32 dX0_letter_12 rfl ⟨fun _ => ?_, fun hc => absurd hc (by decide)⟩
    refine a_aload_n (pc := 32) dX0_letter_32 rfl ?_
    refine a_getr (pc := 33) dX0_letter_33 f_X0_9 rfl ?_
    refine a_dup (pc := 36) dX0_letter_36 ?_
    refine a_geti (pc := 37) 3 dX0_letter_37 f_X0_51 rfl rfl ?_
    refine a_iconst (pc := 40) dX0_letter_40 (cnb rfl) ?_
    refine a_iadd (pc := 41) dX0_letter_41 h.1 ?_
    replace h := h.2
    refine a_puti (pc := 42) 3 dX0_letter_42 f_X0_51 rfl rfl (Or.inl rfl) ?_
    refine a_iload_n (pc := 45) dX0_letter_45 rfl ?_
    refine a_bipush (pc := 46) dX0_letter_46 (by decide) (cnb rfl) ?_
    refine a_isub (pc := 48) dX0_letter_48 h.1 ?_
    replace h := h.2
    exact a_iretI (pc := 49) dX0_letter_49 rfl h
  · replace h := h.2 hc
    refine a_if_ne (pc := 12) 32 dX0_letter_12 rfl ⟨fun hc => absurd hc (by decide), fun _ => ?_⟩
    refine a_aload_n (pc := 15) dX0_letter_15 rfl ?_
    refine a_getr (pc := 16) dX0_letter_16 f_X0_9 rfl ?_
    refine a_iconst (pc := 19) dX0_letter_19 (cnb rfl) ?_
    refine a_aload_n (pc := 20) dX0_letter_20 rfl ?_
    refine a_getr (pc := 21) dX0_letter_21 f_X0_9 rfl ?_
    refine a_geti (pc := 24) 3 dX0_letter_24 f_X0_51 rfl rfl ?_
    refine a_callVv (pc := 27) (d := 0) (st := []) (o := 1) [.inl 1, .inl (M4 1 3)] dX0_letter_27 l_X0_54 in_X9_fail se_X9_fail rfl rfl rfl ⟨Nat.le_of_ble_eq_true rfl, Nat.le_of_ble_eq_true rfl⟩ ⟨Nat.le_of_ble_eq_true rfl, Nat.le_of_ble_eq_true rfl⟩ (Nat.le_of_ble_eq_true rfl) ?_
    refine Calls.mono (fun r27 M27 hr27 hM27 h => ?_) h
    refine a_iconst (pc := 30) dX0_letter_30 (cnb rfl) ?_
    exact a_iretI (pc := 31) dX0_letter_31 rfl h
set_option maxRecDepth 20000 in
theorem e_X0_letter {Q : Int → Me → Prop}  {M : Me} (h :
    Calls 0 mX9_sign [.inr 1] M (fun r4 M4 =>
    ((65 ≤ r4 ∧ r4 < 81 →
    cn ((M4 1 3) + 1) ∧
    cn (r4 - 65) ∧
    Q (r4 - 65) (mput M4 1 3 ((M4 1 3) + 1))) ∧ (¬ (65 ≤ r4 ∧ r4 < 81) →
    Calls 0 mX9_fail [.inr 1, .inl 1, .inl (M4 1 3)] M4 (fun r27 M27 =>
    Q 0 M27))))) : Calls 1 mX0_letter [.inr 12] M Q := Calls.of (by decide) (Nat.le_of_ble_eq_true rfl) (s_X0_letter_0   M h)
set_option maxRecDepth 20000 in
theorem s_X0_secondOne_0 {Q : Int → Me → Prop}  (a : Int) (M : Me) (h :
    Calls 1 mX9_mayTake [.inr 1, .inl 38] M (fun r6 M6 =>
    ((r6 = 0 →
    Go (km 2 mX0_secondOne Q) 20 [some (.inr 12), some (.inl a), some (.inl (-2)), none, none] [] M6) ∧ (r6 ≠ 0 →
    Go (km 2 mX0_secondOne Q) 20 [some (.inr 12), some (.inl a), some (.inl (-3)), none, none] [] M6)))) :
    Go (km 2 mX0_secondOne Q) 0 [some (.inr 12), some (.inl a), none, none, none] [] M := by
  refine a_aload_n (pc := 0) dX0_secondOne_0 rfl ?_
  refine a_getr (pc := 1) dX0_secondOne_1 f_X0_9 rfl ?_
  refine a_bipush (pc := 4) dX0_secondOne_4 (by decide) (cnb rfl) ?_
  refine a_callVi (pc := 6) (d := 1) (st := []) (o := 1) [.inl 38] dX0_secondOne_6 l_X0_35 in_X9_mayTake se_X9_mayTake rfl rfl rfl ⟨Nat.le_of_ble_eq_true rfl, Nat.le_of_ble_eq_true rfl⟩ ⟨Nat.le_of_ble_eq_true rfl, Nat.le_of_ble_eq_true rfl⟩ (Nat.le_of_ble_eq_true rfl) ?_
  refine Calls.mono (fun r6 M6 hr6 hM6 h => ?_) h
  refine a_if_eq (pc := 9) 17 dX0_secondOne_9 rfl ⟨fun hc => ?_, fun hc => ?_⟩
  · replace h := h.1 hc
    refine a_bipush (pc := 17) dX0_secondOne_17 (by decide) (cnb rfl) ?_
    refine a_istore_n (pc := 19) dX0_secondOne_19 (Nat.le_of_ble_eq_true rfl) ?_
    exact h
  · replace h := h.2 hc
    refine a_bipush (pc := 12) dX0_secondOne_12 (by decide) (cnb rfl) ?_
    refine a_goto (pc := 14) 19 dX0_secondOne_14 rfl ?_
    refine a_istore_n (pc := 19) dX0_secondOne_19 (Nat.le_of_ble_eq_true rfl) ?_
    exact h
set_option maxRecDepth 20000 in
theorem e_X0_secondOne {Q : Int → Me → Prop}  {a : Int} {M : Me} (h :
    Calls 1 mX9_mayTake [.inr 1, .inl 38] M (fun r6 M6 =>
    ((r6 = 0 →
    Go (km 2 mX0_secondOne Q) 20 [some (.inr 12), some (.inl a), some (.inl (-2)), none, none] [] M6) ∧ (r6 ≠ 0 →
    Go (km 2 mX0_secondOne Q) 20 [some (.inr 12), some (.inl a), some (.inl (-3)), none, none] [] M6)))) : Calls 2 mX0_secondOne [.inr 12, .inl a] M Q := Calls.of (by decide) (Nat.le_of_ble_eq_true rfl) (s_X0_secondOne_0  a M h)
set_option maxRecDepth 20000 in
theorem s_X0_secondOne_20 {Q : Int → Me → Prop}  (x1 x2 : Int) (M : Me) (h :
    Calls 0 mX9_sign [.inr 1] M (fun r24 M24 =>
    ((65 ≤ r24 ∧ r24 < 81 →
    Calls 1 mX0_letter [.inr 12] M24 (fun r44 M44 =>
    ((r44 ≠ x1 →
    Q r44 M44) ∧ (r44 = x1 →
    Calls 0 mX9_fail [.inr 1, .inl 6, .inl (M24 1 3)] M44 (fun r62 M62 =>
    Q r44 M62))))) ∧ (¬ (65 ≤ r24 ∧ r24 < 81) →
    Q x2 M24)))) :
    Go (km 2 mX0_secondOne Q) 20 [some (.inr 12), some (.inl x1), some (.inl x2), none, none] [] M := by
  refine a_aload_n (pc := 20) dX0_secondOne_20 rfl ?_
  refine a_getr (pc := 21) dX0_secondOne_21 f_X0_9 rfl ?_
  refine a_callVi (pc := 24) (d := 0) (st := []) (o := 1) [] dX0_secondOne_24 l_X0_43 in_X9_sign se_X9_sign rfl rfl rfl ⟨Nat.le_of_ble_eq_true rfl, Nat.le_of_ble_eq_true rfl⟩ ⟨Nat.le_of_ble_eq_true rfl, Nat.le_of_ble_eq_true rfl⟩ (Nat.le_of_ble_eq_true rfl) ?_
  refine Calls.mono (fun r24 M24 hr24 hM24 h => ?_) h
  refine a_callSi (pc := 27) (d := 0) (st := []) [.inl r24] dX0_secondOne_27 l_X0_99 st_X0_isLetter rfl ⟨Nat.le_of_ble_eq_true rfl, Nat.le_of_ble_eq_true rfl⟩ ⟨Nat.le_of_ble_eq_true rfl, Nat.le_of_ble_eq_true rfl⟩ (Nat.le_of_ble_eq_true rfl) ?_
  refine p_X0_isLetter ⟨fun hc => ?_, fun hc => ?_⟩
  · replace h := h.1 hc
    refine a_if_ne (pc := 30) 35 dX0_secondOne_30 rfl ⟨fun _ => ?_, fun hc => absurd hc (by decide)⟩
    refine a_aload_n (pc := 35) dX0_secondOne_35 rfl ?_
    refine a_getr (pc := 36) dX0_secondOne_36 f_X0_9 rfl ?_
    refine a_geti (pc := 39) 3 dX0_secondOne_39 f_X0_51 rfl rfl ?_
    refine a_istore_n (pc := 42) dX0_secondOne_42 (Nat.le_of_ble_eq_true rfl) ?_
    refine a_aload_n (pc := 43) dX0_secondOne_43 rfl ?_
    refine a_callVi (pc := 44) (d := 1) (st := []) (o := 12) [] dX0_secondOne_44 l_X0_81 in_X0_letter se_X0_letter rfl rfl rfl ⟨Nat.le_of_ble_eq_true rfl, Nat.le_of_ble_eq_true rfl⟩ ⟨Nat.le_of_ble_eq_true rfl, Nat.le_of_ble_eq_true rfl⟩ (Nat.le_of_ble_eq_true rfl) ?_
    refine Calls.mono (fun r44 M44 hr44 hM44 h => ?_) h
    refine a_istore (pc := 47) dX0_secondOne_47 (Nat.le_of_ble_eq_true rfl) ?_
    refine a_iload (pc := 49) dX0_secondOne_49 rfl ?_
    refine a_iload_n (pc := 51) dX0_secondOne_51 rfl ?_
    refine a_icmp_ne (pc := 52) 65 dX0_secondOne_52 rfl ⟨fun hc => ?_, fun hc => ?_⟩
    · replace h := h.1 hc
      refine a_iload (pc := 65) dX0_secondOne_65 rfl ?_
      exact a_iretI (pc := 67) dX0_secondOne_67 rfl h
    · replace h := h.2 hc
      refine a_aload_n (pc := 55) dX0_secondOne_55 rfl ?_
      refine a_getr (pc := 56) dX0_secondOne_56 f_X0_9 rfl ?_
      refine a_bipush (pc := 59) dX0_secondOne_59 (by decide) (cnb rfl) ?_
      refine a_iload_n (pc := 61) dX0_secondOne_61 rfl ?_
      refine a_callVv (pc := 62) (d := 0) (st := []) (o := 1) [.inl 6, .inl (M24 1 3)] dX0_secondOne_62 l_X0_54 in_X9_fail se_X9_fail rfl rfl rfl ⟨Nat.le_of_ble_eq_true rfl, Nat.le_of_ble_eq_true rfl⟩ ⟨Nat.le_of_ble_eq_true rfl, Nat.le_of_ble_eq_true rfl⟩ (Nat.le_of_ble_eq_true rfl) ?_
      refine Calls.mono (fun r62 M62 hr62 hM62 h => ?_) h
      refine a_iload (pc := 65) dX0_secondOne_65 rfl ?_
      exact a_iretI (pc := 67) dX0_secondOne_67 rfl h
  · replace h := h.2 hc
    refine a_if_ne (pc := 30) 35 dX0_secondOne_30 rfl ⟨fun hc => absurd hc (by decide), fun _ => ?_⟩
    refine a_iload_n (pc := 33) dX0_secondOne_33 rfl ?_
    exact a_iretI (pc := 34) dX0_secondOne_34 rfl h
set_option maxRecDepth 20000 in
theorem s_X0_cut_0 {Q : Int → Me → Prop}  (a : Int) (M : Me) (h :
    ((a < 16 →
    Calls 2 mX0_number [.inr 12, .inl 23] M (fun r42 M42 =>
    Calls 1 mX9_take [.inr 1, .inl 44] M42 (fun r52 M52 =>
    Calls 2 mX0_number [.inr 12, .inl 15] M52 (fun r58 M58 =>
    Calls 1 mX9_take [.inr 1, .inl 58] M58 (fun r68 M68 =>
    cn (24 * r58) ∧
    cn ((24 * r58) + r42) ∧
    (0 ≤ a ∧ a < 16) ∧
    (0 ≤ a ∧ a < 16) ∧
    (0 ≤ a ∧ a < 16) ∧
    Calls 1 mX9_mayTake [.inr 1, .inl 120] (mput (mput M68 14 a ((24 * r58) + r42)) 21 a ((24 * r58) + r42)) (fun r118 M118 =>
    ((r118 = 0 →
    (0 ≤ a ∧ a < 16) ∧
    Go (km 3 mX0_cut Q) 130 [some (.inr 12), some (.inl a), none, none] [] (mput M118 18 a 0)) ∧ (r118 ≠ 0 →
    (0 ≤ a ∧ a < 16) ∧
    Go (km 3 mX0_cut Q) 130 [some (.inr 12), some (.inl a), none, none] [] (mput M118 18 a 1))))))))) ∧ (16 ≤ a →
    Calls 0 mX9_sign [.inr 1] M (fun r14 M14 =>
    ((48 ≤ r14 ∧ r14 ≤ 57 →
    Calls 0 mX9_fail [.inr 1, .inl 4, .inl (M14 1 3)] M14 (fun r35 M35 =>
    Q 0 M35)) ∧ (¬ (48 ≤ r14 ∧ r14 ≤ 57) →
    Calls 0 mX9_fail [.inr 1, .inl 1, .inl (M14 1 3)] M14 (fun r35 M35 =>
    Q 0 M35))))))) :
    Go (km 3 mX0_cut Q) 0 [some (.inr 12), some (.inl a), none, none] [] M := by
  refine a_iload_n (pc := 0) dX0_cut_0 rfl ?_
  refine a_bipush (pc := 1) dX0_cut_1 (by decide) (cnb rfl) ?_
  refine a_icmp_lt (pc := 3) 39 dX0_cut_3 rfl ⟨fun hc => ?_, fun hc => ?_⟩
  · replace h := h.1 hc
    refine a_aload_n (pc := 39) dX0_cut_39 rfl ?_
    refine a_bipush (pc := 40) dX0_cut_40 (by decide) (cnb rfl) ?_
    refine a_callVi (pc := 42) (d := 2) (st := []) (o := 12) [.inl 23] dX0_cut_42 l_X0_58 in_X0_number se_X0_number rfl rfl rfl ⟨Nat.le_of_ble_eq_true rfl, Nat.le_of_ble_eq_true rfl⟩ ⟨Nat.le_of_ble_eq_true rfl, Nat.le_of_ble_eq_true rfl⟩ (Nat.le_of_ble_eq_true rfl) ?_
    refine Calls.mono (fun r42 M42 hr42 hM42 h => ?_) h
    refine a_istore_n (pc := 45) dX0_cut_45 (Nat.le_of_ble_eq_true rfl) ?_
    refine a_aload_n (pc := 46) dX0_cut_46 rfl ?_
    refine a_getr (pc := 47) dX0_cut_47 f_X0_9 rfl ?_
    refine a_bipush (pc := 50) dX0_cut_50 (by decide) (cnb rfl) ?_
    refine a_callVv (pc := 52) (d := 1) (st := []) (o := 1) [.inl 44] dX0_cut_52 l_X0_61 in_X9_take se_X9_take rfl rfl rfl ⟨Nat.le_of_ble_eq_true rfl, Nat.le_of_ble_eq_true rfl⟩ ⟨Nat.le_of_ble_eq_true rfl, Nat.le_of_ble_eq_true rfl⟩ (Nat.le_of_ble_eq_true rfl) ?_
    refine Calls.mono (fun r52 M52 hr52 hM52 h => ?_) h
    refine a_aload_n (pc := 55) dX0_cut_55 rfl ?_
    refine a_bipush (pc := 56) dX0_cut_56 (by decide) (cnb rfl) ?_
    refine a_callVi (pc := 58) (d := 2) (st := []) (o := 12) [.inl 15] dX0_cut_58 l_X0_58 in_X0_number se_X0_number rfl rfl rfl ⟨Nat.le_of_ble_eq_true rfl, Nat.le_of_ble_eq_true rfl⟩ ⟨Nat.le_of_ble_eq_true rfl, Nat.le_of_ble_eq_true rfl⟩ (Nat.le_of_ble_eq_true rfl) ?_
    refine Calls.mono (fun r58 M58 hr58 hM58 h => ?_) h
    refine a_istore_n (pc := 61) dX0_cut_61 (Nat.le_of_ble_eq_true rfl) ?_
    refine a_aload_n (pc := 62) dX0_cut_62 rfl ?_
    refine a_getr (pc := 63) dX0_cut_63 f_X0_9 rfl ?_
    refine a_bipush (pc := 66) dX0_cut_66 (by decide) (cnb rfl) ?_
    refine a_callVv (pc := 68) (d := 1) (st := []) (o := 1) [.inl 58] dX0_cut_68 l_X0_61 in_X9_take se_X9_take rfl rfl rfl ⟨Nat.le_of_ble_eq_true rfl, Nat.le_of_ble_eq_true rfl⟩ ⟨Nat.le_of_ble_eq_true rfl, Nat.le_of_ble_eq_true rfl⟩ (Nat.le_of_ble_eq_true rfl) ?_
    refine Calls.mono (fun r68 M68 hr68 hM68 h => ?_) h
    refine a_aload_n (pc := 71) dX0_cut_71 rfl ?_
    refine a_getr (pc := 72) dX0_cut_72 f_X0_18 rfl ?_
    refine a_getr (pc := 75) dX0_cut_75 f_X0_65 rfl ?_
    refine a_iload_n (pc := 78) dX0_cut_78 rfl ?_
    refine a_bipush (pc := 79) dX0_cut_79 (by decide) (cnb rfl) ?_
    refine a_iload_n (pc := 81) dX0_cut_81 rfl ?_
    refine a_imul (pc := 82) dX0_cut_82 h.1 ?_
    replace h := h.2
    refine a_iload_n (pc := 83) dX0_cut_83 rfl ?_
    refine a_iadd (pc := 84) dX0_cut_84 h.1 ?_
    replace h := h.2
    refine a_iast (pc := 85) dX0_cut_85 rfl h.1.1 h.1.2 ?_
    replace h := h.2
    refine a_aload_n (pc := 86) dX0_cut_86 rfl ?_
    refine a_getr (pc := 87) dX0_cut_87 f_X0_18 rfl ?_
    refine a_getr (pc := 90) dX0_cut_90 f_X0_69 rfl ?_
    refine a_iload_n (pc := 93) dX0_cut_93 rfl ?_
    refine a_aload_n (pc := 94) dX0_cut_94 rfl ?_
    refine a_getr (pc := 95) dX0_cut_95 f_X0_18 rfl ?_
    refine a_getr (pc := 98) dX0_cut_98 f_X0_65 rfl ?_
    refine a_iload_n (pc := 101) dX0_cut_101 rfl ?_
    refine a_ialdE (pc := 102) ((24 * r58) + r42) dX0_cut_102 rfl h.1.1 h.1.2 (mput_same _ _ _ _) ?_
    replace h := h.2
    refine a_iast (pc := 103) dX0_cut_103 rfl h.1.1 h.1.2 ?_
    replace h := h.2
    refine a_aload_n (pc := 104) dX0_cut_104 rfl ?_
    refine a_getr (pc := 105) dX0_cut_105 f_X0_18 rfl ?_
    refine a_getr (pc := 108) dX0_cut_108 f_X0_72 rfl ?_
    refine a_iload_n (pc := 111) dX0_cut_111 rfl ?_
    refine a_aload_n (pc := 112) dX0_cut_112 rfl ?_
    refine a_getr (pc := 113) dX0_cut_113 f_X0_9 rfl ?_
    refine a_bipush (pc := 116) dX0_cut_116 (by decide) (cnb rfl) ?_
    refine a_callVi (pc := 118) (d := 1) (st := [.inl a, .inr 18]) (o := 1) [.inl 120] dX0_cut_118 l_X0_35 in_X9_mayTake se_X9_mayTake rfl rfl rfl ⟨Nat.le_of_ble_eq_true rfl, Nat.le_of_ble_eq_true rfl⟩ ⟨Nat.le_of_ble_eq_true rfl, Nat.le_of_ble_eq_true rfl⟩ (Nat.le_of_ble_eq_true rfl) ?_
    refine Calls.mono (fun r118 M118 hr118 hM118 h => ?_) h
    refine a_if_eq (pc := 121) 128 dX0_cut_121 rfl ⟨fun hc => ?_, fun hc => ?_⟩
    · replace h := h.1 hc
      refine a_iconst (pc := 128) dX0_cut_128 (cnb rfl) ?_
      refine a_iast (pc := 129) dX0_cut_129 rfl h.1.1 h.1.2 ?_
      replace h := h.2
      exact Go.weak h (And.intro rfl (And.intro rfl True.intro))
    · replace h := h.2 hc
      refine a_iconst (pc := 124) dX0_cut_124 (cnb rfl) ?_
      refine a_goto (pc := 125) 129 dX0_cut_125 rfl ?_
      refine a_iast (pc := 129) dX0_cut_129 rfl h.1.1 h.1.2 ?_
      replace h := h.2
      exact Go.weak h (And.intro rfl (And.intro rfl True.intro))
  · replace h := h.2 hc
    refine a_aload_n (pc := 6) dX0_cut_6 rfl ?_
    refine a_getr (pc := 7) dX0_cut_7 f_X0_9 rfl ?_
    refine a_aload_n (pc := 10) dX0_cut_10 rfl ?_
    refine a_getr (pc := 11) dX0_cut_11 f_X0_9 rfl ?_
    refine a_callVi (pc := 14) (d := 0) (st := [.inr 1]) (o := 1) [] dX0_cut_14 l_X0_43 in_X9_sign se_X9_sign rfl rfl rfl ⟨Nat.le_of_ble_eq_true rfl, Nat.le_of_ble_eq_true rfl⟩ ⟨Nat.le_of_ble_eq_true rfl, Nat.le_of_ble_eq_true rfl⟩ (Nat.le_of_ble_eq_true rfl) ?_
    refine Calls.mono (fun r14 M14 hr14 hM14 h => ?_) h
    refine a_callNi (pc := 17) (d := 0) (st := [.inr 1]) [.inl r14] dX0_cut_17 l_X0_47 st_X11_isDigit rfl ⟨Nat.le_of_ble_eq_true rfl, Nat.le_of_ble_eq_true rfl⟩ ⟨Nat.le_of_ble_eq_true rfl, Nat.le_of_ble_eq_true rfl⟩ (Nat.le_of_ble_eq_true rfl) ?_
    refine p_X11_isDigit ⟨fun hc => ?_, fun hc => ?_⟩
    · replace h := h.1 hc
      refine a_if_eq (pc := 20) 27 dX0_cut_20 rfl ⟨fun hc => absurd hc (by decide), fun _ => ?_⟩
      refine a_iconst (pc := 23) dX0_cut_23 (cnb rfl) ?_
      refine a_goto (pc := 24) 28 dX0_cut_24 rfl ?_
      refine a_aload_n (pc := 28) dX0_cut_28 rfl ?_
      refine a_getr (pc := 29) dX0_cut_29 f_X0_9 rfl ?_
      refine a_geti (pc := 32) 3 dX0_cut_32 f_X0_51 rfl rfl ?_
      refine a_callVv (pc := 35) (d := 0) (st := []) (o := 1) [.inl 4, .inl (M14 1 3)] dX0_cut_35 l_X0_54 in_X9_fail se_X9_fail rfl rfl rfl ⟨Nat.le_of_ble_eq_true rfl, Nat.le_of_ble_eq_true rfl⟩ ⟨Nat.le_of_ble_eq_true rfl, Nat.le_of_ble_eq_true rfl⟩ (Nat.le_of_ble_eq_true rfl) ?_
      refine Calls.mono (fun r35 M35 hr35 hM35 h => ?_) h
      exact a_ret (pc := 38) dX0_cut_38 rfl h
    · replace h := h.2 hc
      refine a_if_eq (pc := 20) 27 dX0_cut_20 rfl ⟨fun _ => ?_, fun hc => absurd hc (by decide)⟩
      refine a_iconst (pc := 27) dX0_cut_27 (cnb rfl) ?_
      refine a_aload_n (pc := 28) dX0_cut_28 rfl ?_
      refine a_getr (pc := 29) dX0_cut_29 f_X0_9 rfl ?_
      refine a_geti (pc := 32) 3 dX0_cut_32 f_X0_51 rfl rfl ?_
      refine a_callVv (pc := 35) (d := 0) (st := []) (o := 1) [.inl 1, .inl (M14 1 3)] dX0_cut_35 l_X0_54 in_X9_fail se_X9_fail rfl rfl rfl ⟨Nat.le_of_ble_eq_true rfl, Nat.le_of_ble_eq_true rfl⟩ ⟨Nat.le_of_ble_eq_true rfl, Nat.le_of_ble_eq_true rfl⟩ (Nat.le_of_ble_eq_true rfl) ?_
      refine Calls.mono (fun r35 M35 hr35 hM35 h => ?_) h
      exact a_ret (pc := 38) dX0_cut_38 rfl h
set_option maxRecDepth 20000 in
theorem e_X0_cut {Q : Int → Me → Prop}  {a : Int} {M : Me} (h :
    ((a < 16 →
    Calls 2 mX0_number [.inr 12, .inl 23] M (fun r42 M42 =>
    Calls 1 mX9_take [.inr 1, .inl 44] M42 (fun r52 M52 =>
    Calls 2 mX0_number [.inr 12, .inl 15] M52 (fun r58 M58 =>
    Calls 1 mX9_take [.inr 1, .inl 58] M58 (fun r68 M68 =>
    cn (24 * r58) ∧
    cn ((24 * r58) + r42) ∧
    (0 ≤ a ∧ a < 16) ∧
    (0 ≤ a ∧ a < 16) ∧
    (0 ≤ a ∧ a < 16) ∧
    Calls 1 mX9_mayTake [.inr 1, .inl 120] (mput (mput M68 14 a ((24 * r58) + r42)) 21 a ((24 * r58) + r42)) (fun r118 M118 =>
    ((r118 = 0 →
    (0 ≤ a ∧ a < 16) ∧
    Go (km 3 mX0_cut Q) 130 [some (.inr 12), some (.inl a), none, none] [] (mput M118 18 a 0)) ∧ (r118 ≠ 0 →
    (0 ≤ a ∧ a < 16) ∧
    Go (km 3 mX0_cut Q) 130 [some (.inr 12), some (.inl a), none, none] [] (mput M118 18 a 1))))))))) ∧ (16 ≤ a →
    Calls 0 mX9_sign [.inr 1] M (fun r14 M14 =>
    ((48 ≤ r14 ∧ r14 ≤ 57 →
    Calls 0 mX9_fail [.inr 1, .inl 4, .inl (M14 1 3)] M14 (fun r35 M35 =>
    Q 0 M35)) ∧ (¬ (48 ≤ r14 ∧ r14 ≤ 57) →
    Calls 0 mX9_fail [.inr 1, .inl 1, .inl (M14 1 3)] M14 (fun r35 M35 =>
    Q 0 M35))))))) : Calls 3 mX0_cut [.inr 12, .inl a] M Q := Calls.of (by decide) (Nat.le_of_ble_eq_true rfl) (s_X0_cut_0  a M h)
set_option maxRecDepth 20000 in
theorem s_X0_cut_130 {Q : Int → Me → Prop}  (x1 : Int) (M : Me) (h :
    Calls 1 mX9_mayTake [.inr 1, .inl 91] M (fun r144 M144 =>
    ((r144 = 0 →
    (0 ≤ x1 ∧ x1 < 16) ∧
    Go (km 3 mX0_cut Q) 156 [some (.inr 12), some (.inl x1), none, none] [] (mput M144 17 x1 0)) ∧ (r144 ≠ 0 →
    (0 ≤ x1 ∧ x1 < 16) ∧
    Go (km 3 mX0_cut Q) 156 [some (.inr 12), some (.inl x1), none, none] [] (mput M144 17 x1 1))))) :
    Go (km 3 mX0_cut Q) 130 [some (.inr 12), some (.inl x1), none, none] [] M := by
  refine a_aload_n (pc := 130) dX0_cut_130 rfl ?_
  refine a_getr (pc := 131) dX0_cut_131 f_X0_18 rfl ?_
  refine a_getr (pc := 134) dX0_cut_134 f_X0_75 rfl ?_
  refine a_iload_n (pc := 137) dX0_cut_137 rfl ?_
  refine a_aload_n (pc := 138) dX0_cut_138 rfl ?_
  refine a_getr (pc := 139) dX0_cut_139 f_X0_9 rfl ?_
  refine a_bipush (pc := 142) dX0_cut_142 (by decide) (cnb rfl) ?_
  refine a_callVi (pc := 144) (d := 1) (st := [.inl x1, .inr 17]) (o := 1) [.inl 91] dX0_cut_144 l_X0_35 in_X9_mayTake se_X9_mayTake rfl rfl rfl ⟨Nat.le_of_ble_eq_true rfl, Nat.le_of_ble_eq_true rfl⟩ ⟨Nat.le_of_ble_eq_true rfl, Nat.le_of_ble_eq_true rfl⟩ (Nat.le_of_ble_eq_true rfl) ?_
  refine Calls.mono (fun r144 M144 hr144 hM144 h => ?_) h
  refine a_if_eq (pc := 147) 154 dX0_cut_147 rfl ⟨fun hc => ?_, fun hc => ?_⟩
  · replace h := h.1 hc
    refine a_iconst (pc := 154) dX0_cut_154 (cnb rfl) ?_
    refine a_iast (pc := 155) dX0_cut_155 rfl h.1.1 h.1.2 ?_
    replace h := h.2
    exact h
  · replace h := h.2 hc
    refine a_iconst (pc := 150) dX0_cut_150 (cnb rfl) ?_
    refine a_goto (pc := 151) 155 dX0_cut_151 rfl ?_
    refine a_iast (pc := 155) dX0_cut_155 rfl h.1.1 h.1.2 ?_
    replace h := h.2
    exact h
set_option maxRecDepth 20000 in
theorem s_X0_cut_156 {Q : Int → Me → Prop}  (x1 : Int) (M : Me) (h :
    Calls 1 mX0_letter [.inr 12] M (fun r165 M165 =>
    (0 ≤ x1 ∧ x1 < 16) ∧
    (0 ≤ x1 ∧ x1 < 16) ∧
    Calls 2 mX0_secondOne [.inr 12, .inl r165] (mput M165 15 x1 r165) (fun r187 M187 =>
    (0 ≤ x1 ∧ x1 < 16) ∧
    (0 ≤ x1 ∧ x1 < 16) ∧
    ((M187 17 x1 ≠ 1 →
    Go (km 3 mX0_cut Q) 213 [some (.inr 12), some (.inl x1), none, none] [] (mput M187 16 x1 r187)) ∧ (M187 17 x1 = 1 →
    Calls 1 mX9_take [.inr 1, .inl 93] (mput M187 16 x1 r187) (fun r210 M210 =>
    Go (km 3 mX0_cut Q) 213 [some (.inr 12), some (.inl x1), none, none] [] M210)))))) :
    Go (km 3 mX0_cut Q) 156 [some (.inr 12), some (.inl x1), none, none] [] M := by
  refine a_aload_n (pc := 156) dX0_cut_156 rfl ?_
  refine a_getr (pc := 157) dX0_cut_157 f_X0_18 rfl ?_
  refine a_getr (pc := 160) dX0_cut_160 f_X0_78 rfl ?_
  refine a_iload_n (pc := 163) dX0_cut_163 rfl ?_
  refine a_aload_n (pc := 164) dX0_cut_164 rfl ?_
  refine a_callVi (pc := 165) (d := 1) (st := [.inl x1, .inr 15]) (o := 12) [] dX0_cut_165 l_X0_81 in_X0_letter se_X0_letter rfl rfl rfl ⟨Nat.le_of_ble_eq_true rfl, Nat.le_of_ble_eq_true rfl⟩ ⟨Nat.le_of_ble_eq_true rfl, Nat.le_of_ble_eq_true rfl⟩ (Nat.le_of_ble_eq_true rfl) ?_
  refine Calls.mono (fun r165 M165 hr165 hM165 h => ?_) h
  refine a_iast (pc := 168) dX0_cut_168 rfl h.1.1 h.1.2 ?_
  replace h := h.2
  refine a_aload_n (pc := 169) dX0_cut_169 rfl ?_
  refine a_getr (pc := 170) dX0_cut_170 f_X0_18 rfl ?_
  refine a_getr (pc := 173) dX0_cut_173 f_X0_84 rfl ?_
  refine a_iload_n (pc := 176) dX0_cut_176 rfl ?_
  refine a_aload_n (pc := 177) dX0_cut_177 rfl ?_
  refine a_aload_n (pc := 178) dX0_cut_178 rfl ?_
  refine a_getr (pc := 179) dX0_cut_179 f_X0_18 rfl ?_
  refine a_getr (pc := 182) dX0_cut_182 f_X0_78 rfl ?_
  refine a_iload_n (pc := 185) dX0_cut_185 rfl ?_
  refine a_ialdE (pc := 186) r165 dX0_cut_186 rfl h.1.1 h.1.2 (mput_same _ _ _ _) ?_
  replace h := h.2
  refine a_callVi (pc := 187) (d := 2) (st := [.inl x1, .inr 16]) (o := 12) [.inl r165] dX0_cut_187 l_X0_87 in_X0_secondOne se_X0_secondOne rfl rfl rfl ⟨Nat.le_of_ble_eq_true rfl, Nat.le_of_ble_eq_true rfl⟩ ⟨Nat.le_of_ble_eq_true rfl, Nat.le_of_ble_eq_true rfl⟩ (Nat.le_of_ble_eq_true rfl) ?_
  refine Calls.mono (fun r187 M187 hr187 hM187 h => ?_) h
  refine a_iast (pc := 190) dX0_cut_190 rfl h.1.1 h.1.2 ?_
  replace h := h.2
  refine a_aload_n (pc := 191) dX0_cut_191 rfl ?_
  refine a_getr (pc := 192) dX0_cut_192 f_X0_18 rfl ?_
  refine a_getr (pc := 195) dX0_cut_195 f_X0_75 rfl ?_
  refine a_iload_n (pc := 198) dX0_cut_198 rfl ?_
  refine a_ialdE (pc := 199) (M187 17 x1) dX0_cut_199 rfl h.1.1 h.1.2 (mput_ne _ _ _ _ (by decide)) ?_
  replace h := h.2
  refine a_iconst (pc := 200) dX0_cut_200 (cnb rfl) ?_
  refine a_icmp_ne (pc := 201) 213 dX0_cut_201 rfl ⟨fun hc => ?_, fun hc => ?_⟩
  · replace h := h.1 hc
    exact h
  · replace h := h.2 hc
    refine a_aload_n (pc := 204) dX0_cut_204 rfl ?_
    refine a_getr (pc := 205) dX0_cut_205 f_X0_9 rfl ?_
    refine a_bipush (pc := 208) dX0_cut_208 (by decide) (cnb rfl) ?_
    refine a_callVv (pc := 210) (d := 1) (st := []) (o := 1) [.inl 93] dX0_cut_210 l_X0_61 in_X9_take se_X9_take rfl rfl rfl ⟨Nat.le_of_ble_eq_true rfl, Nat.le_of_ble_eq_true rfl⟩ ⟨Nat.le_of_ble_eq_true rfl, Nat.le_of_ble_eq_true rfl⟩ (Nat.le_of_ble_eq_true rfl) ?_
    refine Calls.mono (fun r210 M210 hr210 hM210 h => ?_) h
    exact h
set_option maxRecDepth 20000 in
theorem s_X0_cut_213 {Q : Int → Me → Prop}  (x1 : Int) (M : Me) (h :
    Calls 0 mX9_sign [.inr 1] M (fun r225 M225 =>
    ((48 ≤ r225 ∧ r225 ≤ 57 →
    Calls 1 mX0_digit [.inr 12] M225 (fun r237 M237 =>
    cn (10 * r237) ∧
    Calls 1 mX0_digit [.inr 12] M237 (fun r242 M242 =>
    cn ((10 * r237) + r242) ∧
    (0 ≤ x1 ∧ x1 < 16) ∧
    Go (km 3 mX0_cut Q) 252 [some (.inr 12), some (.inl x1), none, none] [] (mput M242 20 x1 ((10 * r237) + r242))))) ∧ (¬ (48 ≤ r225 ∧ r225 ≤ 57) →
    (0 ≤ x1 ∧ x1 < 16) ∧
    Go (km 3 mX0_cut Q) 252 [some (.inr 12), some (.inl x1), none, none] [] (mput M225 20 x1 (-2)))))) :
    Go (km 3 mX0_cut Q) 213 [some (.inr 12), some (.inl x1), none, none] [] M := by
  refine a_aload_n (pc := 213) dX0_cut_213 rfl ?_
  refine a_getr (pc := 214) dX0_cut_214 f_X0_18 rfl ?_
  refine a_getr (pc := 217) dX0_cut_217 f_X0_90 rfl ?_
  refine a_iload_n (pc := 220) dX0_cut_220 rfl ?_
  refine a_aload_n (pc := 221) dX0_cut_221 rfl ?_
  refine a_getr (pc := 222) dX0_cut_222 f_X0_9 rfl ?_
  refine a_callVi (pc := 225) (d := 0) (st := [.inl x1, .inr 20]) (o := 1) [] dX0_cut_225 l_X0_43 in_X9_sign se_X9_sign rfl rfl rfl ⟨Nat.le_of_ble_eq_true rfl, Nat.le_of_ble_eq_true rfl⟩ ⟨Nat.le_of_ble_eq_true rfl, Nat.le_of_ble_eq_true rfl⟩ (Nat.le_of_ble_eq_true rfl) ?_
  refine Calls.mono (fun r225 M225 hr225 hM225 h => ?_) h
  refine a_callNi (pc := 228) (d := 0) (st := [.inl x1, .inr 20]) [.inl r225] dX0_cut_228 l_X0_47 st_X11_isDigit rfl ⟨Nat.le_of_ble_eq_true rfl, Nat.le_of_ble_eq_true rfl⟩ ⟨Nat.le_of_ble_eq_true rfl, Nat.le_of_ble_eq_true rfl⟩ (Nat.le_of_ble_eq_true rfl) ?_
  refine p_X11_isDigit ⟨fun hc => ?_, fun hc => ?_⟩
  · replace h := h.1 hc
    refine a_if_eq (pc := 231) 249 dX0_cut_231 rfl ⟨fun hc => absurd hc (by decide), fun _ => ?_⟩
    refine a_bipush (pc := 234) dX0_cut_234 (by decide) (cnb rfl) ?_
    refine a_aload_n (pc := 236) dX0_cut_236 rfl ?_
    refine a_callVi (pc := 237) (d := 1) (st := [.inl 10, .inl x1, .inr 20]) (o := 12) [] dX0_cut_237 l_X0_93 in_X0_digit se_X0_digit rfl rfl rfl ⟨Nat.le_of_ble_eq_true rfl, Nat.le_of_ble_eq_true rfl⟩ ⟨Nat.le_of_ble_eq_true rfl, Nat.le_of_ble_eq_true rfl⟩ (Nat.le_of_ble_eq_true rfl) ?_
    refine Calls.mono (fun r237 M237 hr237 hM237 h => ?_) h
    refine a_imul (pc := 240) dX0_cut_240 h.1 ?_
    replace h := h.2
    refine a_aload_n (pc := 241) dX0_cut_241 rfl ?_
    refine a_callVi (pc := 242) (d := 1) (st := [.inl (10 * r237), .inl x1, .inr 20]) (o := 12) [] dX0_cut_242 l_X0_93 in_X0_digit se_X0_digit rfl rfl rfl ⟨Nat.le_of_ble_eq_true rfl, Nat.le_of_ble_eq_true rfl⟩ ⟨Nat.le_of_ble_eq_true rfl, Nat.le_of_ble_eq_true rfl⟩ (Nat.le_of_ble_eq_true rfl) ?_
    refine Calls.mono (fun r242 M242 hr242 hM242 h => ?_) h
    refine a_iadd (pc := 245) dX0_cut_245 h.1 ?_
    replace h := h.2
    refine a_goto (pc := 246) 251 dX0_cut_246 rfl ?_
    refine a_iast (pc := 251) dX0_cut_251 rfl h.1.1 h.1.2 ?_
    replace h := h.2
    exact h
  · replace h := h.2 hc
    refine a_if_eq (pc := 231) 249 dX0_cut_231 rfl ⟨fun _ => ?_, fun hc => absurd hc (by decide)⟩
    refine a_bipush (pc := 249) dX0_cut_249 (by decide) (cnb rfl) ?_
    refine a_iast (pc := 251) dX0_cut_251 rfl h.1.1 h.1.2 ?_
    replace h := h.2
    exact h
set_option maxRecDepth 20000 in
theorem s_X0_cut_252 {Q : Int → Me → Prop}  (x1 : Int) (M : Me) (h :
    Calls 1 mX9_mayTake [.inr 1, .inl 62] M (fun r266 M266 =>
    ((r266 = 0 →
    (0 ≤ x1 ∧ x1 < 16) ∧
    Go (km 3 mX0_cut Q) 278 [some (.inr 12), some (.inl x1), none, none] [] (mput M266 19 x1 0)) ∧ (r266 ≠ 0 →
    (0 ≤ x1 ∧ x1 < 16) ∧
    Go (km 3 mX0_cut Q) 278 [some (.inr 12), some (.inl x1), none, none] [] (mput M266 19 x1 1))))) :
    Go (km 3 mX0_cut Q) 252 [some (.inr 12), some (.inl x1), none, none] [] M := by
  refine a_aload_n (pc := 252) dX0_cut_252 rfl ?_
  refine a_getr (pc := 253) dX0_cut_253 f_X0_18 rfl ?_
  refine a_getr (pc := 256) dX0_cut_256 f_X0_96 rfl ?_
  refine a_iload_n (pc := 259) dX0_cut_259 rfl ?_
  refine a_aload_n (pc := 260) dX0_cut_260 rfl ?_
  refine a_getr (pc := 261) dX0_cut_261 f_X0_9 rfl ?_
  refine a_bipush (pc := 264) dX0_cut_264 (by decide) (cnb rfl) ?_
  refine a_callVi (pc := 266) (d := 1) (st := [.inl x1, .inr 19]) (o := 1) [.inl 62] dX0_cut_266 l_X0_35 in_X9_mayTake se_X9_mayTake rfl rfl rfl ⟨Nat.le_of_ble_eq_true rfl, Nat.le_of_ble_eq_true rfl⟩ ⟨Nat.le_of_ble_eq_true rfl, Nat.le_of_ble_eq_true rfl⟩ (Nat.le_of_ble_eq_true rfl) ?_
  refine Calls.mono (fun r266 M266 hr266 hM266 h => ?_) h
  refine a_if_eq (pc := 269) 276 dX0_cut_269 rfl ⟨fun hc => ?_, fun hc => ?_⟩
  · replace h := h.1 hc
    refine a_iconst (pc := 276) dX0_cut_276 (cnb rfl) ?_
    refine a_iast (pc := 277) dX0_cut_277 rfl h.1.1 h.1.2 ?_
    replace h := h.2
    exact h
  · replace h := h.2 hc
    refine a_iconst (pc := 272) dX0_cut_272 (cnb rfl) ?_
    refine a_goto (pc := 273) 277 dX0_cut_273 rfl ?_
    refine a_iast (pc := 277) dX0_cut_277 rfl h.1.1 h.1.2 ?_
    replace h := h.2
    exact h
set_option maxRecDepth 20000 in
theorem s_X0_cut_278 {Q : Int → Me → Prop}  (x1 : Int) (M : Me) (h :
    cn (x1 + 1) ∧
    Q 0 (mput M 13 8 (x1 + 1))) :
    Go (km 3 mX0_cut Q) 278 [some (.inr 12), some (.inl x1), none, none] [] M := by
  refine a_aload_n (pc := 278) dX0_cut_278 rfl ?_
  refine a_getr (pc := 279) dX0_cut_279 f_X0_18 rfl ?_
  refine a_iload_n (pc := 282) dX0_cut_282 rfl ?_
  refine a_iconst (pc := 283) dX0_cut_283 (cnb rfl) ?_
  refine a_iadd (pc := 284) dX0_cut_284 h.1 ?_
  replace h := h.2
  refine a_puti (pc := 285) 8 dX0_cut_285 f_X0_28 rfl rfl (Or.inl rfl) ?_
  exact a_ret (pc := 288) dX0_cut_288 rfl h
set_option maxRecDepth 20000 in
theorem s_X0_read_0 {Q : Int → Me → Prop}  (a : Int) (M : Me) (h :
    Calls 1 mX9_beginText [.inr 1, .inl a] M (fun r5 M5 =>
    Go (km 4 mX0_read Q) 20 [some (.inr 12), none, some (.inl 1), some (.inl 0)] [] (mput M5 13 8 0))) :
    Go (km 4 mX0_read Q) 0 [some (.inr 12), some (.inl a), none, none] [] M := by
  refine a_aload_n (pc := 0) dX0_read_0 rfl ?_
  refine a_getr (pc := 1) dX0_read_1 f_X0_9 rfl ?_
  refine a_iload_n (pc := 4) dX0_read_4 rfl ?_
  refine a_callVv (pc := 5) (d := 1) (st := []) (o := 1) [.inl a] dX0_read_5 l_X0_22 in_X9_beginText se_X9_beginText rfl rfl rfl ⟨Nat.le_of_ble_eq_true rfl, Nat.le_of_ble_eq_true rfl⟩ ⟨Nat.le_of_ble_eq_true rfl, Nat.le_of_ble_eq_true rfl⟩ (Nat.le_of_ble_eq_true rfl) ?_
  refine Calls.mono (fun r5 M5 hr5 hM5 h => ?_) h
  refine a_aload_n (pc := 8) dX0_read_8 rfl ?_
  refine a_getr (pc := 9) dX0_read_9 f_X0_18 rfl ?_
  refine a_iconst (pc := 12) dX0_read_12 (cnb rfl) ?_
  refine a_puti (pc := 13) 8 dX0_read_13 f_X0_28 rfl rfl (Or.inl rfl) ?_
  refine a_iconst (pc := 16) dX0_read_16 (cnb rfl) ?_
  refine a_istore_n (pc := 17) dX0_read_17 (Nat.le_of_ble_eq_true rfl) ?_
  refine a_iconst (pc := 18) dX0_read_18 (cnb rfl) ?_
  refine a_istore_n (pc := 19) dX0_read_19 (Nat.le_of_ble_eq_true rfl) ?_
  exact Go.weak h (And.intro rfl (And.intro rfl (And.intro rfl True.intro)))
set_option maxRecDepth 20000 in
theorem e_X0_read {Q : Int → Me → Prop}  {a : Int} {M : Me} (h :
    Calls 1 mX9_beginText [.inr 1, .inl a] M (fun r5 M5 =>
    Go (km 4 mX0_read Q) 20 [some (.inr 12), none, some (.inl 1), some (.inl 0)] [] (mput M5 13 8 0))) : Calls 4 mX0_read [.inr 12, .inl a] M Q := Calls.of (by decide) (Nat.le_of_ble_eq_true rfl) (s_X0_read_0  a M h)
set_option maxRecDepth 20000 in
theorem s_X0_read_20 {Q : Int → Me → Prop}  (x2 x3 : Int) (M : Me) (h :
    ((16 < x3 →
    Calls 1 mX9_endText [.inr 1, .inl (M 13 8)] M (fun r62 M62 =>
    Q r62 M62)) ∧ (x3 ≤ 16 →
    ((x2 = 0 →
    Calls 1 mX9_endText [.inr 1, .inl (M 13 8)] M (fun r62 M62 =>
    Q r62 M62)) ∧ (x2 ≠ 0 →
    Calls 3 mX0_cut [.inr 12, .inl x3] M (fun r32 M32 =>
    Calls 1 mX9_mayTake [.inr 1, .inl 59] M32 (fun r41 M41 =>
    cn (x3 + 1) ∧
    Go (km 4 mX0_read Q) 20 [some (.inr 12), none, some (.inl r41), some (.inl (x3 + 1))] [] M41))))))) :
    Go (km 4 mX0_read Q) 20 [some (.inr 12), none, some (.inl x2), some (.inl x3)] [] M := by
  refine a_iload_n (pc := 20) dX0_read_20 rfl ?_
  refine a_bipush (pc := 21) dX0_read_21 (by decide) (cnb rfl) ?_
  refine a_icmp_gt (pc := 23) 51 dX0_read_23 rfl ⟨fun hc => ?_, fun hc => ?_⟩
  · replace h := h.1 hc
    refine a_aload_n (pc := 51) dX0_read_51 rfl ?_
    refine a_getr (pc := 52) dX0_read_52 f_X0_9 rfl ?_
    refine a_aload_n (pc := 55) dX0_read_55 rfl ?_
    refine a_getr (pc := 56) dX0_read_56 f_X0_18 rfl ?_
    refine a_geti (pc := 59) 8 dX0_read_59 f_X0_28 rfl rfl ?_
    refine a_callVi (pc := 62) (d := 1) (st := []) (o := 1) [.inl (M 13 8)] dX0_read_62 l_X0_39 in_X9_endText se_X9_endText rfl rfl rfl ⟨Nat.le_of_ble_eq_true rfl, Nat.le_of_ble_eq_true rfl⟩ ⟨Nat.le_of_ble_eq_true rfl, Nat.le_of_ble_eq_true rfl⟩ (Nat.le_of_ble_eq_true rfl) ?_
    refine Calls.mono (fun r62 M62 hr62 hM62 h => ?_) h
    exact a_iretI (pc := 65) dX0_read_65 rfl h
  · replace h := h.2 hc
    refine a_iload_n (pc := 26) dX0_read_26 rfl ?_
    refine a_if_eq (pc := 27) 51 dX0_read_27 rfl ⟨fun hc => ?_, fun hc => ?_⟩
    · replace h := h.1 hc
      refine a_aload_n (pc := 51) dX0_read_51 rfl ?_
      refine a_getr (pc := 52) dX0_read_52 f_X0_9 rfl ?_
      refine a_aload_n (pc := 55) dX0_read_55 rfl ?_
      refine a_getr (pc := 56) dX0_read_56 f_X0_18 rfl ?_
      refine a_geti (pc := 59) 8 dX0_read_59 f_X0_28 rfl rfl ?_
      refine a_callVi (pc := 62) (d := 1) (st := []) (o := 1) [.inl (M 13 8)] dX0_read_62 l_X0_39 in_X9_endText se_X9_endText rfl rfl rfl ⟨Nat.le_of_ble_eq_true rfl, Nat.le_of_ble_eq_true rfl⟩ ⟨Nat.le_of_ble_eq_true rfl, Nat.le_of_ble_eq_true rfl⟩ (Nat.le_of_ble_eq_true rfl) ?_
      refine Calls.mono (fun r62 M62 hr62 hM62 h => ?_) h
      exact a_iretI (pc := 65) dX0_read_65 rfl h
    · replace h := h.2 hc
      refine a_aload_n (pc := 30) dX0_read_30 rfl ?_
      refine a_iload_n (pc := 31) dX0_read_31 rfl ?_
      refine a_callVv (pc := 32) (d := 3) (st := []) (o := 12) [.inl x3] dX0_read_32 l_X0_32 in_X0_cut se_X0_cut rfl rfl rfl ⟨Nat.le_of_ble_eq_true rfl, Nat.le_of_ble_eq_true rfl⟩ ⟨Nat.le_of_ble_eq_true rfl, Nat.le_of_ble_eq_true rfl⟩ (Nat.le_of_ble_eq_true rfl) ?_
      refine Calls.mono (fun r32 M32 hr32 hM32 h => ?_) h
      refine a_aload_n (pc := 35) dX0_read_35 rfl ?_
      refine a_getr (pc := 36) dX0_read_36 f_X0_9 rfl ?_
      refine a_bipush (pc := 39) dX0_read_39 (by decide) (cnb rfl) ?_
      refine a_callVi (pc := 41) (d := 1) (st := []) (o := 1) [.inl 59] dX0_read_41 l_X0_35 in_X9_mayTake se_X9_mayTake rfl rfl rfl ⟨Nat.le_of_ble_eq_true rfl, Nat.le_of_ble_eq_true rfl⟩ ⟨Nat.le_of_ble_eq_true rfl, Nat.le_of_ble_eq_true rfl⟩ (Nat.le_of_ble_eq_true rfl) ?_
      refine Calls.mono (fun r41 M41 hr41 hM41 h => ?_) h
      refine a_istore_n (pc := 44) dX0_read_44 (Nat.le_of_ble_eq_true rfl) ?_
      refine a_iinc (pc := 45) dX0_read_45 rfl h.1 (Nat.le_of_ble_eq_true rfl) ?_
      replace h := h.2
      refine a_goto (pc := 48) 20 dX0_read_48 rfl ?_
      exact h
set_option maxRecDepth 20000 in
theorem s_X12_readsWithin_0 {Q : Int → Me → Prop}  (a : Int) (M : Me) (h :
    Calls 1 mX12_isDigit [.inr 76] M (fun r6 M6 =>
    ((r6 ≠ 0 →
    Go (km 2 mX12_readsWithin Q) 27 [some (.inr 76), some (.inl a), some (.inl (M 76 14))] [] (mput M6 76 17 0)) ∧ (r6 = 0 →
    Calls 0 mX12_wrongAt [.inr 76, .inl 1, .inl (M6 76 14)] M6 (fun r18 M18 =>
    (r18 = 0 ∨ r18 = 1) ∧
    Q r18 M18))))) :
    Go (km 2 mX12_readsWithin Q) 0 [some (.inr 76), some (.inl a), none] [] M := by
  refine a_aload_n (pc := 0) dX12_readsWithin_0 rfl ?_
  refine a_geti (pc := 1) 14 dX12_readsWithin_1 f_X12_175 rfl rfl ?_
  refine a_istore_n (pc := 4) dX12_readsWithin_4 (Nat.le_of_ble_eq_true rfl) ?_
  refine a_aload_n (pc := 5) dX12_readsWithin_5 rfl ?_
  refine a_callVi (pc := 6) (d := 1) (st := []) (o := 76) [] dX12_readsWithin_6 l_X12_195 in_X12_isDigit se_X12_isDigit rfl rfl rfl ⟨Nat.le_of_ble_eq_true rfl, Nat.le_of_ble_eq_true rfl⟩ ⟨Nat.le_of_ble_eq_true rfl, Nat.le_of_ble_eq_true rfl⟩ (Nat.le_of_ble_eq_true rfl) ?_
  refine Calls.mono (fun r6 M6 hr6 hM6 h => ?_) h
  refine a_if_ne (pc := 9) 22 dX12_readsWithin_9 rfl ⟨fun hc => ?_, fun hc => ?_⟩
  · replace h := h.1 hc
    refine a_aload_n (pc := 22) dX12_readsWithin_22 rfl ?_
    refine a_iconst (pc := 23) dX12_readsWithin_23 (cnb rfl) ?_
    refine a_puti (pc := 24) 17 dX12_readsWithin_24 f_X12_192 rfl rfl (Or.inl rfl) ?_
    exact h
  · replace h := h.2 hc
    refine a_aload_n (pc := 12) dX12_readsWithin_12 rfl ?_
    refine a_iconst (pc := 13) dX12_readsWithin_13 (cnb rfl) ?_
    refine a_aload_n (pc := 14) dX12_readsWithin_14 rfl ?_
    refine a_geti (pc := 15) 14 dX12_readsWithin_15 f_X12_175 rfl rfl ?_
    refine a_callVi (pc := 18) (d := 0) (st := []) (o := 76) [.inl 1, .inl (M6 76 14)] dX12_readsWithin_18 l_X12_188 in_X12_wrongAt se_X12_wrongAt rfl rfl rfl ⟨Nat.le_of_ble_eq_true rfl, Nat.le_of_ble_eq_true rfl⟩ ⟨Nat.le_of_ble_eq_true rfl, Nat.le_of_ble_eq_true rfl⟩ (Nat.le_of_ble_eq_true rfl) ?_
    refine Calls.mono (fun r18 M18 hr18 hM18 h => ?_) h
    exact a_iretZ (pc := 21) dX12_readsWithin_21 rfl h.1 h.2
set_option maxRecDepth 20000 in
theorem e_X12_readsWithin {Q : Int → Me → Prop}  {a : Int} {M : Me} (h :
    Calls 1 mX12_isDigit [.inr 76] M (fun r6 M6 =>
    ((r6 ≠ 0 →
    Go (km 2 mX12_readsWithin Q) 27 [some (.inr 76), some (.inl a), some (.inl (M 76 14))] [] (mput M6 76 17 0)) ∧ (r6 = 0 →
    Calls 0 mX12_wrongAt [.inr 76, .inl 1, .inl (M6 76 14)] M6 (fun r18 M18 =>
    (r18 = 0 ∨ r18 = 1) ∧
    Q r18 M18))))) : Calls 2 mX12_readsWithin [.inr 76, .inl a] M Q := Calls.of (by decide) (Nat.le_of_ble_eq_true rfl) (s_X12_readsWithin_0  a M h)
set_option maxRecDepth 20000 in
theorem s_X12_readsWithin_27 {Q : Int → Me → Prop}  (x1 x2 : Int) (M : Me) (h :
    Calls 1 mX12_isDigit [.inr 76] M (fun r28 M28 =>
    ((r28 = 0 →
    ((M28 76 17 ≤ x1 →
    Q 1 M28) ∧ (x1 < M28 76 17 →
    Calls 0 mX12_wrongAt [.inr 76, .inl 3, .inl x2] M28 (fun r97 M97 =>
    ((r97 = 0 →
    Q 0 M97) ∧ (r97 ≠ 0 →
    Q 1 M97)))))) ∧ (r28 ≠ 0 →
    cn (x2 + 2) ∧
    ((M28 76 14 ≠ x2 + 2 →
    cn (10 * (M28 76 17)) ∧
    Calls 0 mX12_here [.inr 76] M28 (fun r63 M63 =>
    cn ((10 * (M28 76 17)) + r63) ∧
    cn (((10 * (M28 76 17)) + r63) - 48) ∧
    cn ((M63 76 14) + 1) ∧
    Go (km 2 mX12_readsWithin Q) 27 [some (.inr 76), some (.inl x1), some (.inl x2)] [] (mput (mput M63 76 17 (((10 * (M28 76 17)) + r63) - 48)) 76 14 ((M63 76 14) + 1)))) ∧ (M28 76 14 = x2 + 2 →
    Calls 0 mX12_wrongAt [.inr 76, .inl 2, .inl (M28 76 14)] M28 (fun r50 M50 =>
    (r50 = 0 ∨ r50 = 1) ∧
    Q r50 M50))))))) :
    Go (km 2 mX12_readsWithin Q) 27 [some (.inr 76), some (.inl x1), some (.inl x2)] [] M := by
  refine a_aload_n (pc := 27) dX12_readsWithin_27 rfl ?_
  refine a_callVi (pc := 28) (d := 1) (st := []) (o := 76) [] dX12_readsWithin_28 l_X12_195 in_X12_isDigit se_X12_isDigit rfl rfl rfl ⟨Nat.le_of_ble_eq_true rfl, Nat.le_of_ble_eq_true rfl⟩ ⟨Nat.le_of_ble_eq_true rfl, Nat.le_of_ble_eq_true rfl⟩ (Nat.le_of_ble_eq_true rfl) ?_
  refine Calls.mono (fun r28 M28 hr28 hM28 h => ?_) h
  refine a_if_eq (pc := 31) 86 dX12_readsWithin_31 rfl ⟨fun hc => ?_, fun hc => ?_⟩
  · replace h := h.1 hc
    refine a_aload_n (pc := 86) dX12_readsWithin_86 rfl ?_
    refine a_geti (pc := 87) 17 dX12_readsWithin_87 f_X12_192 rfl rfl ?_
    refine a_iload_n (pc := 90) dX12_readsWithin_90 rfl ?_
    refine a_icmp_le (pc := 91) 103 dX12_readsWithin_91 rfl ⟨fun hc => ?_, fun hc => ?_⟩
    · replace h := h.1 hc
      refine a_iconst (pc := 103) dX12_readsWithin_103 (cnb rfl) ?_
      refine a_goto (pc := 104) 108 dX12_readsWithin_104 rfl ?_
      exact a_iretZ (pc := 108) dX12_readsWithin_108 rfl (by decide) h
    · replace h := h.2 hc
      refine a_aload_n (pc := 94) dX12_readsWithin_94 rfl ?_
      refine a_iconst (pc := 95) dX12_readsWithin_95 (cnb rfl) ?_
      refine a_iload_n (pc := 96) dX12_readsWithin_96 rfl ?_
      refine a_callVi (pc := 97) (d := 0) (st := []) (o := 76) [.inl 3, .inl x2] dX12_readsWithin_97 l_X12_188 in_X12_wrongAt se_X12_wrongAt rfl rfl rfl ⟨Nat.le_of_ble_eq_true rfl, Nat.le_of_ble_eq_true rfl⟩ ⟨Nat.le_of_ble_eq_true rfl, Nat.le_of_ble_eq_true rfl⟩ (Nat.le_of_ble_eq_true rfl) ?_
      refine Calls.mono (fun r97 M97 hr97 hM97 h => ?_) h
      refine a_if_eq (pc := 100) 107 dX12_readsWithin_100 rfl ⟨fun hc => ?_, fun hc => ?_⟩
      · replace h := h.1 hc
        refine a_iconst (pc := 107) dX12_readsWithin_107 (cnb rfl) ?_
        exact a_iretZ (pc := 108) dX12_readsWithin_108 rfl (by decide) h
      · replace h := h.2 hc
        refine a_iconst (pc := 103) dX12_readsWithin_103 (cnb rfl) ?_
        refine a_goto (pc := 104) 108 dX12_readsWithin_104 rfl ?_
        exact a_iretZ (pc := 108) dX12_readsWithin_108 rfl (by decide) h
  · replace h := h.2 hc
    refine a_aload_n (pc := 34) dX12_readsWithin_34 rfl ?_
    refine a_geti (pc := 35) 14 dX12_readsWithin_35 f_X12_175 rfl rfl ?_
    refine a_iload_n (pc := 38) dX12_readsWithin_38 rfl ?_
    refine a_iconst (pc := 39) dX12_readsWithin_39 (cnb rfl) ?_
    refine a_iadd (pc := 40) dX12_readsWithin_40 h.1 ?_
    replace h := h.2
    refine a_icmp_ne (pc := 41) 54 dX12_readsWithin_41 rfl ⟨fun hc => ?_, fun hc => ?_⟩
    · replace h := h.1 hc
      refine a_aload_n (pc := 54) dX12_readsWithin_54 rfl ?_
      refine a_bipush (pc := 55) dX12_readsWithin_55 (by decide) (cnb rfl) ?_
      refine a_aload_n (pc := 57) dX12_readsWithin_57 rfl ?_
      refine a_geti (pc := 58) 17 dX12_readsWithin_58 f_X12_192 rfl rfl ?_
      refine a_imul (pc := 61) dX12_readsWithin_61 h.1 ?_
      replace h := h.2
      refine a_aload_n (pc := 62) dX12_readsWithin_62 rfl ?_
      refine a_callVi (pc := 63) (d := 0) (st := [.inl (10 * (M28 76 17)), .inr 76]) (o := 76) [] dX12_readsWithin_63 l_X12_181 in_X12_here se_X12_here rfl rfl rfl ⟨Nat.le_of_ble_eq_true rfl, Nat.le_of_ble_eq_true rfl⟩ ⟨Nat.le_of_ble_eq_true rfl, Nat.le_of_ble_eq_true rfl⟩ (Nat.le_of_ble_eq_true rfl) ?_
      refine Calls.mono (fun r63 M63 hr63 hM63 h => ?_) h
      refine a_iadd (pc := 66) dX12_readsWithin_66 h.1 ?_
      replace h := h.2
      refine a_bipush (pc := 67) dX12_readsWithin_67 (by decide) (cnb rfl) ?_
      refine a_isub (pc := 69) dX12_readsWithin_69 h.1 ?_
      replace h := h.2
      refine a_puti (pc := 70) 17 dX12_readsWithin_70 f_X12_192 rfl rfl (Or.inl rfl) ?_
      refine a_aload_n (pc := 73) dX12_readsWithin_73 rfl ?_
      refine a_aload_n (pc := 74) dX12_readsWithin_74 rfl ?_
      refine a_getiE (pc := 75) (M63 76 14) 14 dX12_readsWithin_75 f_X12_175 rfl rfl (mput_ni _ _ _ _ (by decide)) ?_
      refine a_iconst (pc := 78) dX12_readsWithin_78 (cnb rfl) ?_
      refine a_iadd (pc := 79) dX12_readsWithin_79 h.1 ?_
      replace h := h.2
      refine a_puti (pc := 80) 14 dX12_readsWithin_80 f_X12_175 rfl rfl (Or.inl rfl) ?_
      refine a_goto (pc := 83) 27 dX12_readsWithin_83 rfl ?_
      exact h
    · replace h := h.2 hc
      refine a_aload_n (pc := 44) dX12_readsWithin_44 rfl ?_
      refine a_iconst (pc := 45) dX12_readsWithin_45 (cnb rfl) ?_
      refine a_aload_n (pc := 46) dX12_readsWithin_46 rfl ?_
      refine a_geti (pc := 47) 14 dX12_readsWithin_47 f_X12_175 rfl rfl ?_
      refine a_callVi (pc := 50) (d := 0) (st := []) (o := 76) [.inl 2, .inl (M28 76 14)] dX12_readsWithin_50 l_X12_188 in_X12_wrongAt se_X12_wrongAt rfl rfl rfl ⟨Nat.le_of_ble_eq_true rfl, Nat.le_of_ble_eq_true rfl⟩ ⟨Nat.le_of_ble_eq_true rfl, Nat.le_of_ble_eq_true rfl⟩ (Nat.le_of_ble_eq_true rfl) ?_
      refine Calls.mono (fun r50 M50 hr50 hM50 h => ?_) h
      exact a_iretZ (pc := 53) dX12_readsWithin_53 rfl h.1 h.2
set_option maxRecDepth 20000 in
theorem s_X12_readsInitials_0 {Q : Int → Me → Prop}  (a : Int) (M : Me) (h :
    Calls 1 mX12_isLetter [.inr 76] M (fun r1 M1 =>
    ((r1 ≠ 0 →
    Calls 0 mX12_here [.inr 76] M1 (fun r23 M23 =>
    cn (r23 - 65) ∧
    (0 ≤ a ∧ a < 16) ∧
    cn ((M23 76 14) + 1) ∧
    Calls 1 mX12_passes [.inr 76, .inl 38] (mput (mput M23 103 a (r23 - 65)) 76 14 ((M23 76 14) + 1)) (fun r48 M48 =>
    ((r48 ≠ 1 →
    (0 ≤ a ∧ a < 16) ∧
    Go (km 2 mX12_readsInitials Q) 63 [some (.inr 76), some (.inl a)] [] (mput M48 104 a (-2))) ∧ (r48 = 1 →
    (0 ≤ a ∧ a < 16) ∧
    Go (km 2 mX12_readsInitials Q) 63 [some (.inr 76), some (.inl a)] [] (mput M48 104 a (-3))))))) ∧ (r1 = 0 →
    Calls 0 mX12_wrongAt [.inr 76, .inl 1, .inl (M1 76 14)] M1 (fun r13 M13 =>
    (r13 = 0 ∨ r13 = 1) ∧
    Q r13 M13))))) :
    Go (km 2 mX12_readsInitials Q) 0 [some (.inr 76), some (.inl a)] [] M := by
  refine a_aload_n (pc := 0) dX12_readsInitials_0 rfl ?_
  refine a_callVi (pc := 1) (d := 1) (st := []) (o := 76) [] dX12_readsInitials_1 l_X12_279 in_X12_isLetter se_X12_isLetter rfl rfl rfl ⟨Nat.le_of_ble_eq_true rfl, Nat.le_of_ble_eq_true rfl⟩ ⟨Nat.le_of_ble_eq_true rfl, Nat.le_of_ble_eq_true rfl⟩ (Nat.le_of_ble_eq_true rfl) ?_
  refine Calls.mono (fun r1 M1 hr1 hM1 h => ?_) h
  refine a_if_ne (pc := 4) 17 dX12_readsInitials_4 rfl ⟨fun hc => ?_, fun hc => ?_⟩
  · replace h := h.1 hc
    refine a_aload_n (pc := 17) dX12_readsInitials_17 rfl ?_
    refine a_getr (pc := 18) dX12_readsInitials_18 f_X12_89 rfl ?_
    refine a_iload_n (pc := 21) dX12_readsInitials_21 rfl ?_
    refine a_aload_n (pc := 22) dX12_readsInitials_22 rfl ?_
    refine a_callVi (pc := 23) (d := 0) (st := [.inl a, .inr 103]) (o := 76) [] dX12_readsInitials_23 l_X12_181 in_X12_here se_X12_here rfl rfl rfl ⟨Nat.le_of_ble_eq_true rfl, Nat.le_of_ble_eq_true rfl⟩ ⟨Nat.le_of_ble_eq_true rfl, Nat.le_of_ble_eq_true rfl⟩ (Nat.le_of_ble_eq_true rfl) ?_
    refine Calls.mono (fun r23 M23 hr23 hM23 h => ?_) h
    refine a_bipush (pc := 26) dX12_readsInitials_26 (by decide) (cnb rfl) ?_
    refine a_isub (pc := 28) dX12_readsInitials_28 h.1 ?_
    replace h := h.2
    refine a_iast (pc := 29) dX12_readsInitials_29 rfl h.1.1 h.1.2 ?_
    replace h := h.2
    refine a_aload_n (pc := 30) dX12_readsInitials_30 rfl ?_
    refine a_aload_n (pc := 31) dX12_readsInitials_31 rfl ?_
    refine a_getiE (pc := 32) (M23 76 14) 14 dX12_readsInitials_32 f_X12_175 rfl rfl (mput_ne _ _ _ _ (by decide)) ?_
    refine a_iconst (pc := 35) dX12_readsInitials_35 (cnb rfl) ?_
    refine a_iadd (pc := 36) dX12_readsInitials_36 h.1 ?_
    replace h := h.2
    refine a_puti (pc := 37) 14 dX12_readsInitials_37 f_X12_175 rfl rfl (Or.inl rfl) ?_
    refine a_aload_n (pc := 40) dX12_readsInitials_40 rfl ?_
    refine a_getr (pc := 41) dX12_readsInitials_41 f_X12_92 rfl ?_
    refine a_iload_n (pc := 44) dX12_readsInitials_44 rfl ?_
    refine a_aload_n (pc := 45) dX12_readsInitials_45 rfl ?_
    refine a_bipush (pc := 46) dX12_readsInitials_46 (by decide) (cnb rfl) ?_
    refine a_callVi (pc := 48) (d := 1) (st := [.inl a, .inr 104]) (o := 76) [.inl 38] dX12_readsInitials_48 l_X12_282 in_X12_passes se_X12_passes rfl rfl rfl ⟨Nat.le_of_ble_eq_true rfl, Nat.le_of_ble_eq_true rfl⟩ ⟨Nat.le_of_ble_eq_true rfl, Nat.le_of_ble_eq_true rfl⟩ (Nat.le_of_ble_eq_true rfl) ?_
    refine Calls.mono (fun r48 M48 hr48 hM48 h => ?_) h
    refine a_iconst (pc := 51) dX12_readsInitials_51 (cnb rfl) ?_
    refine a_icmp_ne (pc := 52) 60 dX12_readsInitials_52 rfl ⟨fun hc => ?_, fun hc => ?_⟩
    · replace h := h.1 hc
      refine a_bipush (pc := 60) dX12_readsInitials_60 (by decide) (cnb rfl) ?_
      refine a_iast (pc := 62) dX12_readsInitials_62 rfl h.1.1 h.1.2 ?_
      replace h := h.2
      exact h
    · replace h := h.2 hc
      refine a_bipush (pc := 55) dX12_readsInitials_55 (by decide) (cnb rfl) ?_
      refine a_goto (pc := 57) 62 dX12_readsInitials_57 rfl ?_
      refine a_iast (pc := 62) dX12_readsInitials_62 rfl h.1.1 h.1.2 ?_
      replace h := h.2
      exact h
  · replace h := h.2 hc
    refine a_aload_n (pc := 7) dX12_readsInitials_7 rfl ?_
    refine a_iconst (pc := 8) dX12_readsInitials_8 (cnb rfl) ?_
    refine a_aload_n (pc := 9) dX12_readsInitials_9 rfl ?_
    refine a_geti (pc := 10) 14 dX12_readsInitials_10 f_X12_175 rfl rfl ?_
    refine a_callVi (pc := 13) (d := 0) (st := []) (o := 76) [.inl 1, .inl (M1 76 14)] dX12_readsInitials_13 l_X12_188 in_X12_wrongAt se_X12_wrongAt rfl rfl rfl ⟨Nat.le_of_ble_eq_true rfl, Nat.le_of_ble_eq_true rfl⟩ ⟨Nat.le_of_ble_eq_true rfl, Nat.le_of_ble_eq_true rfl⟩ (Nat.le_of_ble_eq_true rfl) ?_
    refine Calls.mono (fun r13 M13 hr13 hM13 h => ?_) h
    exact a_iretZ (pc := 16) dX12_readsInitials_16 rfl h.1 h.2
set_option maxRecDepth 20000 in
theorem e_X12_readsInitials {Q : Int → Me → Prop}  {a : Int} {M : Me} (h :
    Calls 1 mX12_isLetter [.inr 76] M (fun r1 M1 =>
    ((r1 ≠ 0 →
    Calls 0 mX12_here [.inr 76] M1 (fun r23 M23 =>
    cn (r23 - 65) ∧
    (0 ≤ a ∧ a < 16) ∧
    cn ((M23 76 14) + 1) ∧
    Calls 1 mX12_passes [.inr 76, .inl 38] (mput (mput M23 103 a (r23 - 65)) 76 14 ((M23 76 14) + 1)) (fun r48 M48 =>
    ((r48 ≠ 1 →
    (0 ≤ a ∧ a < 16) ∧
    Go (km 2 mX12_readsInitials Q) 63 [some (.inr 76), some (.inl a)] [] (mput M48 104 a (-2))) ∧ (r48 = 1 →
    (0 ≤ a ∧ a < 16) ∧
    Go (km 2 mX12_readsInitials Q) 63 [some (.inr 76), some (.inl a)] [] (mput M48 104 a (-3))))))) ∧ (r1 = 0 →
    Calls 0 mX12_wrongAt [.inr 76, .inl 1, .inl (M1 76 14)] M1 (fun r13 M13 =>
    (r13 = 0 ∨ r13 = 1) ∧
    Q r13 M13))))) : Calls 2 mX12_readsInitials [.inr 76, .inl a] M Q := Calls.of (by decide) (Nat.le_of_ble_eq_true rfl) (s_X12_readsInitials_0  a M h)
set_option maxRecDepth 20000 in
theorem s_X12_readsInitials_63 {Q : Int → Me → Prop}  (x1 : Int) (M : Me) (h :
    Calls 1 mX12_isLetter [.inr 76] M (fun r64 M64 =>
    ((r64 ≠ 0 →
    Calls 0 mX12_here [.inr 76] M64 (fun r73 M73 =>
    cn (r73 - 65) ∧
    (0 ≤ x1 ∧ x1 < 16) ∧
    ((r73 - 65 ≠ M73 103 x1 →
    Calls 0 mX12_here [.inr 76] M73 (fun r105 M105 =>
    cn (r105 - 65) ∧
    (0 ≤ x1 ∧ x1 < 16) ∧
    cn ((M105 76 14) + 1) ∧
    Q 1 (mput (mput M105 104 x1 (r105 - 65)) 76 14 ((M105 76 14) + 1)))) ∧ (r73 - 65 = M73 103 x1 →
    Calls 0 mX12_wrongAt [.inr 76, .inl 6, .inl (M73 76 14)] M73 (fun r95 M95 =>
    (r95 = 0 ∨ r95 = 1) ∧
    Q r95 M95))))) ∧ (r64 = 0 →
    Q 1 M64)))) :
    Go (km 2 mX12_readsInitials Q) 63 [some (.inr 76), some (.inl x1)] [] M := by
  refine a_aload_n (pc := 63) dX12_readsInitials_63 rfl ?_
  refine a_callVi (pc := 64) (d := 1) (st := []) (o := 76) [] dX12_readsInitials_64 l_X12_279 in_X12_isLetter se_X12_isLetter rfl rfl rfl ⟨Nat.le_of_ble_eq_true rfl, Nat.le_of_ble_eq_true rfl⟩ ⟨Nat.le_of_ble_eq_true rfl, Nat.le_of_ble_eq_true rfl⟩ (Nat.le_of_ble_eq_true rfl) ?_
  refine Calls.mono (fun r64 M64 hr64 hM64 h => ?_) h
  refine a_if_ne (pc := 67) 72 dX12_readsInitials_67 rfl ⟨fun hc => ?_, fun hc => ?_⟩
  · replace h := h.1 hc
    refine a_aload_n (pc := 72) dX12_readsInitials_72 rfl ?_
    refine a_callVi (pc := 73) (d := 0) (st := []) (o := 76) [] dX12_readsInitials_73 l_X12_181 in_X12_here se_X12_here rfl rfl rfl ⟨Nat.le_of_ble_eq_true rfl, Nat.le_of_ble_eq_true rfl⟩ ⟨Nat.le_of_ble_eq_true rfl, Nat.le_of_ble_eq_true rfl⟩ (Nat.le_of_ble_eq_true rfl) ?_
    refine Calls.mono (fun r73 M73 hr73 hM73 h => ?_) h
    refine a_bipush (pc := 76) dX12_readsInitials_76 (by decide) (cnb rfl) ?_
    refine a_isub (pc := 78) dX12_readsInitials_78 h.1 ?_
    replace h := h.2
    refine a_aload_n (pc := 79) dX12_readsInitials_79 rfl ?_
    refine a_getr (pc := 80) dX12_readsInitials_80 f_X12_89 rfl ?_
    refine a_iload_n (pc := 83) dX12_readsInitials_83 rfl ?_
    refine a_iald (pc := 84) dX12_readsInitials_84 rfl h.1.1 h.1.2  ?_
    replace h := h.2
    refine a_icmp_ne (pc := 85) 99 dX12_readsInitials_85 rfl ⟨fun hc => ?_, fun hc => ?_⟩
    · replace h := h.1 hc
      refine a_aload_n (pc := 99) dX12_readsInitials_99 rfl ?_
      refine a_getr (pc := 100) dX12_readsInitials_100 f_X12_92 rfl ?_
      refine a_iload_n (pc := 103) dX12_readsInitials_103 rfl ?_
      refine a_aload_n (pc := 104) dX12_readsInitials_104 rfl ?_
      refine a_callVi (pc := 105) (d := 0) (st := [.inl x1, .inr 104]) (o := 76) [] dX12_readsInitials_105 l_X12_181 in_X12_here se_X12_here rfl rfl rfl ⟨Nat.le_of_ble_eq_true rfl, Nat.le_of_ble_eq_true rfl⟩ ⟨Nat.le_of_ble_eq_true rfl, Nat.le_of_ble_eq_true rfl⟩ (Nat.le_of_ble_eq_true rfl) ?_
      refine Calls.mono (fun r105 M105 hr105 hM105 h => ?_) h
      refine a_bipush (pc := 108) dX12_readsInitials_108 (by decide) (cnb rfl) ?_
      refine a_isub (pc := 110) dX12_readsInitials_110 h.1 ?_
      replace h := h.2
      refine a_iast (pc := 111) dX12_readsInitials_111 rfl h.1.1 h.1.2 ?_
      replace h := h.2
      refine a_aload_n (pc := 112) dX12_readsInitials_112 rfl ?_
      refine a_aload_n (pc := 113) dX12_readsInitials_113 rfl ?_
      refine a_getiE (pc := 114) (M105 76 14) 14 dX12_readsInitials_114 f_X12_175 rfl rfl (mput_ne _ _ _ _ (by decide)) ?_
      refine a_iconst (pc := 117) dX12_readsInitials_117 (cnb rfl) ?_
      refine a_iadd (pc := 118) dX12_readsInitials_118 h.1 ?_
      replace h := h.2
      refine a_puti (pc := 119) 14 dX12_readsInitials_119 f_X12_175 rfl rfl (Or.inl rfl) ?_
      refine a_iconst (pc := 122) dX12_readsInitials_122 (cnb rfl) ?_
      exact a_iretZ (pc := 123) dX12_readsInitials_123 rfl (by decide) h
    · replace h := h.2 hc
      refine a_aload_n (pc := 88) dX12_readsInitials_88 rfl ?_
      refine a_bipush (pc := 89) dX12_readsInitials_89 (by decide) (cnb rfl) ?_
      refine a_aload_n (pc := 91) dX12_readsInitials_91 rfl ?_
      refine a_geti (pc := 92) 14 dX12_readsInitials_92 f_X12_175 rfl rfl ?_
      refine a_callVi (pc := 95) (d := 0) (st := []) (o := 76) [.inl 6, .inl (M73 76 14)] dX12_readsInitials_95 l_X12_188 in_X12_wrongAt se_X12_wrongAt rfl rfl rfl ⟨Nat.le_of_ble_eq_true rfl, Nat.le_of_ble_eq_true rfl⟩ ⟨Nat.le_of_ble_eq_true rfl, Nat.le_of_ble_eq_true rfl⟩ (Nat.le_of_ble_eq_true rfl) ?_
      refine Calls.mono (fun r95 M95 hr95 hM95 h => ?_) h
      exact a_iretZ (pc := 98) dX12_readsInitials_98 rfl h.1 h.2
  · replace h := h.2 hc
    refine a_iconst (pc := 70) dX12_readsInitials_70 (cnb rfl) ?_
    exact a_iretZ (pc := 71) dX12_readsInitials_71 rfl (by decide) h
set_option maxRecDepth 20000 in
theorem s_X12_readsDate_0 {Q : Int → Me → Prop}  (a : Int) (M : Me) (h :
    (0 ≤ a ∧ a < 16) ∧
    Calls 1 mX12_isDigit [.inr 76] (mput M 108 a (-2)) (fun r9 M9 =>
    ((r9 ≠ 0 →
    Calls 0 mX12_here [.inr 76] M9 (fun r18 M18 =>
    cn (r18 - 48) ∧
    cn ((M18 76 14) + 1) ∧
    Calls 1 mX12_isDigit [.inr 76] (mput M18 76 14 ((M18 76 14) + 1)) (fun r36 M36 =>
    ((r36 ≠ 0 →
    cn (10 * (r18 - 48)) ∧
    Calls 0 mX12_here [.inr 76] M36 (fun r62 M62 =>
    cn ((10 * (r18 - 48)) + r62) ∧
    cn (((10 * (r18 - 48)) + r62) - 48) ∧
    (0 ≤ a ∧ a < 16) ∧
    cn ((M62 76 14) + 1) ∧
    Q 1 (mput (mput M62 108 a (((10 * (r18 - 48)) + r62) - 48)) 76 14 ((M62 76 14) + 1)))) ∧ (r36 = 0 →
    Calls 0 mX12_wrongAt [.inr 76, .inl 1, .inl (M36 76 14)] M36 (fun r48 M48 =>
    (r48 = 0 ∨ r48 = 1) ∧
    Q r48 M48)))))) ∧ (r9 = 0 →
    Q 1 M9)))) :
    Go (km 2 mX12_readsDate Q) 0 [some (.inr 76), some (.inl a), none] [] M := by
  refine a_aload_n (pc := 0) dX12_readsDate_0 rfl ?_
  refine a_getr (pc := 1) dX12_readsDate_1 f_X12_104 rfl ?_
  refine a_iload_n (pc := 4) dX12_readsDate_4 rfl ?_
  refine a_bipush (pc := 5) dX12_readsDate_5 (by decide) (cnb rfl) ?_
  refine a_iast (pc := 7) dX12_readsDate_7 rfl h.1.1 h.1.2 ?_
  replace h := h.2
  refine a_aload_n (pc := 8) dX12_readsDate_8 rfl ?_
  refine a_callVi (pc := 9) (d := 1) (st := []) (o := 76) [] dX12_readsDate_9 l_X12_195 in_X12_isDigit se_X12_isDigit rfl rfl rfl ⟨Nat.le_of_ble_eq_true rfl, Nat.le_of_ble_eq_true rfl⟩ ⟨Nat.le_of_ble_eq_true rfl, Nat.le_of_ble_eq_true rfl⟩ (Nat.le_of_ble_eq_true rfl) ?_
  refine Calls.mono (fun r9 M9 hr9 hM9 h => ?_) h
  refine a_if_ne (pc := 12) 17 dX12_readsDate_12 rfl ⟨fun hc => ?_, fun hc => ?_⟩
  · replace h := h.1 hc
    refine a_aload_n (pc := 17) dX12_readsDate_17 rfl ?_
    refine a_callVi (pc := 18) (d := 0) (st := []) (o := 76) [] dX12_readsDate_18 l_X12_181 in_X12_here se_X12_here rfl rfl rfl ⟨Nat.le_of_ble_eq_true rfl, Nat.le_of_ble_eq_true rfl⟩ ⟨Nat.le_of_ble_eq_true rfl, Nat.le_of_ble_eq_true rfl⟩ (Nat.le_of_ble_eq_true rfl) ?_
    refine Calls.mono (fun r18 M18 hr18 hM18 h => ?_) h
    refine a_bipush (pc := 21) dX12_readsDate_21 (by decide) (cnb rfl) ?_
    refine a_isub (pc := 23) dX12_readsDate_23 h.1 ?_
    replace h := h.2
    refine a_istore_n (pc := 24) dX12_readsDate_24 (Nat.le_of_ble_eq_true rfl) ?_
    refine a_aload_n (pc := 25) dX12_readsDate_25 rfl ?_
    refine a_aload_n (pc := 26) dX12_readsDate_26 rfl ?_
    refine a_geti (pc := 27) 14 dX12_readsDate_27 f_X12_175 rfl rfl ?_
    refine a_iconst (pc := 30) dX12_readsDate_30 (cnb rfl) ?_
    refine a_iadd (pc := 31) dX12_readsDate_31 h.1 ?_
    replace h := h.2
    refine a_puti (pc := 32) 14 dX12_readsDate_32 f_X12_175 rfl rfl (Or.inl rfl) ?_
    refine a_aload_n (pc := 35) dX12_readsDate_35 rfl ?_
    refine a_callVi (pc := 36) (d := 1) (st := []) (o := 76) [] dX12_readsDate_36 l_X12_195 in_X12_isDigit se_X12_isDigit rfl rfl rfl ⟨Nat.le_of_ble_eq_true rfl, Nat.le_of_ble_eq_true rfl⟩ ⟨Nat.le_of_ble_eq_true rfl, Nat.le_of_ble_eq_true rfl⟩ (Nat.le_of_ble_eq_true rfl) ?_
    refine Calls.mono (fun r36 M36 hr36 hM36 h => ?_) h
    refine a_if_ne (pc := 39) 52 dX12_readsDate_39 rfl ⟨fun hc => ?_, fun hc => ?_⟩
    · replace h := h.1 hc
      refine a_aload_n (pc := 52) dX12_readsDate_52 rfl ?_
      refine a_getr (pc := 53) dX12_readsDate_53 f_X12_104 rfl ?_
      refine a_iload_n (pc := 56) dX12_readsDate_56 rfl ?_
      refine a_bipush (pc := 57) dX12_readsDate_57 (by decide) (cnb rfl) ?_
      refine a_iload_n (pc := 59) dX12_readsDate_59 rfl ?_
      refine a_imul (pc := 60) dX12_readsDate_60 h.1 ?_
      replace h := h.2
      refine a_aload_n (pc := 61) dX12_readsDate_61 rfl ?_
      refine a_callVi (pc := 62) (d := 0) (st := [.inl (10 * (r18 - 48)), .inl a, .inr 108]) (o := 76) [] dX12_readsDate_62 l_X12_181 in_X12_here se_X12_here rfl rfl rfl ⟨Nat.le_of_ble_eq_true rfl, Nat.le_of_ble_eq_true rfl⟩ ⟨Nat.le_of_ble_eq_true rfl, Nat.le_of_ble_eq_true rfl⟩ (Nat.le_of_ble_eq_true rfl) ?_
      refine Calls.mono (fun r62 M62 hr62 hM62 h => ?_) h
      refine a_iadd (pc := 65) dX12_readsDate_65 h.1 ?_
      replace h := h.2
      refine a_bipush (pc := 66) dX12_readsDate_66 (by decide) (cnb rfl) ?_
      refine a_isub (pc := 68) dX12_readsDate_68 h.1 ?_
      replace h := h.2
      refine a_iast (pc := 69) dX12_readsDate_69 rfl h.1.1 h.1.2 ?_
      replace h := h.2
      refine a_aload_n (pc := 70) dX12_readsDate_70 rfl ?_
      refine a_aload_n (pc := 71) dX12_readsDate_71 rfl ?_
      refine a_getiE (pc := 72) (M62 76 14) 14 dX12_readsDate_72 f_X12_175 rfl rfl (mput_ne _ _ _ _ (by decide)) ?_
      refine a_iconst (pc := 75) dX12_readsDate_75 (cnb rfl) ?_
      refine a_iadd (pc := 76) dX12_readsDate_76 h.1 ?_
      replace h := h.2
      refine a_puti (pc := 77) 14 dX12_readsDate_77 f_X12_175 rfl rfl (Or.inl rfl) ?_
      refine a_iconst (pc := 80) dX12_readsDate_80 (cnb rfl) ?_
      exact a_iretZ (pc := 81) dX12_readsDate_81 rfl (by decide) h
    · replace h := h.2 hc
      refine a_aload_n (pc := 42) dX12_readsDate_42 rfl ?_
      refine a_iconst (pc := 43) dX12_readsDate_43 (cnb rfl) ?_
      refine a_aload_n (pc := 44) dX12_readsDate_44 rfl ?_
      refine a_geti (pc := 45) 14 dX12_readsDate_45 f_X12_175 rfl rfl ?_
      refine a_callVi (pc := 48) (d := 0) (st := []) (o := 76) [.inl 1, .inl (M36 76 14)] dX12_readsDate_48 l_X12_188 in_X12_wrongAt se_X12_wrongAt rfl rfl rfl ⟨Nat.le_of_ble_eq_true rfl, Nat.le_of_ble_eq_true rfl⟩ ⟨Nat.le_of_ble_eq_true rfl, Nat.le_of_ble_eq_true rfl⟩ (Nat.le_of_ble_eq_true rfl) ?_
      refine Calls.mono (fun r48 M48 hr48 hM48 h => ?_) h
      exact a_iretZ (pc := 51) dX12_readsDate_51 rfl h.1 h.2
  · replace h := h.2 hc
    refine a_iconst (pc := 15) dX12_readsDate_15 (cnb rfl) ?_
    exact a_iretZ (pc := 16) dX12_readsDate_16 rfl (by decide) h
set_option maxRecDepth 20000 in
theorem e_X12_readsDate {Q : Int → Me → Prop}  {a : Int} {M : Me} (h :
    (0 ≤ a ∧ a < 16) ∧
    Calls 1 mX12_isDigit [.inr 76] (mput M 108 a (-2)) (fun r9 M9 =>
    ((r9 ≠ 0 →
    Calls 0 mX12_here [.inr 76] M9 (fun r18 M18 =>
    cn (r18 - 48) ∧
    cn ((M18 76 14) + 1) ∧
    Calls 1 mX12_isDigit [.inr 76] (mput M18 76 14 ((M18 76 14) + 1)) (fun r36 M36 =>
    ((r36 ≠ 0 →
    cn (10 * (r18 - 48)) ∧
    Calls 0 mX12_here [.inr 76] M36 (fun r62 M62 =>
    cn ((10 * (r18 - 48)) + r62) ∧
    cn (((10 * (r18 - 48)) + r62) - 48) ∧
    (0 ≤ a ∧ a < 16) ∧
    cn ((M62 76 14) + 1) ∧
    Q 1 (mput (mput M62 108 a (((10 * (r18 - 48)) + r62) - 48)) 76 14 ((M62 76 14) + 1)))) ∧ (r36 = 0 →
    Calls 0 mX12_wrongAt [.inr 76, .inl 1, .inl (M36 76 14)] M36 (fun r48 M48 =>
    (r48 = 0 ∨ r48 = 1) ∧
    Q r48 M48)))))) ∧ (r9 = 0 →
    Q 1 M9)))) : Calls 2 mX12_readsDate [.inr 76, .inl a] M Q := Calls.of (by decide) (Nat.le_of_ble_eq_true rfl) (s_X12_readsDate_0  a M h)
set_option maxRecDepth 20000 in
theorem s_X12_readsCut_0 {Q : Int → Me → Prop}  (M : Me) (h :
    Calls 1 mX12_isDigit [.inr 76] M (fun r1 M1 =>
    ((r1 ≠ 0 →
    ((M1 76 43 ≠ 16 →
    cn ((M1 76 43) + 1) ∧
    Calls 2 mX12_readsWithin [.inr 76, .inl 23] (mput M1 76 43 ((M1 76 43) + 1)) (fun r54 M54 =>
    ((r54 ≠ 0 →
    Calls 1 mX12_takes [.inr 76, .inl 44] M54 (fun r70 M70 =>
    ((r70 = 0 →
    Q 0 M70) ∧ (r70 ≠ 0 →
    Calls 2 mX12_readsWithin [.inr 76, .inl 15] M70 (fun r79 M79 =>
    ((r79 ≠ 0 →
    cn (24 * (M79 76 17)) ∧
    cn ((24 * (M79 76 17)) + (M54 76 17)) ∧
    (0 ≤ M1 76 43 ∧ M1 76 43 < 16) ∧
    Calls 1 mX12_takes [.inr 76, .inl 58] (mput M79 102 (M1 76 43) ((24 * (M79 76 17)) + (M54 76 17))) (fun r105 M105 =>
    ((r105 ≠ 0 →
    Calls 1 mX12_passes [.inr 76, .inl 120] M105 (fun r121 M121 =>
    (0 ≤ M1 76 43 ∧ M1 76 43 < 16) ∧
    Calls 1 mX12_passes [.inr 76, .inl 91] (mput M121 106 (M1 76 43) r121) (fun r133 M133 =>
    (0 ≤ M1 76 43 ∧ M1 76 43 < 16) ∧
    Calls 2 mX12_readsInitials [.inr 76, .inl (M1 76 43)] (mput M133 105 (M1 76 43) r133) (fun r139 M139 =>
    ((r139 ≠ 0 →
    (0 ≤ M1 76 43 ∧ M1 76 43 < 16) ∧
    ((M139 105 (M1 76 43) ≠ 1 →
    Go (km 3 mX12_readsCut Q) 168 [some (.inr 76), some (.inl (M1 76 43)), none] [] M139) ∧ (M139 105 (M1 76 43) = 1 →
    Calls 1 mX12_takes [.inr 76, .inl 93] M139 (fun r160 M160 =>
    ((r160 ≠ 0 →
    Go (km 3 mX12_readsCut Q) 168 [some (.inr 76), some (.inl (M1 76 43)), none] [] M160) ∧ (r160 = 0 →
    Q 0 M160)))))) ∧ (r139 = 0 →
    Q 0 M139)))))) ∧ (r105 = 0 →
    Q 0 M105)))) ∧ (r79 = 0 →
    Q 0 M79))))))) ∧ (r54 = 0 →
    Q 0 M54)))) ∧ (M1 76 43 = 16 →
    Calls 0 mX12_wrongAt [.inr 76, .inl 4, .inl (M1 76 14)] M1 (fun r32 M32 =>
    (r32 = 0 ∨ r32 = 1) ∧
    Q r32 M32)))) ∧ (r1 = 0 →
    Calls 0 mX12_wrongAt [.inr 76, .inl 1, .inl (M1 76 14)] M1 (fun r13 M13 =>
    (r13 = 0 ∨ r13 = 1) ∧
    Q r13 M13))))) :
    Go (km 3 mX12_readsCut Q) 0 [some (.inr 76), none, none] [] M := by
  refine a_aload_n (pc := 0) dX12_readsCut_0 rfl ?_
  refine a_callVi (pc := 1) (d := 1) (st := []) (o := 76) [] dX12_readsCut_1 l_X12_195 in_X12_isDigit se_X12_isDigit rfl rfl rfl ⟨Nat.le_of_ble_eq_true rfl, Nat.le_of_ble_eq_true rfl⟩ ⟨Nat.le_of_ble_eq_true rfl, Nat.le_of_ble_eq_true rfl⟩ (Nat.le_of_ble_eq_true rfl) ?_
  refine Calls.mono (fun r1 M1 hr1 hM1 h => ?_) h
  refine a_if_ne (pc := 4) 17 dX12_readsCut_4 rfl ⟨fun hc => ?_, fun hc => ?_⟩
  · replace h := h.1 hc
    refine a_aload_n (pc := 17) dX12_readsCut_17 rfl ?_
    refine a_geti (pc := 18) 43 dX12_readsCut_18 f_X12_285 rfl rfl ?_
    refine a_bipush (pc := 21) dX12_readsCut_21 (by decide) (cnb rfl) ?_
    refine a_icmp_ne (pc := 23) 36 dX12_readsCut_23 rfl ⟨fun hc => ?_, fun hc => ?_⟩
    · replace h := h.1 hc
      refine a_aload_n (pc := 36) dX12_readsCut_36 rfl ?_
      refine a_geti (pc := 37) 43 dX12_readsCut_37 f_X12_285 rfl rfl ?_
      refine a_istore_n (pc := 40) dX12_readsCut_40 (Nat.le_of_ble_eq_true rfl) ?_
      refine a_aload_n (pc := 41) dX12_readsCut_41 rfl ?_
      refine a_aload_n (pc := 42) dX12_readsCut_42 rfl ?_
      refine a_geti (pc := 43) 43 dX12_readsCut_43 f_X12_285 rfl rfl ?_
      refine a_iconst (pc := 46) dX12_readsCut_46 (cnb rfl) ?_
      refine a_iadd (pc := 47) dX12_readsCut_47 h.1 ?_
      replace h := h.2
      refine a_puti (pc := 48) 43 dX12_readsCut_48 f_X12_285 rfl rfl (Or.inl rfl) ?_
      refine a_aload_n (pc := 51) dX12_readsCut_51 rfl ?_
      refine a_bipush (pc := 52) dX12_readsCut_52 (by decide) (cnb rfl) ?_
      refine a_callVi (pc := 54) (d := 2) (st := []) (o := 76) [.inl 23] dX12_readsCut_54 l_X12_288 in_X12_readsWithin se_X12_readsWithin rfl rfl rfl ⟨Nat.le_of_ble_eq_true rfl, Nat.le_of_ble_eq_true rfl⟩ ⟨Nat.le_of_ble_eq_true rfl, Nat.le_of_ble_eq_true rfl⟩ (Nat.le_of_ble_eq_true rfl) ?_
      refine Calls.mono (fun r54 M54 hr54 hM54 h => ?_) h
      refine a_if_ne (pc := 57) 62 dX12_readsCut_57 rfl ⟨fun hc => ?_, fun hc => ?_⟩
      · replace h := h.1 hc
        refine a_aload_n (pc := 62) dX12_readsCut_62 rfl ?_
        refine a_geti (pc := 63) 17 dX12_readsCut_63 f_X12_192 rfl rfl ?_
        refine a_istore_n (pc := 66) dX12_readsCut_66 (Nat.le_of_ble_eq_true rfl) ?_
        refine a_aload_n (pc := 67) dX12_readsCut_67 rfl ?_
        refine a_bipush (pc := 68) dX12_readsCut_68 (by decide) (cnb rfl) ?_
        refine a_callVi (pc := 70) (d := 1) (st := []) (o := 76) [.inl 44] dX12_readsCut_70 l_X12_265 in_X12_takes se_X12_takes rfl rfl rfl ⟨Nat.le_of_ble_eq_true rfl, Nat.le_of_ble_eq_true rfl⟩ ⟨Nat.le_of_ble_eq_true rfl, Nat.le_of_ble_eq_true rfl⟩ (Nat.le_of_ble_eq_true rfl) ?_
        refine Calls.mono (fun r70 M70 hr70 hM70 h => ?_) h
        refine a_if_eq (pc := 73) 85 dX12_readsCut_73 rfl ⟨fun hc => ?_, fun hc => ?_⟩
        · replace h := h.1 hc
          refine a_iconst (pc := 85) dX12_readsCut_85 (cnb rfl) ?_
          exact a_iretZ (pc := 86) dX12_readsCut_86 rfl (by decide) h
        · replace h := h.2 hc
          refine a_aload_n (pc := 76) dX12_readsCut_76 rfl ?_
          refine a_bipush (pc := 77) dX12_readsCut_77 (by decide) (cnb rfl) ?_
          refine a_callVi (pc := 79) (d := 2) (st := []) (o := 76) [.inl 15] dX12_readsCut_79 l_X12_288 in_X12_readsWithin se_X12_readsWithin rfl rfl rfl ⟨Nat.le_of_ble_eq_true rfl, Nat.le_of_ble_eq_true rfl⟩ ⟨Nat.le_of_ble_eq_true rfl, Nat.le_of_ble_eq_true rfl⟩ (Nat.le_of_ble_eq_true rfl) ?_
          refine Calls.mono (fun r79 M79 hr79 hM79 h => ?_) h
          refine a_if_ne (pc := 82) 87 dX12_readsCut_82 rfl ⟨fun hc => ?_, fun hc => ?_⟩
          · replace h := h.1 hc
            refine a_aload_n (pc := 87) dX12_readsCut_87 rfl ?_
            refine a_getr (pc := 88) dX12_readsCut_88 f_X12_86 rfl ?_
            refine a_iload_n (pc := 91) dX12_readsCut_91 rfl ?_
            refine a_bipush (pc := 92) dX12_readsCut_92 (by decide) (cnb rfl) ?_
            refine a_aload_n (pc := 94) dX12_readsCut_94 rfl ?_
            refine a_geti (pc := 95) 17 dX12_readsCut_95 f_X12_192 rfl rfl ?_
            refine a_imul (pc := 98) dX12_readsCut_98 h.1 ?_
            replace h := h.2
            refine a_iload_n (pc := 99) dX12_readsCut_99 rfl ?_
            refine a_iadd (pc := 100) dX12_readsCut_100 h.1 ?_
            replace h := h.2
            refine a_iast (pc := 101) dX12_readsCut_101 rfl h.1.1 h.1.2 ?_
            replace h := h.2
            refine a_aload_n (pc := 102) dX12_readsCut_102 rfl ?_
            refine a_bipush (pc := 103) dX12_readsCut_103 (by decide) (cnb rfl) ?_
            refine a_callVi (pc := 105) (d := 1) (st := []) (o := 76) [.inl 58] dX12_readsCut_105 l_X12_265 in_X12_takes se_X12_takes rfl rfl rfl ⟨Nat.le_of_ble_eq_true rfl, Nat.le_of_ble_eq_true rfl⟩ ⟨Nat.le_of_ble_eq_true rfl, Nat.le_of_ble_eq_true rfl⟩ (Nat.le_of_ble_eq_true rfl) ?_
            refine Calls.mono (fun r105 M105 hr105 hM105 h => ?_) h
            refine a_if_ne (pc := 108) 113 dX12_readsCut_108 rfl ⟨fun hc => ?_, fun hc => ?_⟩
            · replace h := h.1 hc
              refine a_aload_n (pc := 113) dX12_readsCut_113 rfl ?_
              refine a_getr (pc := 114) dX12_readsCut_114 f_X12_98 rfl ?_
              refine a_iload_n (pc := 117) dX12_readsCut_117 rfl ?_
              refine a_aload_n (pc := 118) dX12_readsCut_118 rfl ?_
              refine a_bipush (pc := 119) dX12_readsCut_119 (by decide) (cnb rfl) ?_
              refine a_callVi (pc := 121) (d := 1) (st := [.inl (M1 76 43), .inr 106]) (o := 76) [.inl 120] dX12_readsCut_121 l_X12_282 in_X12_passes se_X12_passes rfl rfl rfl ⟨Nat.le_of_ble_eq_true rfl, Nat.le_of_ble_eq_true rfl⟩ ⟨Nat.le_of_ble_eq_true rfl, Nat.le_of_ble_eq_true rfl⟩ (Nat.le_of_ble_eq_true rfl) ?_
              refine Calls.mono (fun r121 M121 hr121 hM121 h => ?_) h
              refine a_iast (pc := 124) dX12_readsCut_124 rfl h.1.1 h.1.2 ?_
              replace h := h.2
              refine a_aload_n (pc := 125) dX12_readsCut_125 rfl ?_
              refine a_getr (pc := 126) dX12_readsCut_126 f_X12_95 rfl ?_
              refine a_iload_n (pc := 129) dX12_readsCut_129 rfl ?_
              refine a_aload_n (pc := 130) dX12_readsCut_130 rfl ?_
              refine a_bipush (pc := 131) dX12_readsCut_131 (by decide) (cnb rfl) ?_
              refine a_callVi (pc := 133) (d := 1) (st := [.inl (M1 76 43), .inr 105]) (o := 76) [.inl 91] dX12_readsCut_133 l_X12_282 in_X12_passes se_X12_passes rfl rfl rfl ⟨Nat.le_of_ble_eq_true rfl, Nat.le_of_ble_eq_true rfl⟩ ⟨Nat.le_of_ble_eq_true rfl, Nat.le_of_ble_eq_true rfl⟩ (Nat.le_of_ble_eq_true rfl) ?_
              refine Calls.mono (fun r133 M133 hr133 hM133 h => ?_) h
              refine a_iast (pc := 136) dX12_readsCut_136 rfl h.1.1 h.1.2 ?_
              replace h := h.2
              refine a_aload_n (pc := 137) dX12_readsCut_137 rfl ?_
              refine a_iload_n (pc := 138) dX12_readsCut_138 rfl ?_
              refine a_callVi (pc := 139) (d := 2) (st := []) (o := 76) [.inl (M1 76 43)] dX12_readsCut_139 l_X12_291 in_X12_readsInitials se_X12_readsInitials rfl rfl rfl ⟨Nat.le_of_ble_eq_true rfl, Nat.le_of_ble_eq_true rfl⟩ ⟨Nat.le_of_ble_eq_true rfl, Nat.le_of_ble_eq_true rfl⟩ (Nat.le_of_ble_eq_true rfl) ?_
              refine Calls.mono (fun r139 M139 hr139 hM139 h => ?_) h
              refine a_if_ne (pc := 142) 147 dX12_readsCut_142 rfl ⟨fun hc => ?_, fun hc => ?_⟩
              · replace h := h.1 hc
                refine a_aload_n (pc := 147) dX12_readsCut_147 rfl ?_
                refine a_getr (pc := 148) dX12_readsCut_148 f_X12_95 rfl ?_
                refine a_iload_n (pc := 151) dX12_readsCut_151 rfl ?_
                refine a_iald (pc := 152) dX12_readsCut_152 rfl h.1.1 h.1.2  ?_
                replace h := h.2
                refine a_iconst (pc := 153) dX12_readsCut_153 (cnb rfl) ?_
                refine a_icmp_ne (pc := 154) 168 dX12_readsCut_154 rfl ⟨fun hc => ?_, fun hc => ?_⟩
                · replace h := h.1 hc
                  exact Go.weak h (And.intro rfl (And.intro rfl True.intro))
                · replace h := h.2 hc
                  refine a_aload_n (pc := 157) dX12_readsCut_157 rfl ?_
                  refine a_bipush (pc := 158) dX12_readsCut_158 (by decide) (cnb rfl) ?_
                  refine a_callVi (pc := 160) (d := 1) (st := []) (o := 76) [.inl 93] dX12_readsCut_160 l_X12_265 in_X12_takes se_X12_takes rfl rfl rfl ⟨Nat.le_of_ble_eq_true rfl, Nat.le_of_ble_eq_true rfl⟩ ⟨Nat.le_of_ble_eq_true rfl, Nat.le_of_ble_eq_true rfl⟩ (Nat.le_of_ble_eq_true rfl) ?_
                  refine Calls.mono (fun r160 M160 hr160 hM160 h => ?_) h
                  refine a_if_ne (pc := 163) 168 dX12_readsCut_163 rfl ⟨fun hc => ?_, fun hc => ?_⟩
                  · replace h := h.1 hc
                    exact Go.weak h (And.intro rfl (And.intro rfl True.intro))
                  · replace h := h.2 hc
                    refine a_iconst (pc := 166) dX12_readsCut_166 (cnb rfl) ?_
                    exact a_iretZ (pc := 167) dX12_readsCut_167 rfl (by decide) h
              · replace h := h.2 hc
                refine a_iconst (pc := 145) dX12_readsCut_145 (cnb rfl) ?_
                exact a_iretZ (pc := 146) dX12_readsCut_146 rfl (by decide) h
            · replace h := h.2 hc
              refine a_iconst (pc := 111) dX12_readsCut_111 (cnb rfl) ?_
              exact a_iretZ (pc := 112) dX12_readsCut_112 rfl (by decide) h
          · replace h := h.2 hc
            refine a_iconst (pc := 85) dX12_readsCut_85 (cnb rfl) ?_
            exact a_iretZ (pc := 86) dX12_readsCut_86 rfl (by decide) h
      · replace h := h.2 hc
        refine a_iconst (pc := 60) dX12_readsCut_60 (cnb rfl) ?_
        exact a_iretZ (pc := 61) dX12_readsCut_61 rfl (by decide) h
    · replace h := h.2 hc
      refine a_aload_n (pc := 26) dX12_readsCut_26 rfl ?_
      refine a_iconst (pc := 27) dX12_readsCut_27 (cnb rfl) ?_
      refine a_aload_n (pc := 28) dX12_readsCut_28 rfl ?_
      refine a_geti (pc := 29) 14 dX12_readsCut_29 f_X12_175 rfl rfl ?_
      refine a_callVi (pc := 32) (d := 0) (st := []) (o := 76) [.inl 4, .inl (M1 76 14)] dX12_readsCut_32 l_X12_188 in_X12_wrongAt se_X12_wrongAt rfl rfl rfl ⟨Nat.le_of_ble_eq_true rfl, Nat.le_of_ble_eq_true rfl⟩ ⟨Nat.le_of_ble_eq_true rfl, Nat.le_of_ble_eq_true rfl⟩ (Nat.le_of_ble_eq_true rfl) ?_
      refine Calls.mono (fun r32 M32 hr32 hM32 h => ?_) h
      exact a_iretZ (pc := 35) dX12_readsCut_35 rfl h.1 h.2
  · replace h := h.2 hc
    refine a_aload_n (pc := 7) dX12_readsCut_7 rfl ?_
    refine a_iconst (pc := 8) dX12_readsCut_8 (cnb rfl) ?_
    refine a_aload_n (pc := 9) dX12_readsCut_9 rfl ?_
    refine a_geti (pc := 10) 14 dX12_readsCut_10 f_X12_175 rfl rfl ?_
    refine a_callVi (pc := 13) (d := 0) (st := []) (o := 76) [.inl 1, .inl (M1 76 14)] dX12_readsCut_13 l_X12_188 in_X12_wrongAt se_X12_wrongAt rfl rfl rfl ⟨Nat.le_of_ble_eq_true rfl, Nat.le_of_ble_eq_true rfl⟩ ⟨Nat.le_of_ble_eq_true rfl, Nat.le_of_ble_eq_true rfl⟩ (Nat.le_of_ble_eq_true rfl) ?_
    refine Calls.mono (fun r13 M13 hr13 hM13 h => ?_) h
    exact a_iretZ (pc := 16) dX12_readsCut_16 rfl h.1 h.2
set_option maxRecDepth 20000 in
theorem e_X12_readsCut {Q : Int → Me → Prop}  {M : Me} (h :
    Calls 1 mX12_isDigit [.inr 76] M (fun r1 M1 =>
    ((r1 ≠ 0 →
    ((M1 76 43 ≠ 16 →
    cn ((M1 76 43) + 1) ∧
    Calls 2 mX12_readsWithin [.inr 76, .inl 23] (mput M1 76 43 ((M1 76 43) + 1)) (fun r54 M54 =>
    ((r54 ≠ 0 →
    Calls 1 mX12_takes [.inr 76, .inl 44] M54 (fun r70 M70 =>
    ((r70 = 0 →
    Q 0 M70) ∧ (r70 ≠ 0 →
    Calls 2 mX12_readsWithin [.inr 76, .inl 15] M70 (fun r79 M79 =>
    ((r79 ≠ 0 →
    cn (24 * (M79 76 17)) ∧
    cn ((24 * (M79 76 17)) + (M54 76 17)) ∧
    (0 ≤ M1 76 43 ∧ M1 76 43 < 16) ∧
    Calls 1 mX12_takes [.inr 76, .inl 58] (mput M79 102 (M1 76 43) ((24 * (M79 76 17)) + (M54 76 17))) (fun r105 M105 =>
    ((r105 ≠ 0 →
    Calls 1 mX12_passes [.inr 76, .inl 120] M105 (fun r121 M121 =>
    (0 ≤ M1 76 43 ∧ M1 76 43 < 16) ∧
    Calls 1 mX12_passes [.inr 76, .inl 91] (mput M121 106 (M1 76 43) r121) (fun r133 M133 =>
    (0 ≤ M1 76 43 ∧ M1 76 43 < 16) ∧
    Calls 2 mX12_readsInitials [.inr 76, .inl (M1 76 43)] (mput M133 105 (M1 76 43) r133) (fun r139 M139 =>
    ((r139 ≠ 0 →
    (0 ≤ M1 76 43 ∧ M1 76 43 < 16) ∧
    ((M139 105 (M1 76 43) ≠ 1 →
    Go (km 3 mX12_readsCut Q) 168 [some (.inr 76), some (.inl (M1 76 43)), none] [] M139) ∧ (M139 105 (M1 76 43) = 1 →
    Calls 1 mX12_takes [.inr 76, .inl 93] M139 (fun r160 M160 =>
    ((r160 ≠ 0 →
    Go (km 3 mX12_readsCut Q) 168 [some (.inr 76), some (.inl (M1 76 43)), none] [] M160) ∧ (r160 = 0 →
    Q 0 M160)))))) ∧ (r139 = 0 →
    Q 0 M139)))))) ∧ (r105 = 0 →
    Q 0 M105)))) ∧ (r79 = 0 →
    Q 0 M79))))))) ∧ (r54 = 0 →
    Q 0 M54)))) ∧ (M1 76 43 = 16 →
    Calls 0 mX12_wrongAt [.inr 76, .inl 4, .inl (M1 76 14)] M1 (fun r32 M32 =>
    (r32 = 0 ∨ r32 = 1) ∧
    Q r32 M32)))) ∧ (r1 = 0 →
    Calls 0 mX12_wrongAt [.inr 76, .inl 1, .inl (M1 76 14)] M1 (fun r13 M13 =>
    (r13 = 0 ∨ r13 = 1) ∧
    Q r13 M13))))) : Calls 3 mX12_readsCut [.inr 76] M Q := Calls.of (by decide) (Nat.le_of_ble_eq_true rfl) (s_X12_readsCut_0   M h)
set_option maxRecDepth 20000 in
theorem s_X12_readsCut_168 {Q : Int → Me → Prop}  (x1 : Int) (M : Me) (h :
    Calls 2 mX12_readsDate [.inr 76, .inl x1] M (fun r170 M170 =>
    ((r170 ≠ 0 →
    Calls 1 mX12_passes [.inr 76, .inl 62] M170 (fun r186 M186 =>
    (0 ≤ x1 ∧ x1 < 16) ∧
    Q 1 (mput M186 107 x1 r186))) ∧ (r170 = 0 →
    Q 0 M170)))) :
    Go (km 3 mX12_readsCut Q) 168 [some (.inr 76), some (.inl x1), none] [] M := by
  refine a_aload_n (pc := 168) dX12_readsCut_168 rfl ?_
  refine a_iload_n (pc := 169) dX12_readsCut_169 rfl ?_
  refine a_callVi (pc := 170) (d := 2) (st := []) (o := 76) [.inl x1] dX12_readsCut_170 l_X12_294 in_X12_readsDate se_X12_readsDate rfl rfl rfl ⟨Nat.le_of_ble_eq_true rfl, Nat.le_of_ble_eq_true rfl⟩ ⟨Nat.le_of_ble_eq_true rfl, Nat.le_of_ble_eq_true rfl⟩ (Nat.le_of_ble_eq_true rfl) ?_
  refine Calls.mono (fun r170 M170 hr170 hM170 h => ?_) h
  refine a_if_ne (pc := 173) 178 dX12_readsCut_173 rfl ⟨fun hc => ?_, fun hc => ?_⟩
  · replace h := h.1 hc
    refine a_aload_n (pc := 178) dX12_readsCut_178 rfl ?_
    refine a_getr (pc := 179) dX12_readsCut_179 f_X12_101 rfl ?_
    refine a_iload_n (pc := 182) dX12_readsCut_182 rfl ?_
    refine a_aload_n (pc := 183) dX12_readsCut_183 rfl ?_
    refine a_bipush (pc := 184) dX12_readsCut_184 (by decide) (cnb rfl) ?_
    refine a_callVi (pc := 186) (d := 1) (st := [.inl x1, .inr 107]) (o := 76) [.inl 62] dX12_readsCut_186 l_X12_282 in_X12_passes se_X12_passes rfl rfl rfl ⟨Nat.le_of_ble_eq_true rfl, Nat.le_of_ble_eq_true rfl⟩ ⟨Nat.le_of_ble_eq_true rfl, Nat.le_of_ble_eq_true rfl⟩ (Nat.le_of_ble_eq_true rfl) ?_
    refine Calls.mono (fun r186 M186 hr186 hM186 h => ?_) h
    refine a_iast (pc := 189) dX12_readsCut_189 rfl h.1.1 h.1.2 ?_
    replace h := h.2
    refine a_iconst (pc := 190) dX12_readsCut_190 (cnb rfl) ?_
    exact a_iretZ (pc := 191) dX12_readsCut_191 rfl (by decide) h
  · replace h := h.2 hc
    refine a_iconst (pc := 176) dX12_readsCut_176 (cnb rfl) ?_
    exact a_iretZ (pc := 177) dX12_readsCut_177 rfl (by decide) h
