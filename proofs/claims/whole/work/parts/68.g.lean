set_option maxRecDepth 20000 in
theorem s_X11_isOnWay_0 {Q : Int → Me → Prop}  (a b c : Int) (M : Me) (h :
    pl a ∧
    pl b ∧
    pl c ∧
    ((sd a b c ≠ 0 →
    Q 0 M) ∧ (sd a b c = 0 →
    0 ≤ a ∧
    0 ≤ c ∧
    0 ≤ c ∧
    0 ≤ b ∧
    cn ((dst a c) + (dst c b)) ∧
    0 ≤ a ∧
    0 ≤ b ∧
    (((dst a c) + (dst c b) ≠ dst a b →
    Q 0 M) ∧ ((dst a c) + (dst c b) = dst a b →
    Q 1 M))))) :
    Go (km 2 mX11_isOnWay Q) 0 [some (.inl a), some (.inl b), some (.inl c)] [] M := by
  refine a_iload_n (pc := 0) dX11_isOnWay_0 rfl ?_
  refine a_iload_n (pc := 1) dX11_isOnWay_1 rfl ?_
  refine a_iload_n (pc := 2) dX11_isOnWay_2 rfl ?_
  refine a_callSi (pc := 3) (d := 0) (st := []) [.inl a, .inl b, .inl c] dX11_isOnWay_3 l_X11_316 st_X11_side rfl ⟨Nat.le_of_ble_eq_true rfl, Nat.le_of_ble_eq_true rfl⟩ ⟨Nat.le_of_ble_eq_true rfl, Nat.le_of_ble_eq_true rfl⟩ (Nat.le_of_ble_eq_true rfl) ?_
  have hp3_1 := h.1
  replace h := h.2
  have hp3_2 := h.1
  replace h := h.2
  have hp3_3 := h.1
  replace h := h.2
  refine p_X11_side hp3_1 hp3_2 hp3_3 ?_
  refine a_if_ne (pc := 6) 32 dX11_isOnWay_6 rfl ⟨fun hc => ?_, fun hc => ?_⟩
  · replace h := h.1 hc
    refine a_iconst (pc := 32) dX11_isOnWay_32 (cnb rfl) ?_
    exact a_iretZ (pc := 33) dX11_isOnWay_33 rfl (by decide) h
  · replace h := h.2 hc
    refine a_iload_n (pc := 9) dX11_isOnWay_9 rfl ?_
    refine a_iload_n (pc := 10) dX11_isOnWay_10 rfl ?_
    refine a_callSi (pc := 11) (d := 1) (st := []) [.inl a, .inl c] dX11_isOnWay_11 l_X11_210 st_X11_steps rfl ⟨Nat.le_of_ble_eq_true rfl, Nat.le_of_ble_eq_true rfl⟩ ⟨Nat.le_of_ble_eq_true rfl, Nat.le_of_ble_eq_true rfl⟩ (Nat.le_of_ble_eq_true rfl) ?_
    have hp11_1 := h.1
    replace h := h.2
    have hp11_2 := h.1
    replace h := h.2
    refine p_X11_steps hp11_1 hp11_2 ?_
    refine a_iload_n (pc := 14) dX11_isOnWay_14 rfl ?_
    refine a_iload_n (pc := 15) dX11_isOnWay_15 rfl ?_
    refine a_callSi (pc := 16) (d := 1) (st := [.inl (dst a c)]) [.inl c, .inl b] dX11_isOnWay_16 l_X11_210 st_X11_steps rfl ⟨Nat.le_of_ble_eq_true rfl, Nat.le_of_ble_eq_true rfl⟩ ⟨Nat.le_of_ble_eq_true rfl, Nat.le_of_ble_eq_true rfl⟩ (Nat.le_of_ble_eq_true rfl) ?_
    have hp16_3 := h.1
    replace h := h.2
    have hp16_4 := h.1
    replace h := h.2
    refine p_X11_steps hp16_3 hp16_4 ?_
    refine a_iadd (pc := 19) dX11_isOnWay_19 h.1 ?_
    replace h := h.2
    refine a_iload_n (pc := 20) dX11_isOnWay_20 rfl ?_
    refine a_iload_n (pc := 21) dX11_isOnWay_21 rfl ?_
    refine a_callSi (pc := 22) (d := 1) (st := [.inl ((dst a c) + (dst c b))]) [.inl a, .inl b] dX11_isOnWay_22 l_X11_210 st_X11_steps rfl ⟨Nat.le_of_ble_eq_true rfl, Nat.le_of_ble_eq_true rfl⟩ ⟨Nat.le_of_ble_eq_true rfl, Nat.le_of_ble_eq_true rfl⟩ (Nat.le_of_ble_eq_true rfl) ?_
    have hp22_6 := h.1
    replace h := h.2
    have hp22_7 := h.1
    replace h := h.2
    refine p_X11_steps hp22_6 hp22_7 ?_
    refine a_icmp_ne (pc := 25) 32 dX11_isOnWay_25 rfl ⟨fun hc => ?_, fun hc => ?_⟩
    · replace h := h.1 hc
      refine a_iconst (pc := 32) dX11_isOnWay_32 (cnb rfl) ?_
      exact a_iretZ (pc := 33) dX11_isOnWay_33 rfl (by decide) h
    · replace h := h.2 hc
      refine a_iconst (pc := 28) dX11_isOnWay_28 (cnb rfl) ?_
      refine a_goto (pc := 29) 33 dX11_isOnWay_29 rfl ?_
      exact a_iretZ (pc := 33) dX11_isOnWay_33 rfl (by decide) h
set_option maxRecDepth 20000 in
theorem e_X11_isOnWay {Q : Int → Me → Prop}  {a b c : Int} {M : Me} (h :
    pl a ∧
    pl b ∧
    pl c ∧
    ((sd a b c ≠ 0 →
    Q 0 M) ∧ (sd a b c = 0 →
    0 ≤ a ∧
    0 ≤ c ∧
    0 ≤ c ∧
    0 ≤ b ∧
    cn ((dst a c) + (dst c b)) ∧
    0 ≤ a ∧
    0 ≤ b ∧
    (((dst a c) + (dst c b) ≠ dst a b →
    Q 0 M) ∧ ((dst a c) + (dst c b) = dst a b →
    Q 1 M))))) : Calls 2 mX11_isOnWay [.inl a, .inl b, .inl c] M Q := Calls.of (by decide) (Nat.le_of_ble_eq_true rfl) (s_X11_isOnWay_0  a b c M h)
set_option maxRecDepth 20000 in
theorem s_X12_sideOf_0 {Q : Int → Me → Prop}  (a b c : Int) (M : Me) (h :
    0 ≤ b ∧
    0 ≤ a ∧
    cn ((b % 24) - (a % 24)) ∧
    0 ≤ b ∧
    0 ≤ a ∧
    cn ((b / 24) - (a / 24)) ∧
    0 ≤ c ∧
    0 ≤ a ∧
    cn ((c / 24) - (a / 24)) ∧
    cn (((b % 24) - (a % 24)) * ((c / 24) - (a / 24))) ∧
    0 ≤ c ∧
    0 ≤ a ∧
    cn ((c % 24) - (a % 24)) ∧
    cn (((b / 24) - (a / 24)) * ((c % 24) - (a % 24))) ∧
    cn ((((b % 24) - (a % 24)) * ((c / 24) - (a / 24))) - (((b / 24) - (a / 24)) * ((c % 24) - (a % 24)))) ∧
    Q ((((b % 24) - (a % 24)) * ((c / 24) - (a / 24))) - (((b / 24) - (a / 24)) * ((c % 24) - (a % 24)))) M) :
    Go (km 0 mX12_sideOf Q) 0 [some (.inl a), some (.inl b), some (.inl c), none, none] [] M := by
  refine a_iload_n (pc := 0) dX12_sideOf_0 rfl ?_
  refine a_bipush (pc := 1) dX12_sideOf_1 (by decide) (cnb rfl) ?_
  refine a_iremn (pc := 3) dX12_sideOf_3 (by decide) h.1 ?_
  replace h := h.2
  refine a_iload_n (pc := 4) dX12_sideOf_4 rfl ?_
  refine a_bipush (pc := 5) dX12_sideOf_5 (by decide) (cnb rfl) ?_
  refine a_iremn (pc := 7) dX12_sideOf_7 (by decide) h.1 ?_
  replace h := h.2
  refine a_isub (pc := 8) dX12_sideOf_8 h.1 ?_
  replace h := h.2
  refine a_istore_n (pc := 9) dX12_sideOf_9 (Nat.le_of_ble_eq_true rfl) ?_
  refine a_iload_n (pc := 10) dX12_sideOf_10 rfl ?_
  refine a_bipush (pc := 11) dX12_sideOf_11 (by decide) (cnb rfl) ?_
  refine a_idivn (pc := 13) dX12_sideOf_13 (by decide) h.1 ?_
  replace h := h.2
  refine a_iload_n (pc := 14) dX12_sideOf_14 rfl ?_
  refine a_bipush (pc := 15) dX12_sideOf_15 (by decide) (cnb rfl) ?_
  refine a_idivn (pc := 17) dX12_sideOf_17 (by decide) h.1 ?_
  replace h := h.2
  refine a_isub (pc := 18) dX12_sideOf_18 h.1 ?_
  replace h := h.2
  refine a_istore (pc := 19) dX12_sideOf_19 (Nat.le_of_ble_eq_true rfl) ?_
  refine a_iload_n (pc := 21) dX12_sideOf_21 rfl ?_
  refine a_iload_n (pc := 22) dX12_sideOf_22 rfl ?_
  refine a_bipush (pc := 23) dX12_sideOf_23 (by decide) (cnb rfl) ?_
  refine a_idivn (pc := 25) dX12_sideOf_25 (by decide) h.1 ?_
  replace h := h.2
  refine a_iload_n (pc := 26) dX12_sideOf_26 rfl ?_
  refine a_bipush (pc := 27) dX12_sideOf_27 (by decide) (cnb rfl) ?_
  refine a_idivn (pc := 29) dX12_sideOf_29 (by decide) h.1 ?_
  replace h := h.2
  refine a_isub (pc := 30) dX12_sideOf_30 h.1 ?_
  replace h := h.2
  refine a_imul (pc := 31) dX12_sideOf_31 h.1 ?_
  replace h := h.2
  refine a_iload (pc := 32) dX12_sideOf_32 rfl ?_
  refine a_iload_n (pc := 34) dX12_sideOf_34 rfl ?_
  refine a_bipush (pc := 35) dX12_sideOf_35 (by decide) (cnb rfl) ?_
  refine a_iremn (pc := 37) dX12_sideOf_37 (by decide) h.1 ?_
  replace h := h.2
  refine a_iload_n (pc := 38) dX12_sideOf_38 rfl ?_
  refine a_bipush (pc := 39) dX12_sideOf_39 (by decide) (cnb rfl) ?_
  refine a_iremn (pc := 41) dX12_sideOf_41 (by decide) h.1 ?_
  replace h := h.2
  refine a_isub (pc := 42) dX12_sideOf_42 h.1 ?_
  replace h := h.2
  refine a_imul (pc := 43) dX12_sideOf_43 h.1 ?_
  replace h := h.2
  refine a_isub (pc := 44) dX12_sideOf_44 h.1 ?_
  replace h := h.2
  exact a_iretI (pc := 45) dX12_sideOf_45 rfl h
set_option maxRecDepth 20000 in
theorem e_X12_sideOf {Q : Int → Me → Prop}  {a b c : Int} {M : Me} (h :
    0 ≤ b ∧
    0 ≤ a ∧
    cn ((b % 24) - (a % 24)) ∧
    0 ≤ b ∧
    0 ≤ a ∧
    cn ((b / 24) - (a / 24)) ∧
    0 ≤ c ∧
    0 ≤ a ∧
    cn ((c / 24) - (a / 24)) ∧
    cn (((b % 24) - (a % 24)) * ((c / 24) - (a / 24))) ∧
    0 ≤ c ∧
    0 ≤ a ∧
    cn ((c % 24) - (a % 24)) ∧
    cn (((b / 24) - (a / 24)) * ((c % 24) - (a % 24))) ∧
    cn ((((b % 24) - (a % 24)) * ((c / 24) - (a / 24))) - (((b / 24) - (a / 24)) * ((c % 24) - (a % 24)))) ∧
    Q ((((b % 24) - (a % 24)) * ((c / 24) - (a / 24))) - (((b / 24) - (a / 24)) * ((c % 24) - (a % 24)))) M) : Calls 0 mX12_sideOf [.inl a, .inl b, .inl c] M Q := Calls.of (by decide) (Nat.le_of_ble_eq_true rfl) (s_X12_sideOf_0  a b c M h)
set_option maxRecDepth 20000 in
theorem s_X12_between_0 {Q : Int → Me → Prop}  (a b c d : Int) (M : Me) (h :
    ((min (max a b) (max c d) < max (min a b) (min c d) →
    Q 0 M) ∧ (max (min a b) (min c d) ≤ min (max a b) (max c d) →
    Q 1 M))) :
    Go (km 1 mX12_between Q) 0 [some (.inl a), some (.inl b), some (.inl c), some (.inl d)] [] M := by
  refine a_iload_n (pc := 0) dX12_between_0 rfl ?_
  refine a_iload_n (pc := 1) dX12_between_1 rfl ?_
  refine a_callSi (pc := 2) (d := 0) (st := []) [.inl a, .inl b] dX12_between_2 l_X12_309 st_X12_min rfl ⟨Nat.le_of_ble_eq_true rfl, Nat.le_of_ble_eq_true rfl⟩ ⟨Nat.le_of_ble_eq_true rfl, Nat.le_of_ble_eq_true rfl⟩ (Nat.le_of_ble_eq_true rfl) ?_
  refine p_X12_min ?_
  refine a_iload_n (pc := 5) dX12_between_5 rfl ?_
  refine a_iload_n (pc := 6) dX12_between_6 rfl ?_
  refine a_callSi (pc := 7) (d := 0) (st := [.inl (min a b)]) [.inl c, .inl d] dX12_between_7 l_X12_309 st_X12_min rfl ⟨Nat.le_of_ble_eq_true rfl, Nat.le_of_ble_eq_true rfl⟩ ⟨Nat.le_of_ble_eq_true rfl, Nat.le_of_ble_eq_true rfl⟩ (Nat.le_of_ble_eq_true rfl) ?_
  refine p_X12_min ?_
  refine a_callSi (pc := 10) (d := 0) (st := []) [.inl (min a b), .inl (min c d)] dX12_between_10 l_X12_334 st_X12_max rfl ⟨Nat.le_of_ble_eq_true rfl, Nat.le_of_ble_eq_true rfl⟩ ⟨Nat.le_of_ble_eq_true rfl, Nat.le_of_ble_eq_true rfl⟩ (Nat.le_of_ble_eq_true rfl) ?_
  refine p_X12_max ?_
  refine a_iload_n (pc := 13) dX12_between_13 rfl ?_
  refine a_iload_n (pc := 14) dX12_between_14 rfl ?_
  refine a_callSi (pc := 15) (d := 0) (st := [.inl (max (min a b) (min c d))]) [.inl a, .inl b] dX12_between_15 l_X12_334 st_X12_max rfl ⟨Nat.le_of_ble_eq_true rfl, Nat.le_of_ble_eq_true rfl⟩ ⟨Nat.le_of_ble_eq_true rfl, Nat.le_of_ble_eq_true rfl⟩ (Nat.le_of_ble_eq_true rfl) ?_
  refine p_X12_max ?_
  refine a_iload_n (pc := 18) dX12_between_18 rfl ?_
  refine a_iload_n (pc := 19) dX12_between_19 rfl ?_
  refine a_callSi (pc := 20) (d := 0) (st := [.inl (max a b), .inl (max (min a b) (min c d))]) [.inl c, .inl d] dX12_between_20 l_X12_334 st_X12_max rfl ⟨Nat.le_of_ble_eq_true rfl, Nat.le_of_ble_eq_true rfl⟩ ⟨Nat.le_of_ble_eq_true rfl, Nat.le_of_ble_eq_true rfl⟩ (Nat.le_of_ble_eq_true rfl) ?_
  refine p_X12_max ?_
  refine a_callSi (pc := 23) (d := 0) (st := [.inl (max (min a b) (min c d))]) [.inl (max a b), .inl (max c d)] dX12_between_23 l_X12_309 st_X12_min rfl ⟨Nat.le_of_ble_eq_true rfl, Nat.le_of_ble_eq_true rfl⟩ ⟨Nat.le_of_ble_eq_true rfl, Nat.le_of_ble_eq_true rfl⟩ (Nat.le_of_ble_eq_true rfl) ?_
  refine p_X12_min ?_
  refine a_icmp_gt (pc := 26) 33 dX12_between_26 rfl ⟨fun hc => ?_, fun hc => ?_⟩
  · replace h := h.1 hc
    refine a_iconst (pc := 33) dX12_between_33 (cnb rfl) ?_
    exact a_iretZ (pc := 34) dX12_between_34 rfl (by decide) h
  · replace h := h.2 hc
    refine a_iconst (pc := 29) dX12_between_29 (cnb rfl) ?_
    refine a_goto (pc := 30) 34 dX12_between_30 rfl ?_
    exact a_iretZ (pc := 34) dX12_between_34 rfl (by decide) h
set_option maxRecDepth 20000 in
theorem e_X12_between {Q : Int → Me → Prop}  {a b c d : Int} {M : Me} (h :
    ((min (max a b) (max c d) < max (min a b) (min c d) →
    Q 0 M) ∧ (max (min a b) (min c d) ≤ min (max a b) (max c d) →
    Q 1 M))) : Calls 1 mX12_between [.inl a, .inl b, .inl c, .inl d] M Q := Calls.of (by decide) (Nat.le_of_ble_eq_true rfl) (s_X12_between_0  a b c d M h)
