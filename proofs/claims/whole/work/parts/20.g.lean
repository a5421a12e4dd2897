set_option maxRecDepth 20000 in
theorem s_X11_isSpan_0 {Q : Int → Me → Prop}  (a : Int) (M : Me) (h :
    ((a < 1 →
    Q 0 M) ∧ (1 ≤ a →
    ((100 < a →
    Q 0 M) ∧ (a ≤ 100 →
    Q 1 M))))) :
    Go (km 0 mX11_isSpan Q) 0 [some (.inl a)] [] M := by
  refine a_iload_n (pc := 0) dX11_isSpan_0 rfl ?_
  refine a_iconst (pc := 1) dX11_isSpan_1 (cnb rfl) ?_
  refine a_icmp_lt (pc := 2) 15 dX11_isSpan_2 rfl ⟨fun hc => ?_, fun hc => ?_⟩
  · replace h := h.1 hc
    refine a_iconst (pc := 15) dX11_isSpan_15 (cnb rfl) ?_
    exact a_iretZ (pc := 16) dX11_isSpan_16 rfl (by decide) h
  · replace h := h.2 hc
    refine a_iload_n (pc := 5) dX11_isSpan_5 rfl ?_
    refine a_bipush (pc := 6) dX11_isSpan_6 (by decide) (cnb rfl) ?_
    refine a_icmp_gt (pc := 8) 15 dX11_isSpan_8 rfl ⟨fun hc => ?_, fun hc => ?_⟩
    · replace h := h.1 hc
      refine a_iconst (pc := 15) dX11_isSpan_15 (cnb rfl) ?_
      exact a_iretZ (pc := 16) dX11_isSpan_16 rfl (by decide) h
    · replace h := h.2 hc
      refine a_iconst (pc := 11) dX11_isSpan_11 (cnb rfl) ?_
      refine a_goto (pc := 12) 16 dX11_isSpan_12 rfl ?_
      exact a_iretZ (pc := 16) dX11_isSpan_16 rfl (by decide) h
set_option maxRecDepth 20000 in
theorem e_X11_isSpan {Q : Int → Me → Prop}  {a : Int} {M : Me} (h :
    ((a < 1 →
    Q 0 M) ∧ (1 ≤ a →
    ((100 < a →
    Q 0 M) ∧ (a ≤ 100 →
    Q 1 M))))) : Calls 0 mX11_isSpan [.inl a] M Q := Calls.of (by decide) (Nat.le_of_ble_eq_true rfl) (s_X11_isSpan_0  a M h)
set_option maxRecDepth 20000 in
theorem s_X11_isAcross_0 {Q : Int → Me → Prop}  (a : Int) (M : Me) (h :
    ((a < 0 →
    Q 0 M) ∧ (0 ≤ a →
    ((24 ≤ a →
    Q 0 M) ∧ (a < 24 →
    Q 1 M))))) :
    Go (km 0 mX11_isAcross Q) 0 [some (.inl a)] [] M := by
  refine a_iload_n (pc := 0) dX11_isAcross_0 rfl ?_
  refine a_if_lt (pc := 1) 14 dX11_isAcross_1 rfl ⟨fun hc => ?_, fun hc => ?_⟩
  · replace h := h.1 hc
    refine a_iconst (pc := 14) dX11_isAcross_14 (cnb rfl) ?_
    exact a_iretZ (pc := 15) dX11_isAcross_15 rfl (by decide) h
  · replace h := h.2 hc
    refine a_iload_n (pc := 4) dX11_isAcross_4 rfl ?_
    refine a_bipush (pc := 5) dX11_isAcross_5 (by decide) (cnb rfl) ?_
    refine a_icmp_ge (pc := 7) 14 dX11_isAcross_7 rfl ⟨fun hc => ?_, fun hc => ?_⟩
    · replace h := h.1 hc
      refine a_iconst (pc := 14) dX11_isAcross_14 (cnb rfl) ?_
      exact a_iretZ (pc := 15) dX11_isAcross_15 rfl (by decide) h
    · replace h := h.2 hc
      refine a_iconst (pc := 10) dX11_isAcross_10 (cnb rfl) ?_
      refine a_goto (pc := 11) 15 dX11_isAcross_11 rfl ?_
      exact a_iretZ (pc := 15) dX11_isAcross_15 rfl (by decide) h
set_option maxRecDepth 20000 in
theorem e_X11_isAcross {Q : Int → Me → Prop}  {a : Int} {M : Me} (h :
    ((a < 0 →
    Q 0 M) ∧ (0 ≤ a →
    ((24 ≤ a →
    Q 0 M) ∧ (a < 24 →
    Q 1 M))))) : Calls 0 mX11_isAcross [.inl a] M Q := Calls.of (by decide) (Nat.le_of_ble_eq_true rfl) (s_X11_isAcross_0  a M h)
set_option maxRecDepth 20000 in
theorem s_X11_isAlong_0 {Q : Int → Me → Prop}  (a : Int) (M : Me) (h :
    ((a < 0 →
    Q 0 M) ∧ (0 ≤ a →
    ((16 ≤ a →
    Q 0 M) ∧ (a < 16 →
    Q 1 M))))) :
    Go (km 0 mX11_isAlong Q) 0 [some (.inl a)] [] M := by
  refine a_iload_n (pc := 0) dX11_isAlong_0 rfl ?_
  refine a_if_lt (pc := 1) 14 dX11_isAlong_1 rfl ⟨fun hc => ?_, fun hc => ?_⟩
  · replace h := h.1 hc
    refine a_iconst (pc := 14) dX11_isAlong_14 (cnb rfl) ?_
    exact a_iretZ (pc := 15) dX11_isAlong_15 rfl (by decide) h
  · replace h := h.2 hc
    refine a_iload_n (pc := 4) dX11_isAlong_4 rfl ?_
    refine a_bipush (pc := 5) dX11_isAlong_5 (by decide) (cnb rfl) ?_
    refine a_icmp_ge (pc := 7) 14 dX11_isAlong_7 rfl ⟨fun hc => ?_, fun hc => ?_⟩
    · replace h := h.1 hc
      refine a_iconst (pc := 14) dX11_isAlong_14 (cnb rfl) ?_
      exact a_iretZ (pc := 15) dX11_isAlong_15 rfl (by decide) h
    · replace h := h.2 hc
      refine a_iconst (pc := 10) dX11_isAlong_10 (cnb rfl) ?_
      refine a_goto (pc := 11) 15 dX11_isAlong_11 rfl ?_
      exact a_iretZ (pc := 15) dX11_isAlong_15 rfl (by decide) h
set_option maxRecDepth 20000 in
theorem e_X11_isAlong {Q : Int → Me → Prop}  {a : Int} {M : Me} (h :
    ((a < 0 →
    Q 0 M) ∧ (0 ≤ a →
    ((16 ≤ a →
    Q 0 M) ∧ (a < 16 →
    Q 1 M))))) : Calls 0 mX11_isAlong [.inl a] M Q := Calls.of (by decide) (Nat.le_of_ble_eq_true rfl) (s_X11_isAlong_0  a M h)
set_option maxRecDepth 20000 in
theorem s_X11_isDigit_0 {Q : Int → Me → Prop}  (a : Int) (M : Me) (h :
    ((a < 48 →
    Q 0 M) ∧ (48 ≤ a →
    ((57 < a →
    Q 0 M) ∧ (a ≤ 57 →
    Q 1 M))))) :
    Go (km 0 mX11_isDigit Q) 0 [some (.inl a)] [] M := by
  refine a_iload_n (pc := 0) dX11_isDigit_0 rfl ?_
  refine a_bipush (pc := 1) dX11_isDigit_1 (by decide) (cnb rfl) ?_
  refine a_icmp_lt (pc := 3) 16 dX11_isDigit_3 rfl ⟨fun hc => ?_, fun hc => ?_⟩
  · replace h := h.1 hc
    refine a_iconst (pc := 16) dX11_isDigit_16 (cnb rfl) ?_
    exact a_iretZ (pc := 17) dX11_isDigit_17 rfl (by decide) h
  · replace h := h.2 hc
    refine a_iload_n (pc := 6) dX11_isDigit_6 rfl ?_
    refine a_bipush (pc := 7) dX11_isDigit_7 (by decide) (cnb rfl) ?_
    refine a_icmp_gt (pc := 9) 16 dX11_isDigit_9 rfl ⟨fun hc => ?_, fun hc => ?_⟩
    · replace h := h.1 hc
      refine a_iconst (pc := 16) dX11_isDigit_16 (cnb rfl) ?_
      exact a_iretZ (pc := 17) dX11_isDigit_17 rfl (by decide) h
    · replace h := h.2 hc
      refine a_iconst (pc := 12) dX11_isDigit_12 (cnb rfl) ?_
      refine a_goto (pc := 13) 17 dX11_isDigit_13 rfl ?_
      exact a_iretZ (pc := 17) dX11_isDigit_17 rfl (by decide) h
set_option maxRecDepth 20000 in
theorem e_X11_isDigit {Q : Int → Me → Prop}  {a : Int} {M : Me} (h :
    ((a < 48 →
    Q 0 M) ∧ (48 ≤ a →
    ((57 < a →
    Q 0 M) ∧ (a ≤ 57 →
    Q 1 M))))) : Calls 0 mX11_isDigit [.inl a] M Q := Calls.of (by decide) (Nat.le_of_ble_eq_true rfl) (s_X11_isDigit_0  a M h)
set_option maxRecDepth 20000 in
theorem s_X11_steps_0 {Q : Int → Me → Prop}  (a b : Int) (M : Me) (h :
    0 ≤ a ∧
    0 ≤ b ∧
    cn ((a % 24) - (b % 24)) ∧
    cn (-((a % 24) - (b % 24))) ∧
    0 ≤ a ∧
    0 ≤ b ∧
    cn ((a / 24) - (b / 24)) ∧
    cn (-((a / 24) - (b / 24))) ∧
    cn ((max ((a % 24) - (b % 24)) (-((a % 24) - (b % 24)))) + (max ((a / 24) - (b / 24)) (-((a / 24) - (b / 24))))) ∧
    Q ((max ((a % 24) - (b % 24)) (-((a % 24) - (b % 24)))) + (max ((a / 24) - (b / 24)) (-((a / 24) - (b / 24))))) M) :
    Go (km 1 mX11_steps Q) 0 [some (.inl a), some (.inl b)] [] M := by
  refine a_iload_n (pc := 0) dX11_steps_0 rfl ?_
  refine a_bipush (pc := 1) dX11_steps_1 (by decide) (cnb rfl) ?_
  refine a_iremn (pc := 3) dX11_steps_3 (by decide) h.1 ?_
  replace h := h.2
  refine a_iload_n (pc := 4) dX11_steps_4 rfl ?_
  refine a_bipush (pc := 5) dX11_steps_5 (by decide) (cnb rfl) ?_
  refine a_iremn (pc := 7) dX11_steps_7 (by decide) h.1 ?_
  replace h := h.2
  refine a_isub (pc := 8) dX11_steps_8 h.1 ?_
  replace h := h.2
  refine a_mabs (pc := 9) dX11_steps_9 ml_X11_313 mt_st_abs mt_ini mt_cd_abs ⟨Nat.le_of_ble_eq_true rfl, Nat.le_of_ble_eq_true rfl⟩ ⟨Nat.le_of_ble_eq_true rfl, Nat.le_of_ble_eq_true rfl⟩ (Nat.le_of_ble_eq_true rfl) h.1 ?_
  replace h := h.2
  refine a_iload_n (pc := 12) dX11_steps_12 rfl ?_
  refine a_bipush (pc := 13) dX11_steps_13 (by decide) (cnb rfl) ?_
  refine a_idivn (pc := 15) dX11_steps_15 (by decide) h.1 ?_
  replace h := h.2
  refine a_iload_n (pc := 16) dX11_steps_16 rfl ?_
  refine a_bipush (pc := 17) dX11_steps_17 (by decide) (cnb rfl) ?_
  refine a_idivn (pc := 19) dX11_steps_19 (by decide) h.1 ?_
  replace h := h.2
  refine a_isub (pc := 20) dX11_steps_20 h.1 ?_
  replace h := h.2
  refine a_mabs (pc := 21) dX11_steps_21 ml_X11_313 mt_st_abs mt_ini mt_cd_abs ⟨Nat.le_of_ble_eq_true rfl, Nat.le_of_ble_eq_true rfl⟩ ⟨Nat.le_of_ble_eq_true rfl, Nat.le_of_ble_eq_true rfl⟩ (Nat.le_of_ble_eq_true rfl) h.1 ?_
  replace h := h.2
  refine a_iadd (pc := 24) dX11_steps_24 h.1 ?_
  replace h := h.2
  exact a_iretI (pc := 25) dX11_steps_25 rfl h
set_option maxRecDepth 20000 in
theorem e_X11_steps {Q : Int → Me → Prop}  {a b : Int} {M : Me} (h :
    0 ≤ a ∧
    0 ≤ b ∧
    cn ((a % 24) - (b % 24)) ∧
    cn (-((a % 24) - (b % 24))) ∧
    0 ≤ a ∧
    0 ≤ b ∧
    cn ((a / 24) - (b / 24)) ∧
    cn (-((a / 24) - (b / 24))) ∧
    cn ((max ((a % 24) - (b % 24)) (-((a % 24) - (b % 24)))) + (max ((a / 24) - (b / 24)) (-((a / 24) - (b / 24))))) ∧
    Q ((max ((a % 24) - (b % 24)) (-((a % 24) - (b % 24)))) + (max ((a / 24) - (b / 24)) (-((a / 24) - (b / 24))))) M) : Calls 1 mX11_steps [.inl a, .inl b] M Q := Calls.of (by decide) (Nat.le_of_ble_eq_true rfl) (s_X11_steps_0  a b M h)
set_option maxRecDepth 20000 in
theorem s_X11_side_0 {Q : Int → Me → Prop}  (a b c : Int) (M : Me) (h :
    0 ≤ b ∧
    0 ≤ a ∧
    cn ((b % 24) - (a % 24)) ∧
    0 ≤ b ∧
    0 ≤ a ∧
    cn ((b / 24) - (a / 24)) ∧
    0 ≤ c ∧
    0 ≤ a ∧
    cn ((c / 24) - (a / 24)) ∧
    cn (((b % 24) - (a % 24)) * ((c / 24) - (a / 24))) ∧
    0 ≤ c ∧
    0 ≤ a ∧
    cn ((c % 24) - (a % 24)) ∧
    cn (((b / 24) - (a / 24)) * ((c % 24) - (a % 24))) ∧
    cn ((((b % 24) - (a % 24)) * ((c / 24) - (a / 24))) - (((b / 24) - (a / 24)) * ((c % 24) - (a % 24)))) ∧
    Q ((((b % 24) - (a % 24)) * ((c / 24) - (a / 24))) - (((b / 24) - (a / 24)) * ((c % 24) - (a % 24)))) M) :
    Go (km 0 mX11_side Q) 0 [some (.inl a), some (.inl b), some (.inl c), none, none] [] M := by
  refine a_iload_n (pc := 0) dX11_side_0 rfl ?_
  refine a_bipush (pc := 1) dX11_side_1 (by decide) (cnb rfl) ?_
  refine a_iremn (pc := 3) dX11_side_3 (by decide) h.1 ?_
  replace h := h.2
  refine a_iload_n (pc := 4) dX11_side_4 rfl ?_
  refine a_bipush (pc := 5) dX11_side_5 (by decide) (cnb rfl) ?_
  refine a_iremn (pc := 7) dX11_side_7 (by decide) h.1 ?_
  replace h := h.2
  refine a_isub (pc := 8) dX11_side_8 h.1 ?_
  replace h := h.2
  refine a_istore_n (pc := 9) dX11_side_9 (Nat.le_of_ble_eq_true rfl) ?_
  refine a_iload_n (pc := 10) dX11_side_10 rfl ?_
  refine a_bipush (pc := 11) dX11_side_11 (by decide) (cnb rfl) ?_
  refine a_idivn (pc := 13) dX11_side_13 (by decide) h.1 ?_
  replace h := h.2
  refine a_iload_n (pc := 14) dX11_side_14 rfl ?_
  refine a_bipush (pc := 15) dX11_side_15 (by decide) (cnb rfl) ?_
  refine a_idivn (pc := 17) dX11_side_17 (by decide) h.1 ?_
  replace h := h.2
  refine a_isub (pc := 18) dX11_side_18 h.1 ?_
  replace h := h.2
  refine a_istore (pc := 19) dX11_side_19 (Nat.le_of_ble_eq_true rfl) ?_
  refine a_iload_n (pc := 21) dX11_side_21 rfl ?_
  refine a_iload_n (pc := 22) dX11_side_22 rfl ?_
  refine a_bipush (pc := 23) dX11_side_23 (by decide) (cnb rfl) ?_
  refine a_idivn (pc := 25) dX11_side_25 (by decide) h.1 ?_
  replace h := h.2
  refine a_iload_n (pc := 26) dX11_side_26 rfl ?_
  refine a_bipush (pc := 27) dX11_side_27 (by decide) (cnb rfl) ?_
  refine a_idivn (pc := 29) dX11_side_29 (by decide) h.1 ?_
  replace h := h.2
  refine a_isub (pc := 30) dX11_side_30 h.1 ?_
  replace h := h.2
  refine a_imul (pc := 31) dX11_side_31 h.1 ?_
  replace h := h.2
  refine a_iload (pc := 32) dX11_side_32 rfl ?_
  refine a_iload_n (pc := 34) dX11_side_34 rfl ?_
  refine a_bipush (pc := 35) dX11_side_35 (by decide) (cnb rfl) ?_
  refine a_iremn (pc := 37) dX11_side_37 (by decide) h.1 ?_
  replace h := h.2
  refine a_iload_n (pc := 38) dX11_side_38 rfl ?_
  refine a_bipush (pc := 39) dX11_side_39 (by decide) (cnb rfl) ?_
  refine a_iremn (pc := 41) dX11_side_41 (by decide) h.1 ?_
  replace h := h.2
  refine a_isub (pc := 42) dX11_side_42 h.1 ?_
  replace h := h.2
  refine a_imul (pc := 43) dX11_side_43 h.1 ?_
  replace h := h.2
  refine a_isub (pc := 44) dX11_side_44 h.1 ?_
  replace h := h.2
  exact a_iretI (pc := 45) dX11_side_45 rfl h
set_option maxRecDepth 20000 in
theorem e_X11_side {Q : Int → Me → Prop}  {a b c : Int} {M : Me} (h :
    0 ≤ b ∧
    0 ≤ a ∧
    cn ((b % 24) - (a % 24)) ∧
    0 ≤ b ∧
    0 ≤ a ∧
    cn ((b / 24) - (a / 24)) ∧
    0 ≤ c ∧
    0 ≤ a ∧
    cn ((c / 24) - (a / 24)) ∧
    cn (((b % 24) - (a % 24)) * ((c / 24) - (a / 24))) ∧
    0 ≤ c ∧
    0 ≤ a ∧
    cn ((c % 24) - (a % 24)) ∧
    cn (((b / 24) - (a / 24)) * ((c % 24) - (a % 24))) ∧
    cn ((((b % 24) - (a % 24)) * ((c / 24) - (a / 24))) - (((b / 24) - (a / 24)) * ((c % 24) - (a % 24)))) ∧
    Q ((((b % 24) - (a % 24)) * ((c / 24) - (a / 24))) - (((b / 24) - (a / 24)) * ((c % 24) - (a % 24)))) M) : Calls 0 mX11_side [.inl a, .inl b, .inl c] M Q := Calls.of (by decide) (Nat.le_of_ble_eq_true rfl) (s_X11_side_0  a b c M h)
set_option maxRecDepth 20000 in
theorem s_X11_isCut_0 {Q : Int → Me → Prop}  (a : Int) (M : Me) (h :
    ((a < 0 →
    Q 0 M) ∧ (0 ≤ a →
    ((M 3 8 ≤ a →
    Q 0 M) ∧ (a < M 3 8 →
    Q 1 M))))) :
    Go (km 0 mX11_isCut Q) 0 [some (.inr 0), some (.inl a)] [] M := by
  refine a_iload_n (pc := 0) dX11_isCut_0 rfl ?_
  refine a_if_lt (pc := 1) 19 dX11_isCut_1 rfl ⟨fun hc => ?_, fun hc => ?_⟩
  · replace h := h.1 hc
    refine a_iconst (pc := 19) dX11_isCut_19 (cnb rfl) ?_
    exact a_iretZ (pc := 20) dX11_isCut_20 rfl (by decide) h
  · replace h := h.2 hc
    refine a_iload_n (pc := 4) dX11_isCut_4 rfl ?_
    refine a_aload_n (pc := 5) dX11_isCut_5 rfl ?_
    refine a_getr (pc := 6) dX11_isCut_6 f_X11_19 rfl ?_
    refine a_geti (pc := 9) 8 dX11_isCut_9 f_X11_155 rfl rfl ?_
    refine a_icmp_ge (pc := 12) 19 dX11_isCut_12 rfl ⟨fun hc => ?_, fun hc => ?_⟩
    · replace h := h.1 hc
      refine a_iconst (pc := 19) dX11_isCut_19 (cnb rfl) ?_
      exact a_iretZ (pc := 20) dX11_isCut_20 rfl (by decide) h
    · replace h := h.2 hc
      refine a_iconst (pc := 15) dX11_isCut_15 (cnb rfl) ?_
      refine a_goto (pc := 16) 20 dX11_isCut_16 rfl ?_
      exact a_iretZ (pc := 20) dX11_isCut_20 rfl (by decide) h
set_option maxRecDepth 20000 in
theorem e_X11_isCut {Q : Int → Me → Prop}  {a : Int} {M : Me} (h :
    ((a < 0 →
    Q 0 M) ∧ (0 ≤ a →
    ((M 3 8 ≤ a →
    Q 0 M) ∧ (a < M 3 8 →
    Q 1 M))))) : Calls 0 mX11_isCut [.inr 0, .inl a] M Q := Calls.of (by decide) (Nat.le_of_ble_eq_true rfl) (s_X11_isCut_0  a M h)
set_option maxRecDepth 20000 in
theorem s_X0_isLetter_0 {Q : Int → Me → Prop}  (a : Int) (M : Me) (h :
    ((a < 65 →
    Q 0 M) ∧ (65 ≤ a →
    ((81 ≤ a →
    Q 0 M) ∧ (a < 81 →
    Q 1 M))))) :
    Go (km 0 mX0_isLetter Q) 0 [some (.inl a)] [] M := by
  refine a_iload_n (pc := 0) dX0_isLetter_0 rfl ?_
  refine a_bipush (pc := 1) dX0_isLetter_1 (by decide) (cnb rfl) ?_
  refine a_icmp_lt (pc := 3) 16 dX0_isLetter_3 rfl ⟨fun hc => ?_, fun hc => ?_⟩
  · replace h := h.1 hc
    refine a_iconst (pc := 16) dX0_isLetter_16 (cnb rfl) ?_
    exact a_iretZ (pc := 17) dX0_isLetter_17 rfl (by decide) h
  · replace h := h.2 hc
    refine a_iload_n (pc := 6) dX0_isLetter_6 rfl ?_
    refine a_bipush (pc := 7) dX0_isLetter_7 (by decide) (cnb rfl) ?_
    refine a_icmp_ge (pc := 9) 16 dX0_isLetter_9 rfl ⟨fun hc => ?_, fun hc => ?_⟩
    · replace h := h.1 hc
      refine a_iconst (pc := 16) dX0_isLetter_16 (cnb rfl) ?_
      exact a_iretZ (pc := 17) dX0_isLetter_17 rfl (by decide) h
    · replace h := h.2 hc
      refine a_iconst (pc := 12) dX0_isLetter_12 (cnb rfl) ?_
      refine a_goto (pc := 13) 17 dX0_isLetter_13 rfl ?_
      exact a_iretZ (pc := 17) dX0_isLetter_17 rfl (by decide) h
set_option maxRecDepth 20000 in
theorem e_X0_isLetter {Q : Int → Me → Prop}  {a : Int} {M : Me} (h :
    ((a < 65 →
    Q 0 M) ∧ (65 ≤ a →
    ((81 ≤ a →
    Q 0 M) ∧ (a < 81 →
    Q 1 M))))) : Calls 0 mX0_isLetter [.inl a] M Q := Calls.of (by decide) (Nat.le_of_ble_eq_true rfl) (s_X0_isLetter_0  a M h)
set_option maxRecDepth 20000 in
theorem s_X12_in_0 {Q : Int → Me → Prop}  (a b c : Int) (M : Me) (h :
    ((a < b →
    Q 0 M) ∧ (b ≤ a →
    ((c < a →
    Q 0 M) ∧ (a ≤ c →
    Q 1 M))))) :
    Go (km 0 mX12_in Q) 0 [some (.inl a), some (.inl b), some (.inl c)] [] M := by
  refine a_iload_n (pc := 0) dX12_in_0 rfl ?_
  refine a_iload_n (pc := 1) dX12_in_1 rfl ?_
  refine a_icmp_lt (pc := 2) 14 dX12_in_2 rfl ⟨fun hc => ?_, fun hc => ?_⟩
  · replace h := h.1 hc
    refine a_iconst (pc := 14) dX12_in_14 (cnb rfl) ?_
    exact a_iretZ (pc := 15) dX12_in_15 rfl (by decide) h
  · replace h := h.2 hc
    refine a_iload_n (pc := 5) dX12_in_5 rfl ?_
    refine a_iload_n (pc := 6) dX12_in_6 rfl ?_
    refine a_icmp_gt (pc := 7) 14 dX12_in_7 rfl ⟨fun hc => ?_, fun hc => ?_⟩
    · replace h := h.1 hc
      refine a_iconst (pc := 14) dX12_in_14 (cnb rfl) ?_
      exact a_iretZ (pc := 15) dX12_in_15 rfl (by decide) h
    · replace h := h.2 hc
      refine a_iconst (pc := 10) dX12_in_10 (cnb rfl) ?_
      refine a_goto (pc := 11) 15 dX12_in_11 rfl ?_
      exact a_iretZ (pc := 15) dX12_in_15 rfl (by decide) h
set_option maxRecDepth 20000 in
theorem e_X12_in {Q : Int → Me → Prop}  {a b c : Int} {M : Me} (h :
    ((a < b →
    Q 0 M) ∧ (b ≤ a →
    ((c < a →
    Q 0 M) ∧ (a ≤ c →
    Q 1 M))))) : Calls 0 mX12_in [.inl a, .inl b, .inl c] M Q := Calls.of (by decide) (Nat.le_of_ble_eq_true rfl) (s_X12_in_0  a b c M h)
set_option maxRecDepth 20000 in
theorem s_X12_min_0 {Q : Int → Me → Prop}  (a b : Int) (M : Me) (h :
    ((b ≤ a →
    Q b M) ∧ (a < b →
    Q a M))) :
    Go (km 0 mX12_min Q) 0 [some (.inl a), some (.inl b)] [] M := by
  refine a_iload_n (pc := 0) dX12_min_0 rfl ?_
  refine a_iload_n (pc := 1) dX12_min_1 rfl ?_
  refine a_icmp_ge (pc := 2) 9 dX12_min_2 rfl ⟨fun hc => ?_, fun hc => ?_⟩
  · replace h := h.1 hc
    refine a_iload_n (pc := 9) dX12_min_9 rfl ?_
    exact a_iretI (pc := 10) dX12_min_10 rfl h
  · replace h := h.2 hc
    refine a_iload_n (pc := 5) dX12_min_5 rfl ?_
    refine a_goto (pc := 6) 10 dX12_min_6 rfl ?_
    exact a_iretI (pc := 10) dX12_min_10 rfl h
set_option maxRecDepth 20000 in
theorem e_X12_min {Q : Int → Me → Prop}  {a b : Int} {M : Me} (h :
    ((b ≤ a →
    Q b M) ∧ (a < b →
    Q a M))) : Calls 0 mX12_min [.inl a, .inl b] M Q := Calls.of (by decide) (Nat.le_of_ble_eq_true rfl) (s_X12_min_0  a b M h)
set_option maxRecDepth 20000 in
theorem s_X12_max_0 {Q : Int → Me → Prop}  (a b : Int) (M : Me) (h :
    ((a ≤ b →
    Q b M) ∧ (b < a →
    Q a M))) :
    Go (km 0 mX12_max Q) 0 [some (.inl a), some (.inl b)] [] M := by
  refine a_iload_n (pc := 0) dX12_max_0 rfl ?_
  refine a_iload_n (pc := 1) dX12_max_1 rfl ?_
  refine a_icmp_le (pc := 2) 9 dX12_max_2 rfl ⟨fun hc => ?_, fun hc => ?_⟩
  · replace h := h.1 hc
    refine a_iload_n (pc := 9) dX12_max_9 rfl ?_
    exact a_iretI (pc := 10) dX12_max_10 rfl h
  · replace h := h.2 hc
    refine a_iload_n (pc := 5) dX12_max_5 rfl ?_
    refine a_goto (pc := 6) 10 dX12_max_6 rfl ?_
    exact a_iretI (pc := 10) dX12_max_10 rfl h
set_option maxRecDepth 20000 in
theorem e_X12_max {Q : Int → Me → Prop}  {a b : Int} {M : Me} (h :
    ((a ≤ b →
    Q b M) ∧ (b < a →
    Q a M))) : Calls 0 mX12_max [.inl a, .inl b] M Q := Calls.of (by decide) (Nat.le_of_ble_eq_true rfl) (s_X12_max_0  a b M h)
set_option maxRecDepth 20000 in
theorem s_X12_size_0 {Q : Int → Me → Prop}  (a : Int) (M : Me) (h :
    ((0 ≤ a →
    Q a M) ∧ (a < 0 →
    cn (-a) ∧
    Q (-a) M))) :
    Go (km 0 mX12_size Q) 0 [some (.inl a)] [] M := by
  refine a_iload_n (pc := 0) dX12_size_0 rfl ?_
  refine a_if_ge (pc := 1) 9 dX12_size_1 rfl ⟨fun hc => ?_, fun hc => ?_⟩
  · replace h := h.1 hc
    refine a_iload_n (pc := 9) dX12_size_9 rfl ?_
    exact a_iretI (pc := 10) dX12_size_10 rfl h
  · replace h := h.2 hc
    refine a_iload_n (pc := 4) dX12_size_4 rfl ?_
    refine a_ineg (pc := 5) dX12_size_5 h.1 ?_
    replace h := h.2
    refine a_goto (pc := 6) 10 dX12_size_6 rfl ?_
    exact a_iretI (pc := 10) dX12_size_10 rfl h
set_option maxRecDepth 20000 in
theorem e_X12_size {Q : Int → Me → Prop}  {a : Int} {M : Me} (h :
    ((0 ≤ a →
    Q a M) ∧ (a < 0 →
    cn (-a) ∧
    Q (-a) M))) : Calls 0 mX12_size [.inl a] M Q := Calls.of (by decide) (Nat.le_of_ble_eq_true rfl) (s_X12_size_0  a M h)
set_option maxRecDepth 20000 in
theorem s_X12_has_0 {Q : Int → Me → Prop}  (a b : Int) (M : Me) (h :
    ((band (bshr a b) 1 ≠ 1 →
    Q 0 M) ∧ (band (bshr a b) 1 = 1 →
    Q 1 M))) :
    Go (km 0 mX12_has Q) 0 [some (.inl a), some (.inl b)] [] M := by
  refine a_iload_n (pc := 0) dX12_has_0 rfl ?_
  refine a_iload_n (pc := 1) dX12_has_1 rfl ?_
  refine a_ishr (pc := 2) dX12_has_2 ?_
  refine a_iconst (pc := 3) dX12_has_3 (cnb rfl) ?_
  refine a_iand (pc := 4) dX12_has_4 ?_
  refine a_iconst (pc := 5) dX12_has_5 (cnb rfl) ?_
  refine a_icmp_ne (pc := 6) 13 dX12_has_6 rfl ⟨fun hc => ?_, fun hc => ?_⟩
  · replace h := h.1 hc
    refine a_iconst (pc := 13) dX12_has_13 (cnb rfl) ?_
    exact a_iretZ (pc := 14) dX12_has_14 rfl (by decide) h
  · replace h := h.2 hc
    refine a_iconst (pc := 9) dX12_has_9 (cnb rfl) ?_
    refine a_goto (pc := 10) 14 dX12_has_10 rfl ?_
    exact a_iretZ (pc := 14) dX12_has_14 rfl (by decide) h
set_option maxRecDepth 20000 in
theorem e_X12_has {Q : Int → Me → Prop}  {a b : Int} {M : Me} (h :
    ((band (bshr a b) 1 ≠ 1 →
    Q 0 M) ∧ (band (bshr a b) 1 = 1 →
    Q 1 M))) : Calls 0 mX12_has [.inl a, .inl b] M Q := Calls.of (by decide) (Nat.le_of_ble_eq_true rfl) (s_X12_has_0  a b M h)
