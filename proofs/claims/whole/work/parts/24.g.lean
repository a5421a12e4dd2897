set_option maxRecDepth 20000 in
theorem s_X12_stepsBetween_0 {Q : Int → Me → Prop}  (a b : Int) (M : Me) (h :
    0 ≤ a ∧
    0 ≤ b ∧
    cn ((a % 24) - (b % 24)) ∧
    cn (-((a % 24) - (b % 24))) ∧
    0 ≤ a ∧
    0 ≤ b ∧
    cn ((a / 24) - (b / 24)) ∧
    cn (-((a / 24) - (b / 24))) ∧
    cn ((max ((a % 24) - (b % 24)) (-((a % 24) - (b % 24)))) + (max ((a / 24) - (b / 24)) (-((a / 24) - (b / 24))))) ∧
    Q ((max ((a % 24) - (b % 24)) (-((a % 24) - (b % 24)))) + (max ((a / 24) - (b / 24)) (-((a / 24) - (b / 24))))) M) :
    Go (km 1 mX12_stepsBetween Q) 0 [some (.inl a), some (.inl b)] [] M := by
  refine a_iload_n (pc := 0) dX12_stepsBetween_0 rfl ?_
  refine a_bipush (pc := 1) dX12_stepsBetween_1 (by decide) (cnb rfl) ?_
  refine a_iremn (pc := 3) dX12_stepsBetween_3 (by decide) h.1 ?_
  replace h := h.2
  refine a_iload_n (pc := 4) dX12_stepsBetween_4 rfl ?_
  refine a_bipush (pc := 5) dX12_stepsBetween_5 (by decide) (cnb rfl) ?_
  refine a_iremn (pc := 7) dX12_stepsBetween_7 (by decide) h.1 ?_
  replace h := h.2
  refine a_isub (pc := 8) dX12_stepsBetween_8 h.1 ?_
  replace h := h.2
  refine a_callSi (pc := 9) (d := 0) (st := []) [.inl ((a % 24) - (b % 24))] dX12_stepsBetween_9 l_X12_160 st_X12_size rfl ⟨Nat.le_of_ble_eq_true rfl, Nat.le_of_ble_eq_true rfl⟩ ⟨Nat.le_of_ble_eq_true rfl, Nat.le_of_ble_eq_true rfl⟩ (Nat.le_of_ble_eq_true rfl) ?_
  have hp9_4 := h.1
  replace h := h.2
  refine p_X12_size hp9_4 ?_
  refine a_iload_n (pc := 12) dX12_stepsBetween_12 rfl ?_
  refine a_bipush (pc := 13) dX12_stepsBetween_13 (by decide) (cnb rfl) ?_
  refine a_idivn (pc := 15) dX12_stepsBetween_15 (by decide) h.1 ?_
  replace h := h.2
  refine a_iload_n (pc := 16) dX12_stepsBetween_16 rfl ?_
  refine a_bipush (pc := 17) dX12_stepsBetween_17 (by decide) (cnb rfl) ?_
  refine a_idivn (pc := 19) dX12_stepsBetween_19 (by decide) h.1 ?_
  replace h := h.2
  refine a_isub (pc := 20) dX12_stepsBetween_20 h.1 ?_
  replace h := h.2
  refine a_callSi (pc := 21) (d := 0) (st := [.inl (max ((a % 24) - (b % 24)) (-((a % 24) - (b % 24))))]) [.inl ((a / 24) - (b / 24))] dX12_stepsBetween_21 l_X12_160 st_X12_size rfl ⟨Nat.le_of_ble_eq_true rfl, Nat.le_of_ble_eq_true rfl⟩ ⟨Nat.le_of_ble_eq_true rfl, Nat.le_of_ble_eq_true rfl⟩ (Nat.le_of_ble_eq_true rfl) ?_
  have hp21_8 := h.1
  replace h := h.2
  refine p_X12_size hp21_8 ?_
  refine a_iadd (pc := 24) dX12_stepsBetween_24 h.1 ?_
  replace h := h.2
  exact a_iretI (pc := 25) dX12_stepsBetween_25 rfl h
set_option maxRecDepth 20000 in
theorem e_X12_stepsBetween {Q : Int → Me → Prop}  {a b : Int} {M : Me} (h :
    0 ≤ a ∧
    0 ≤ b ∧
    cn ((a % 24) - (b % 24)) ∧
    cn (-((a % 24) - (b % 24))) ∧
    0 ≤ a ∧
    0 ≤ b ∧
    cn ((a / 24) - (b / 24)) ∧
    cn (-((a / 24) - (b / 24))) ∧
    cn ((max ((a % 24) - (b % 24)) (-((a % 24) - (b % 24)))) + (max ((a / 24) - (b / 24)) (-((a / 24) - (b / 24))))) ∧
    Q ((max ((a % 24) - (b % 24)) (-((a % 24) - (b % 24)))) + (max ((a / 24) - (b / 24)) (-((a / 24) - (b / 24))))) M) : Calls 1 mX12_stepsBetween [.inl a, .inl b] M Q := Calls.of (by decide) (Nat.le_of_ble_eq_true rfl) (s_X12_stepsBetween_0  a b M h)
set_option maxRecDepth 20000 in
theorem s_X9_byteAt_0 {Q : Int → Me → Prop}  (a : Int) (M : Me) (h :
    ((a < 0 →
    Q (-1) M) ∧ (0 ≤ a →
    ((M 1 1 ≤ a →
    Q (-1) M) ∧ (a < M 1 1 →
    (0 ≤ a ∧ a < 260) ∧
    Q (M 2 a) M))))) :
    Go (km 0 mX9_byteAt Q) 0 [some (.inr 1), some (.inl a)] [] M := by
  refine a_iload_n (pc := 0) dX9_byteAt_0 rfl ?_
  refine a_if_lt (pc := 1) 21 dX9_byteAt_1 rfl ⟨fun hc => ?_, fun hc => ?_⟩
  · replace h := h.1 hc
    refine a_iconst (pc := 21) dX9_byteAt_21 (cnb rfl) ?_
    exact a_iretI (pc := 22) dX9_byteAt_22 rfl h
  · replace h := h.2 hc
    refine a_iload_n (pc := 4) dX9_byteAt_4 rfl ?_
    refine a_aload_n (pc := 5) dX9_byteAt_5 rfl ?_
    refine a_geti (pc := 6) 1 dX9_byteAt_6 f_X9_15 rfl rfl ?_
    refine a_icmp_ge (pc := 9) 21 dX9_byteAt_9 rfl ⟨fun hc => ?_, fun hc => ?_⟩
    · replace h := h.1 hc
      refine a_iconst (pc := 21) dX9_byteAt_21 (cnb rfl) ?_
      exact a_iretI (pc := 22) dX9_byteAt_22 rfl h
    · replace h := h.2 hc
      refine a_aload_n (pc := 12) dX9_byteAt_12 rfl ?_
      refine a_getr (pc := 13) dX9_byteAt_13 f_X9_11 rfl ?_
      refine a_iload_n (pc := 16) dX9_byteAt_16 rfl ?_
      refine a_iald (pc := 17) dX9_byteAt_17 rfl h.1.1 h.1.2  ?_
      replace h := h.2
      refine a_goto (pc := 18) 22 dX9_byteAt_18 rfl ?_
      exact a_iretI (pc := 22) dX9_byteAt_22 rfl h
set_option maxRecDepth 20000 in
theorem e_X9_byteAt {Q : Int → Me → Prop}  {a : Int} {M : Me} (h :
    ((a < 0 →
    Q (-1) M) ∧ (0 ≤ a →
    ((M 1 1 ≤ a →
    Q (-1) M) ∧ (a < M 1 1 →
    (0 ≤ a ∧ a < 260) ∧
    Q (M 2 a) M))))) : Calls 0 mX9_byteAt [.inr 1, .inl a] M Q := Calls.of (by decide) (Nat.le_of_ble_eq_true rfl) (s_X9_byteAt_0  a M h)
set_option maxRecDepth 20000 in
theorem s_X9_clear_0 {Q : Int → Me → Prop}  (M : Me) (h :
    Q 0 (mput M 1 1 0)) :
    Go (km 0 mX9_clear Q) 0 [some (.inr 1)] [] M := by
  refine a_aload_n (pc := 0) dX9_clear_0 rfl ?_
  refine a_iconst (pc := 1) dX9_clear_1 (cnb rfl) ?_
  refine a_puti (pc := 2) 1 dX9_clear_2 f_X9_15 rfl rfl (Or.inl rfl) ?_
  exact a_ret (pc := 5) dX9_clear_5 rfl h
set_option maxRecDepth 20000 in
theorem e_X9_clear {Q : Int → Me → Prop}  {M : Me} (h :
    Q 0 (mput M 1 1 0)) : Calls 0 mX9_clear [.inr 1] M Q := Calls.of (by decide) (Nat.le_of_ble_eq_true rfl) (s_X9_clear_0   M h)
set_option maxRecDepth 20000 in
theorem s_X12_octet_0 {Q : Int → Me → Prop}  (a : Int) (M : Me) (h :
    (0 ≤ a ∧ a < 260) ∧
    Q (band (M 88 a) 255) M) :
    Go (km 0 mX12_octet Q) 0 [some (.inr 76), some (.inl a)] [] M := by
  refine a_aload_n (pc := 0) dX12_octet_0 rfl ?_
  refine a_getr (pc := 1) dX12_octet_1 f_X12_43 rfl ?_
  refine a_iload_n (pc := 4) dX12_octet_4 rfl ?_
  refine a_bald (pc := 5) dX12_octet_5 rfl h.1.1 h.1.2  ?_
  replace h := h.2
  refine a_sipush (pc := 6) dX12_octet_6 (by decide) (cnb rfl) ?_
  refine a_iand (pc := 9) dX12_octet_9 ?_
  exact a_iretI (pc := 10) dX12_octet_10 rfl h
set_option maxRecDepth 20000 in
theorem e_X12_octet {Q : Int → Me → Prop}  {a : Int} {M : Me} (h :
    (0 ≤ a ∧ a < 260) ∧
    Q (band (M 88 a) 255) M) : Calls 0 mX12_octet [.inr 76, .inl a] M Q := Calls.of (by decide) (Nat.le_of_ble_eq_true rfl) (s_X12_octet_0  a M h)
set_option maxRecDepth 20000 in
theorem s_X12_here_0 {Q : Int → Me → Prop}  (M : Me) (h :
    ((M 76 15 ≤ M 76 14 →
    Q (-1) M) ∧ (M 76 14 < M 76 15 →
    (0 ≤ M 76 14 ∧ M 76 14 < 260) ∧
    Q (band (M 88 (M 76 14)) 255) M))) :
    Go (km 0 mX12_here Q) 0 [some (.inr 76)] [] M := by
  refine a_aload_n (pc := 0) dX12_here_0 rfl ?_
  refine a_geti (pc := 1) 14 dX12_here_1 f_X12_175 rfl rfl ?_
  refine a_aload_n (pc := 4) dX12_here_4 rfl ?_
  refine a_geti (pc := 5) 15 dX12_here_5 f_X12_178 rfl rfl ?_
  refine a_icmp_ge (pc := 8) 27 dX12_here_8 rfl ⟨fun hc => ?_, fun hc => ?_⟩
  · replace h := h.1 hc
    refine a_iconst (pc := 27) dX12_here_27 (cnb rfl) ?_
    exact a_iretI (pc := 28) dX12_here_28 rfl h
  · replace h := h.2 hc
    refine a_aload_n (pc := 11) dX12_here_11 rfl ?_
    refine a_getr (pc := 12) dX12_here_12 f_X12_43 rfl ?_
    refine a_aload_n (pc := 15) dX12_here_15 rfl ?_
    refine a_geti (pc := 16) 14 dX12_here_16 f_X12_175 rfl rfl ?_
    refine a_bald (pc := 19) dX12_here_19 rfl h.1.1 h.1.2  ?_
    replace h := h.2
    refine a_sipush (pc := 20) dX12_here_20 (by decide) (cnb rfl) ?_
    refine a_iand (pc := 23) dX12_here_23 ?_
    refine a_goto (pc := 24) 28 dX12_here_24 rfl ?_
    exact a_iretI (pc := 28) dX12_here_28 rfl h
set_option maxRecDepth 20000 in
theorem e_X12_here {Q : Int → Me → Prop}  {M : Me} (h :
    ((M 76 15 ≤ M 76 14 →
    Q (-1) M) ∧ (M 76 14 < M 76 15 →
    (0 ≤ M 76 14 ∧ M 76 14 < 260) ∧
    Q (band (M 88 (M 76 14)) 255) M))) : Calls 0 mX12_here [.inr 76] M Q := Calls.of (by decide) (Nat.le_of_ble_eq_true rfl) (s_X12_here_0   M h)
set_option maxRecDepth 20000 in
theorem s_X9_sign_0 {Q : Int → Me → Prop}  (M : Me) (h :
    ((M 1 4 ≠ 0 →
    Q (-1) M) ∧ (M 1 4 = 0 →
    ((M 1 3 < 0 →
    Q (-1) M) ∧ (0 ≤ M 1 3 →
    ((M 1 2 ≤ M 1 3 →
    Q (-1) M) ∧ (M 1 3 < M 1 2 →
    (0 ≤ M 1 3 ∧ M 1 3 < 260) ∧
    Q (M 2 (M 1 3)) M))))))) :
    Go (km 0 mX9_sign Q) 0 [some (.inr 1)] [] M := by
  refine a_aload_n (pc := 0) dX9_sign_0 rfl ?_
  refine a_geti (pc := 1) 4 dX9_sign_1 f_X9_25 rfl rfl ?_
  refine a_if_ne (pc := 4) 37 dX9_sign_4 rfl ⟨fun hc => ?_, fun hc => ?_⟩
  · replace h := h.1 hc
    refine a_iconst (pc := 37) dX9_sign_37 (cnb rfl) ?_
    exact a_iretI (pc := 38) dX9_sign_38 rfl h
  · replace h := h.2 hc
    refine a_aload_n (pc := 7) dX9_sign_7 rfl ?_
    refine a_geti (pc := 8) 3 dX9_sign_8 f_X9_22 rfl rfl ?_
    refine a_if_lt (pc := 11) 37 dX9_sign_11 rfl ⟨fun hc => ?_, fun hc => ?_⟩
    · replace h := h.1 hc
      refine a_iconst (pc := 37) dX9_sign_37 (cnb rfl) ?_
      exact a_iretI (pc := 38) dX9_sign_38 rfl h
    · replace h := h.2 hc
      refine a_aload_n (pc := 14) dX9_sign_14 rfl ?_
      refine a_geti (pc := 15) 3 dX9_sign_15 f_X9_22 rfl rfl ?_
      refine a_aload_n (pc := 18) dX9_sign_18 rfl ?_
      refine a_geti (pc := 19) 2 dX9_sign_19 f_X9_19 rfl rfl ?_
      refine a_icmp_ge (pc := 22) 37 dX9_sign_22 rfl ⟨fun hc => ?_, fun hc => ?_⟩
      · replace h := h.1 hc
        refine a_iconst (pc := 37) dX9_sign_37 (cnb rfl) ?_
        exact a_iretI (pc := 38) dX9_sign_38 rfl h
      · replace h := h.2 hc
        refine a_aload_n (pc := 25) dX9_sign_25 rfl ?_
        refine a_getr (pc := 26) dX9_sign_26 f_X9_11 rfl ?_
        refine a_aload_n (pc := 29) dX9_sign_29 rfl ?_
        refine a_geti (pc := 30) 3 dX9_sign_30 f_X9_22 rfl rfl ?_
        refine a_iald (pc := 33) dX9_sign_33 rfl h.1.1 h.1.2  ?_
        replace h := h.2
        refine a_goto (pc := 34) 38 dX9_sign_34 rfl ?_
        exact a_iretI (pc := 38) dX9_sign_38 rfl h
set_option maxRecDepth 20000 in
theorem e_X9_sign {Q : Int → Me → Prop}  {M : Me} (h :
    ((M 1 4 ≠ 0 →
    Q (-1) M) ∧ (M 1 4 = 0 →
    ((M 1 3 < 0 →
    Q (-1) M) ∧ (0 ≤ M 1 3 →
    ((M 1 2 ≤ M 1 3 →
    Q (-1) M) ∧ (M 1 3 < M 1 2 →
    (0 ≤ M 1 3 ∧ M 1 3 < 260) ∧
    Q (M 2 (M 1 3)) M))))))) : Calls 0 mX9_sign [.inr 1] M Q := Calls.of (by decide) (Nat.le_of_ble_eq_true rfl) (s_X9_sign_0   M h)
set_option maxRecDepth 20000 in
theorem s_X1_letterBits_0 {Q : Int → Me → Prop} {o : Nat} (ho : isX1 o) (a : Int) (M : Me) (h :
    (0 ≤ a ∧ a < 16) ∧
    (0 ≤ a ∧ a < 16) ∧
    ((0 ≤ M (o + 3) a →
    (0 ≤ a ∧ a < 16) ∧
    Q (bor (bshl 1 (M (o + 2) a)) (bshl 1 (M (o + 3) a))) M) ∧ (M (o + 3) a < 0 →
    Q (bshl 1 (M (o + 2) a)) M))) :
    Go (km 0 mX1_letterBits Q) 0 [some (.inr o), some (.inl a), none] [] M := by
  obtain ⟨ss_o, hs_o⟩ := ob_X1 ho
  refine a_iconst (pc := 0) dX1_letterBits_0 (cnb rfl) ?_
  refine a_aload_n (pc := 1) dX1_letterBits_1 rfl ?_
  refine a_getr (pc := 2) dX1_letterBits_2 f_X1_15 (fr_X1_1 ho) ?_
  refine a_iload_n (pc := 5) dX1_letterBits_5 rfl ?_
  refine a_iald (pc := 6) dX1_letterBits_6 (ar_X1_1 ho) h.1.1 h.1.2  ?_
  replace h := h.2
  refine a_ishl (pc := 7) dX1_letterBits_7 ?_
  refine a_istore_n (pc := 8) dX1_letterBits_8 (Nat.le_of_ble_eq_true rfl) ?_
  refine a_aload_n (pc := 9) dX1_letterBits_9 rfl ?_
  refine a_getr (pc := 10) dX1_letterBits_10 f_X1_18 (fr_X1_2 ho) ?_
  refine a_iload_n (pc := 13) dX1_letterBits_13 rfl ?_
  refine a_iald (pc := 14) dX1_letterBits_14 (ar_X1_2 ho) h.1.1 h.1.2  ?_
  replace h := h.2
  refine a_if_ge (pc := 15) 22 dX1_letterBits_15 rfl ⟨fun hc => ?_, fun hc => ?_⟩
  · replace h := h.1 hc
    refine a_iload_n (pc := 22) dX1_letterBits_22 rfl ?_
    refine a_iconst (pc := 23) dX1_letterBits_23 (cnb rfl) ?_
    refine a_aload_n (pc := 24) dX1_letterBits_24 rfl ?_
    refine a_getr (pc := 25) dX1_letterBits_25 f_X1_18 (fr_X1_2 ho) ?_
    refine a_iload_n (pc := 28) dX1_letterBits_28 rfl ?_
    refine a_iald (pc := 29) dX1_letterBits_29 (ar_X1_2 ho) h.1.1 h.1.2  ?_
    replace h := h.2
    refine a_ishl (pc := 30) dX1_letterBits_30 ?_
    refine a_ior (pc := 31) dX1_letterBits_31 ?_
    exact a_iretI (pc := 32) dX1_letterBits_32 rfl h
  · replace h := h.2 hc
    refine a_iload_n (pc := 18) dX1_letterBits_18 rfl ?_
    refine a_goto (pc := 19) 32 dX1_letterBits_19 rfl ?_
    exact a_iretI (pc := 32) dX1_letterBits_32 rfl h
set_option maxRecDepth 20000 in
theorem e_X1_letterBits {Q : Int → Me → Prop} {o : Nat} (ho : isX1 o) {a : Int} {M : Me} (h :
    (0 ≤ a ∧ a < 16) ∧
    (0 ≤ a ∧ a < 16) ∧
    ((0 ≤ M (o + 3) a →
    (0 ≤ a ∧ a < 16) ∧
    Q (bor (bshl 1 (M (o + 2) a)) (bshl 1 (M (o + 3) a))) M) ∧ (M (o + 3) a < 0 →
    Q (bshl 1 (M (o + 2) a)) M))) : Calls 0 mX1_letterBits [.inr o, .inl a] M Q := Calls.of (by decide) (Nat.le_of_ble_eq_true rfl) (s_X1_letterBits_0 ho a M h)
