set_option maxRecDepth 20000 in
theorem s_X3_add_0 {Q : Int → Me → Prop}  (a b : Int) (M : Me) (h :
    ((240 ≤ M 30 7 →
    Q 0 M) ∧ (M 30 7 < 240 →
    cn (256 * b) ∧
    cn ((256 * b) + a) ∧
    (0 ≤ M 30 7 ∧ M 30 7 < 240) ∧
    cn ((M 30 7) + 1) ∧
    Q 0 (mput (mput M 35 (M 30 7) ((256 * b) + a)) 30 7 ((M 30 7) + 1))))) :
    Go (km 0 mX3_add Q) 0 [some (.inr 30), some (.inl a), some (.inl b)] [] M := by
  refine a_aload_n (pc := 0) dX3_add_0 rfl ?_
  refine a_geti (pc := 1) 7 dX3_add_1 f_X3_32 rfl rfl ?_
  refine a_aload_n (pc := 4) dX3_add_4 rfl ?_
  refine a_getr (pc := 5) dX3_add_5 f_X3_22 rfl ?_
  refine a_alen (pc := 8) 240 dX3_add_8 rfl rfl (cnb rfl) ?_
  refine a_icmp_ge (pc := 9) 38 dX3_add_9 rfl ⟨fun hc => ?_, fun hc => ?_⟩
  · replace h := h.1 hc
    exact a_ret (pc := 38) dX3_add_38 rfl h
  · replace h := h.2 hc
    refine a_aload_n (pc := 12) dX3_add_12 rfl ?_
    refine a_getr (pc := 13) dX3_add_13 f_X3_22 rfl ?_
    refine a_aload_n (pc := 16) dX3_add_16 rfl ?_
    refine a_geti (pc := 17) 7 dX3_add_17 f_X3_32 rfl rfl ?_
    refine a_sipush (pc := 20) dX3_add_20 (by decide) (cnb rfl) ?_
    refine a_iload_n (pc := 23) dX3_add_23 rfl ?_
    refine a_imul (pc := 24) dX3_add_24 h.1 ?_
    replace h := h.2
    refine a_iload_n (pc := 25) dX3_add_25 rfl ?_
    refine a_iadd (pc := 26) dX3_add_26 h.1 ?_
    replace h := h.2
    refine a_iast (pc := 27) dX3_add_27 rfl h.1.1 h.1.2 ?_
    replace h := h.2
    refine a_aload_n (pc := 28) dX3_add_28 rfl ?_
    refine a_dup (pc := 29) dX3_add_29 ?_
    refine a_getiE (pc := 30) (M 30 7) 7 dX3_add_30 f_X3_32 rfl rfl (mput_ne _ _ _ _ (by decide)) ?_
    refine a_iconst (pc := 33) dX3_add_33 (cnb rfl) ?_
    refine a_iadd (pc := 34) dX3_add_34 h.1 ?_
    replace h := h.2
    refine a_puti (pc := 35) 7 dX3_add_35 f_X3_32 rfl rfl (Or.inl rfl) ?_
    exact a_ret (pc := 38) dX3_add_38 rfl h
set_option maxRecDepth 20000 in
theorem e_X3_add {Q : Int → Me → Prop}  {a b : Int} {M : Me} (h :
    ((240 ≤ M 30 7 →
    Q 0 M) ∧ (M 30 7 < 240 →
    cn (256 * b) ∧
    cn ((256 * b) + a) ∧
    (0 ≤ M 30 7 ∧ M 30 7 < 240) ∧
    cn ((M 30 7) + 1) ∧
    Q 0 (mput (mput M 35 (M 30 7) ((256 * b) + a)) 30 7 ((M 30 7) + 1))))) : Calls 0 mX3_add [.inr 30, .inl a, .inl b] M Q := Calls.of (by decide) (Nat.le_of_ble_eq_true rfl) (s_X3_add_0  a b M h)
set_option maxRecDepth 20000 in
theorem s_X3_addJump_0 {Q : Int → Me → Prop}  (a b : Int) (M : Me) (h :
    cn (b + 1) ∧
    Calls 0 mX3_add [.inr 30, .inl a, .inl (b + 1)] M (fun r5 M5 =>
    cn ((M5 30 7) - 1) ∧
    Q ((M5 30 7) - 1) M5)) :
    Go (km 1 mX3_addJump Q) 0 [some (.inr 30), some (.inl a), some (.inl b)] [] M := by
  refine a_aload_n (pc := 0) dX3_addJump_0 rfl ?_
  refine a_iload_n (pc := 1) dX3_addJump_1 rfl ?_
  refine a_iload_n (pc := 2) dX3_addJump_2 rfl ?_
  refine a_iconst (pc := 3) dX3_addJump_3 (cnb rfl) ?_
  refine a_iadd (pc := 4) dX3_addJump_4 h.1 ?_
  replace h := h.2
  refine a_callVv (pc := 5) (d := 0) (st := []) (o := 30) [.inl a, .inl (b + 1)] dX3_addJump_5 l_X3_45 in_X3_add se_X3_add rfl rfl rfl ⟨Nat.le_of_ble_eq_true rfl, Nat.le_of_ble_eq_true rfl⟩ ⟨Nat.le_of_ble_eq_true rfl, Nat.le_of_ble_eq_true rfl⟩ (Nat.le_of_ble_eq_true rfl) ?_
  refine Calls.mono (fun r5 M5 hr5 hM5 h => ?_) h
  refine a_aload_n (pc := 8) dX3_addJump_8 rfl ?_
  refine a_geti (pc := 9) 7 dX3_addJump_9 f_X3_32 rfl rfl ?_
  refine a_iconst (pc := 12) dX3_addJump_12 (cnb rfl) ?_
  refine a_isub (pc := 13) dX3_addJump_13 h.1 ?_
  replace h := h.2
  exact a_iretI (pc := 14) dX3_addJump_14 rfl h
set_option maxRecDepth 20000 in
theorem e_X3_addJump {Q : Int → Me → Prop}  {a b : Int} {M : Me} (h :
    cn (b + 1) ∧
    Calls 0 mX3_add [.inr 30, .inl a, .inl (b + 1)] M (fun r5 M5 =>
    cn ((M5 30 7) - 1) ∧
    Q ((M5 30 7) - 1) M5)) : Calls 1 mX3_addJump [.inr 30, .inl a, .inl b] M Q := Calls.of (by decide) (Nat.le_of_ble_eq_true rfl) (s_X3_addJump_0  a b M h)
set_option maxRecDepth 20000 in
theorem s_X3_endJumps_0 {Q : Int → Me → Prop}  (a : Int) (M : Me) (h :
    Go (km 0 mX3_endJumps Q) 4 [some (.inr 30), none, some (.inl a), some (.inl 0), none] [] M) :
    Go (km 0 mX3_endJumps Q) 0 [some (.inr 30), some (.inl a), none, none, none] [] M := by
  refine a_iload_n (pc := 0) dX3_endJumps_0 rfl ?_
  refine a_istore_n (pc := 1) dX3_endJumps_1 (Nat.le_of_ble_eq_true rfl) ?_
  refine a_iconst (pc := 2) dX3_endJumps_2 (cnb rfl) ?_
  refine a_istore_n (pc := 3) dX3_endJumps_3 (Nat.le_of_ble_eq_true rfl) ?_
  exact Go.weak h (And.intro rfl (And.intro rfl (And.intro rfl True.intro)))
set_option maxRecDepth 20000 in
theorem e_X3_endJumps {Q : Int → Me → Prop}  {a : Int} {M : Me} (h :
    Go (km 0 mX3_endJumps Q) 4 [some (.inr 30), none, some (.inl a), some (.inl 0), none] [] M) : Calls 0 mX3_endJumps [.inr 30, .inl a] M Q := Calls.of (by decide) (Nat.le_of_ble_eq_true rfl) (s_X3_endJumps_0  a M h)
set_option maxRecDepth 20000 in
theorem s_X3_endJumps_4 {Q : Int → Me → Prop}  (x2 x3 : Int) (M : Me) (h :
    ((240 ≤ x3 →
    Q 0 M) ∧ (x3 < 240 →
    ((x2 < 0 →
    Q 0 M) ∧ (0 ≤ x2 →
    ((240 ≤ x2 →
    Q 0 M) ∧ (x2 < 240 →
    (0 ≤ x2 ∧ x2 < 240) ∧
    cn ((bshr (M 35 x2) 8) - 1) ∧
    cn (256 * (M 30 7)) ∧
    (0 ≤ x2 ∧ x2 < 240) ∧
    cn ((256 * (M 30 7)) + (band (M 35 x2) 255)) ∧
    (0 ≤ x2 ∧ x2 < 240) ∧
    cn (x3 + 1) ∧
    Go (km 0 mX3_endJumps Q) 4 [some (.inr 30), none, some (.inl ((bshr (M 35 x2) 8) - 1)), some (.inl (x3 + 1)), none] [] (mput M 35 x2 ((256 * (M 30 7)) + (band (M 35 x2) 255)))))))))) :
    Go (km 0 mX3_endJumps Q) 4 [some (.inr 30), none, some (.inl x2), some (.inl x3), none] [] M := by
  refine a_iload_n (pc := 4) dX3_endJumps_4 rfl ?_
  refine a_aload_n (pc := 5) dX3_endJumps_5 rfl ?_
  refine a_getr (pc := 6) dX3_endJumps_6 f_X3_22 rfl ?_
  refine a_alen (pc := 9) 240 dX3_endJumps_9 rfl rfl (cnb rfl) ?_
  refine a_icmp_ge (pc := 10) 73 dX3_endJumps_10 rfl ⟨fun hc => ?_, fun hc => ?_⟩
  · replace h := h.1 hc
    exact a_ret (pc := 73) dX3_endJumps_73 rfl h
  · replace h := h.2 hc
    refine a_iload_n (pc := 13) dX3_endJumps_13 rfl ?_
    refine a_if_lt (pc := 14) 73 dX3_endJumps_14 rfl ⟨fun hc => ?_, fun hc => ?_⟩
    · replace h := h.1 hc
      exact a_ret (pc := 73) dX3_endJumps_73 rfl h
    · replace h := h.2 hc
      refine a_iload_n (pc := 17) dX3_endJumps_17 rfl ?_
      refine a_aload_n (pc := 18) dX3_endJumps_18 rfl ?_
      refine a_getr (pc := 19) dX3_endJumps_19 f_X3_22 rfl ?_
      refine a_alen (pc := 22) 240 dX3_endJumps_22 rfl rfl (cnb rfl) ?_
      refine a_icmp_ge (pc := 23) 73 dX3_endJumps_23 rfl ⟨fun hc => ?_, fun hc => ?_⟩
      · replace h := h.1 hc
        exact a_ret (pc := 73) dX3_endJumps_73 rfl h
      · replace h := h.2 hc
        refine a_aload_n (pc := 26) dX3_endJumps_26 rfl ?_
        refine a_getr (pc := 27) dX3_endJumps_27 f_X3_22 rfl ?_
        refine a_iload_n (pc := 30) dX3_endJumps_30 rfl ?_
        refine a_iald (pc := 31) dX3_endJumps_31 rfl h.1.1 h.1.2  ?_
        replace h := h.2
        refine a_bipush (pc := 32) dX3_endJumps_32 (by decide) (cnb rfl) ?_
        refine a_ishr (pc := 34) dX3_endJumps_34 ?_
        refine a_iconst (pc := 35) dX3_endJumps_35 (cnb rfl) ?_
        refine a_isub (pc := 36) dX3_endJumps_36 h.1 ?_
        replace h := h.2
        refine a_istore (pc := 37) dX3_endJumps_37 (Nat.le_of_ble_eq_true rfl) ?_
        refine a_aload_n (pc := 39) dX3_endJumps_39 rfl ?_
        refine a_getr (pc := 40) dX3_endJumps_40 f_X3_22 rfl ?_
        refine a_iload_n (pc := 43) dX3_endJumps_43 rfl ?_
        refine a_sipush (pc := 44) dX3_endJumps_44 (by decide) (cnb rfl) ?_
        refine a_aload_n (pc := 47) dX3_endJumps_47 rfl ?_
        refine a_geti (pc := 48) 7 dX3_endJumps_48 f_X3_32 rfl rfl ?_
        refine a_imul (pc := 51) dX3_endJumps_51 h.1 ?_
        replace h := h.2
        refine a_aload_n (pc := 52) dX3_endJumps_52 rfl ?_
        refine a_getr (pc := 53) dX3_endJumps_53 f_X3_22 rfl ?_
        refine a_iload_n (pc := 56) dX3_endJumps_56 rfl ?_
        refine a_iald (pc := 57) dX3_endJumps_57 rfl h.1.1 h.1.2  ?_
        replace h := h.2
        refine a_sipush (pc := 58) dX3_endJumps_58 (by decide) (cnb rfl) ?_
        refine a_iand (pc := 61) dX3_endJumps_61 ?_
        refine a_iadd (pc := 62) dX3_endJumps_62 h.1 ?_
        replace h := h.2
        refine a_iast (pc := 63) dX3_endJumps_63 rfl h.1.1 h.1.2 ?_
        replace h := h.2
        refine a_iload (pc := 64) dX3_endJumps_64 rfl ?_
        refine a_istore_n (pc := 66) dX3_endJumps_66 (Nat.le_of_ble_eq_true rfl) ?_
        refine a_iinc (pc := 67) dX3_endJumps_67 rfl h.1 (Nat.le_of_ble_eq_true rfl) ?_
        replace h := h.2
        refine a_goto (pc := 70) 4 dX3_endJumps_70 rfl ?_
        exact Go.weak h (And.intro rfl (And.intro rfl (And.intro rfl True.intro)))
set_option maxRecDepth 20000 in
theorem s_X4_mayOpen_0 {Q : Int → Me → Prop}  (a : Int) (M : Me) (h :
    ((6 ≤ a →
    Calls 0 mX9_fail [.inr 1, .inl 5, .inl (M 1 3)] M (fun r33 M33 =>
    Q 0 M33)) ∧ (a < 6 →
    cn ((M 1 3) + 1) ∧
    Q 1 (mput M 1 3 ((M 1 3) + 1))))) :
    Go (km 1 mX4_mayOpen Q) 0 [some (.inr 29), some (.inl a)] [] M := by
  refine a_iload_n (pc := 0) dX4_mayOpen_0 rfl ?_
  refine a_bipush (pc := 1) dX4_mayOpen_1 (by decide) (cnb rfl) ?_
  refine a_icmp_ge (pc := 3) 21 dX4_mayOpen_3 rfl ⟨fun hc => ?_, fun hc => ?_⟩
  · replace h := h.1 hc
    refine a_aload_n (pc := 21) dX4_mayOpen_21 rfl ?_
    refine a_getr (pc := 22) dX4_mayOpen_22 f_X4_7 rfl ?_
    refine a_iconst (pc := 25) dX4_mayOpen_25 (cnb rfl) ?_
    refine a_aload_n (pc := 26) dX4_mayOpen_26 rfl ?_
    refine a_getr (pc := 27) dX4_mayOpen_27 f_X4_7 rfl ?_
    refine a_geti (pc := 30) 3 dX4_mayOpen_30 f_X4_48 rfl rfl ?_
    refine a_callVv (pc := 33) (d := 0) (st := []) (o := 1) [.inl 5, .inl (M 1 3)] dX4_mayOpen_33 l_X4_51 in_X9_fail se_X9_fail rfl rfl rfl ⟨Nat.le_of_ble_eq_true rfl, Nat.le_of_ble_eq_true rfl⟩ ⟨Nat.le_of_ble_eq_true rfl, Nat.le_of_ble_eq_true rfl⟩ (Nat.le_of_ble_eq_true rfl) ?_
    refine Calls.mono (fun r33 M33 hr33 hM33 h => ?_) h
    refine a_iconst (pc := 36) dX4_mayOpen_36 (cnb rfl) ?_
    exact a_iretZ (pc := 37) dX4_mayOpen_37 rfl (by decide) h
  · replace h := h.2 hc
    refine a_aload_n (pc := 6) dX4_mayOpen_6 rfl ?_
    refine a_getr (pc := 7) dX4_mayOpen_7 f_X4_7 rfl ?_
    refine a_dup (pc := 10) dX4_mayOpen_10 ?_
    refine a_geti (pc := 11) 3 dX4_mayOpen_11 f_X4_48 rfl rfl ?_
    refine a_iconst (pc := 14) dX4_mayOpen_14 (cnb rfl) ?_
    refine a_iadd (pc := 15) dX4_mayOpen_15 h.1 ?_
    replace h := h.2
    refine a_puti (pc := 16) 3 dX4_mayOpen_16 f_X4_48 rfl rfl (Or.inl rfl) ?_
    refine a_iconst (pc := 19) dX4_mayOpen_19 (cnb rfl) ?_
    exact a_iretZ (pc := 20) dX4_mayOpen_20 rfl (by decide) h
set_option maxRecDepth 20000 in
theorem e_X4_mayOpen {Q : Int → Me → Prop}  {a : Int} {M : Me} (h :
    ((6 ≤ a →
    Calls 0 mX9_fail [.inr 1, .inl 5, .inl (M 1 3)] M (fun r33 M33 =>
    Q 0 M33)) ∧ (a < 6 →
    cn ((M 1 3) + 1) ∧
    Q 1 (mput M 1 3 ((M 1 3) + 1))))) : Calls 1 mX4_mayOpen [.inr 29, .inl a] M Q := Calls.of (by decide) (Nat.le_of_ble_eq_true rfl) (s_X4_mayOpen_0  a M h)
