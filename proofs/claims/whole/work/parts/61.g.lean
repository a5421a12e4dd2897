set_option maxRecDepth 20000 in
theorem s_X6_tellRound_0 {Q : Int → Me → Prop}  (a : Int) (M : Me) (h :
    Go (km 3 mX6_tellRound Q) 5 [some (.inr 61), some (.inr 3), some (.inl a), some (.inl 0), some (.inl 0), none, none] [] M) :
    Go (km 3 mX6_tellRound Q) 0 [some (.inr 61), some (.inr 3), some (.inl a), none, none, none, none] [] M := by
  refine a_iconst (pc := 0) dX6_tellRound_0 (cnb rfl) ?_
  refine a_istore_n (pc := 1) dX6_tellRound_1 (Nat.le_of_ble_eq_true rfl) ?_
  refine a_iconst (pc := 2) dX6_tellRound_2 (cnb rfl) ?_
  refine a_istore (pc := 3) dX6_tellRound_3 (Nat.le_of_ble_eq_true rfl) ?_
  exact h
set_option maxRecDepth 20000 in
theorem e_X6_tellRound {Q : Int → Me → Prop}  {a : Int} {M : Me} (h :
    Go (km 3 mX6_tellRound Q) 5 [some (.inr 61), some (.inr 3), some (.inl a), some (.inl 0), some (.inl 0), none, none] [] M) : Calls 3 mX6_tellRound [.inr 61, .inr 3, .inl a] M Q := Calls.of (by decide) (Nat.le_of_ble_eq_true rfl) (s_X6_tellRound_0  a M h)
set_option maxRecDepth 20000 in
theorem s_X6_tellRound_5 {Q : Int → Me → Prop}  (x2 x3 x4 : Int) (M : Me) (h :
    ((M 3 8 ≤ x4 →
    cn ((bshl 1 x3) - 1) ∧
    Go (km 3 mX6_tellRound Q) 70 [some (.inr 61), none, none, some (.inl x3), some (.inl ((bshl 1 x3) - 1)), some (.inl 1), none] [] M) ∧ (x4 < M 3 8 →
    ((band (bshr x2 x4) 1 ≠ 1 →
    cn (x4 + 1) ∧
    Go (km 3 mX6_tellRound Q) 5 [some (.inr 61), some (.inr 3), some (.inl x2), some (.inl x3), some (.inl (x4 + 1)), none, none] [] M) ∧ (band (bshr x2 x4) 1 = 1 →
    ((9 ≤ x3 →
    cn (x4 + 1) ∧
    Go (km 3 mX6_tellRound Q) 5 [some (.inr 61), some (.inr 3), some (.inl x2), some (.inl x3), some (.inl (x4 + 1)), none, none] [] M) ∧ (x3 < 9 →
    (0 ≤ x3 ∧ x3 < 9) ∧
    (0 ≤ x4 ∧ x4 < 16) ∧
    (0 ≤ x3 ∧ x3 < 9) ∧
    cn (x3 + 1) ∧
    cn (x4 + 1) ∧
    Go (km 3 mX6_tellRound Q) 5 [some (.inr 61), some (.inr 3), some (.inl x2), some (.inl (x3 + 1)), some (.inl (x4 + 1)), none, none] [] (mput (mput M 63 x3 x4) 64 x3 (M 4 x4))))))))) :
    Go (km 3 mX6_tellRound Q) 5 [some (.inr 61), some (.inr 3), some (.inl x2), some (.inl x3), some (.inl x4), none, none] [] M := by
  refine a_iload (pc := 5) dX6_tellRound_5 rfl ?_
  refine a_aload_n (pc := 7) dX6_tellRound_7 rfl ?_
  refine a_geti (pc := 8) 8 dX6_tellRound_8 f_X6_31 rfl rfl ?_
  refine a_icmp_ge (pc := 11) 60 dX6_tellRound_11 rfl ⟨fun hc => ?_, fun hc => ?_⟩
  · replace h := h.1 hc
    refine a_iconst (pc := 60) dX6_tellRound_60 (cnb rfl) ?_
    refine a_iload_n (pc := 61) dX6_tellRound_61 rfl ?_
    refine a_ishl (pc := 62) dX6_tellRound_62 ?_
    refine a_iconst (pc := 63) dX6_tellRound_63 (cnb rfl) ?_
    refine a_isub (pc := 64) dX6_tellRound_64 h.1 ?_
    replace h := h.2
    refine a_istore (pc := 65) dX6_tellRound_65 (Nat.le_of_ble_eq_true rfl) ?_
    refine a_iconst (pc := 67) dX6_tellRound_67 (cnb rfl) ?_
    refine a_istore (pc := 68) dX6_tellRound_68 (Nat.le_of_ble_eq_true rfl) ?_
    exact Go.weak h (And.intro rfl (And.intro rfl (And.intro rfl (And.intro rfl True.intro))))
  · replace h := h.2 hc
    refine a_iload_n (pc := 14) dX6_tellRound_14 rfl ?_
    refine a_iload (pc := 15) dX6_tellRound_15 rfl ?_
    refine a_ishr (pc := 17) dX6_tellRound_17 ?_
    refine a_iconst (pc := 18) dX6_tellRound_18 (cnb rfl) ?_
    refine a_iand (pc := 19) dX6_tellRound_19 ?_
    refine a_iconst (pc := 20) dX6_tellRound_20 (cnb rfl) ?_
    refine a_icmp_ne (pc := 21) 54 dX6_tellRound_21 rfl ⟨fun hc => ?_, fun hc => ?_⟩
    · replace h := h.1 hc
      refine a_iinc (pc := 54) dX6_tellRound_54 rfl h.1 (Nat.le_of_ble_eq_true rfl) ?_
      replace h := h.2
      refine a_goto (pc := 57) 5 dX6_tellRound_57 rfl ?_
      exact h
    · replace h := h.2 hc
      refine a_iload_n (pc := 24) dX6_tellRound_24 rfl ?_
      refine a_bipush (pc := 25) dX6_tellRound_25 (by decide) (cnb rfl) ?_
      refine a_icmp_ge (pc := 27) 54 dX6_tellRound_27 rfl ⟨fun hc => ?_, fun hc => ?_⟩
      · replace h := h.1 hc
        refine a_iinc (pc := 54) dX6_tellRound_54 rfl h.1 (Nat.le_of_ble_eq_true rfl) ?_
        replace h := h.2
        refine a_goto (pc := 57) 5 dX6_tellRound_57 rfl ?_
        exact h
      · replace h := h.2 hc
        refine a_aload_n (pc := 30) dX6_tellRound_30 rfl ?_
        refine a_getr (pc := 31) dX6_tellRound_31 f_X6_15 rfl ?_
        refine a_iload_n (pc := 34) dX6_tellRound_34 rfl ?_
        refine a_iload (pc := 35) dX6_tellRound_35 rfl ?_
        refine a_iast (pc := 37) dX6_tellRound_37 rfl h.1.1 h.1.2 ?_
        replace h := h.2
        refine a_aload_n (pc := 38) dX6_tellRound_38 rfl ?_
        refine a_getr (pc := 39) dX6_tellRound_39 f_X6_18 rfl ?_
        refine a_iload_n (pc := 42) dX6_tellRound_42 rfl ?_
        refine a_aload_n (pc := 43) dX6_tellRound_43 rfl ?_
        refine a_getr (pc := 44) dX6_tellRound_44 f_X6_36 rfl ?_
        refine a_iload (pc := 47) dX6_tellRound_47 rfl ?_
        refine a_ialdE (pc := 49) (M 4 x4) dX6_tellRound_49 rfl h.1.1 h.1.2 (mput_ne _ _ _ _ (by decide)) ?_
        replace h := h.2
        refine a_iast (pc := 50) dX6_tellRound_50 rfl h.1.1 h.1.2 ?_
        replace h := h.2
        refine a_iinc (pc := 51) dX6_tellRound_51 rfl h.1 (Nat.le_of_ble_eq_true rfl) ?_
        replace h := h.2
        refine a_iinc (pc := 54) dX6_tellRound_54 rfl h.1 (Nat.le_of_ble_eq_true rfl) ?_
        replace h := h.2
        refine a_goto (pc := 57) 5 dX6_tellRound_57 rfl ?_
        exact h
set_option maxRecDepth 20000 in
theorem s_X6_tellRound_70 {Q : Int → Me → Prop}  (x3 x4 x5 : Int) (M : Me) (h :
    ((x4 < x5 →
    Calls 2 mX6_chooseFirst [.inr 61, .inl x4, .inl x3] M (fun r135 M135 =>
    Q 0 M135)) ∧ (x5 ≤ x4 →
    Go (km 3 mX6_tellRound Q) 80 [some (.inr 61), none, none, some (.inl x3), some (.inl x4), some (.inl x5), some (.inl 0)] [] M))) :
    Go (km 3 mX6_tellRound Q) 70 [some (.inr 61), none, none, some (.inl x3), some (.inl x4), some (.inl x5), none] [] M := by
  refine a_iload (pc := 70) dX6_tellRound_70 rfl ?_
  refine a_iload (pc := 72) dX6_tellRound_72 rfl ?_
  refine a_icmp_gt (pc := 74) 131 dX6_tellRound_74 rfl ⟨fun hc => ?_, fun hc => ?_⟩
  · replace h := h.1 hc
    refine a_aload_n (pc := 131) dX6_tellRound_131 rfl ?_
    refine a_iload (pc := 132) dX6_tellRound_132 rfl ?_
    refine a_iload_n (pc := 134) dX6_tellRound_134 rfl ?_
    refine a_callVv (pc := 135) (d := 2) (st := []) (o := 61) [.inl x4, .inl x3] dX6_tellRound_135 l_X6_43 in_X6_chooseFirst se_X6_chooseFirst rfl rfl rfl ⟨Nat.le_of_ble_eq_true rfl, Nat.le_of_ble_eq_true rfl⟩ ⟨Nat.le_of_ble_eq_true rfl, Nat.le_of_ble_eq_true rfl⟩ (Nat.le_of_ble_eq_true rfl) ?_
    refine Calls.mono (fun r135 M135 hr135 hM135 h => ?_) h
    exact a_ret (pc := 138) dX6_tellRound_138 rfl h
  · replace h := h.2 hc
    refine a_iconst (pc := 77) dX6_tellRound_77 (cnb rfl) ?_
    refine a_istore (pc := 78) dX6_tellRound_78 (Nat.le_of_ble_eq_true rfl) ?_
    exact h
set_option maxRecDepth 20000 in
theorem s_X6_tellRound_80 {Q : Int → Me → Prop}  (x3 x4 x5 x6 : Int) (M : Me) (h :
    ((x3 ≤ x6 →
    cn (x5 + 1) ∧
    Go (km 3 mX6_tellRound Q) 70 [some (.inr 61), none, none, some (.inl x3), some (.inl x4), some (.inl (x5 + 1)), none] [] M) ∧ (x6 < x3 →
    ((band (bshr x5 x6) 1 ≠ 1 →
    cn (x6 + 1) ∧
    Go (km 3 mX6_tellRound Q) 80 [some (.inr 61), none, none, some (.inl x3), some (.inl x4), some (.inl x5), some (.inl (x6 + 1))] [] M) ∧ (band (bshr x5 x6) 1 = 1 →
    cn (9 * x5) ∧
    cn ((9 * x5) + x6) ∧
    Calls 2 mX6_wayHome [.inr 61, .inl x5, .inl x6, .inl x3] M (fun r115 M115 =>
    (0 ≤ (9 * x5) + x6 ∧ (9 * x5) + x6 < 4608) ∧
    cn (x6 + 1) ∧
    Go (km 3 mX6_tellRound Q) 80 [some (.inr 61), none, none, some (.inl x3), some (.inl x4), some (.inl x5), some (.inl (x6 + 1))] [] (mput M115 62 ((9 * x5) + x6) r115))))))) :
    Go (km 3 mX6_tellRound Q) 80 [some (.inr 61), none, none, some (.inl x3), some (.inl x4), some (.inl x5), some (.inl x6)] [] M := by
  refine a_iload (pc := 80) dX6_tellRound_80 rfl ?_
  refine a_iload_n (pc := 82) dX6_tellRound_82 rfl ?_
  refine a_icmp_ge (pc := 83) 125 dX6_tellRound_83 rfl ⟨fun hc => ?_, fun hc => ?_⟩
  · replace h := h.1 hc
    refine a_iinc (pc := 125) dX6_tellRound_125 rfl h.1 (Nat.le_of_ble_eq_true rfl) ?_
    replace h := h.2
    refine a_goto (pc := 128) 70 dX6_tellRound_128 rfl ?_
    exact Go.weak h (And.intro rfl (And.intro rfl (And.intro rfl (And.intro rfl True.intro))))
  · replace h := h.2 hc
    refine a_iload (pc := 86) dX6_tellRound_86 rfl ?_
    refine a_iload (pc := 88) dX6_tellRound_88 rfl ?_
    refine a_ishr (pc := 90) dX6_tellRound_90 ?_
    refine a_iconst (pc := 91) dX6_tellRound_91 (cnb rfl) ?_
    refine a_iand (pc := 92) dX6_tellRound_92 ?_
    refine a_iconst (pc := 93) dX6_tellRound_93 (cnb rfl) ?_
    refine a_icmp_ne (pc := 94) 119 dX6_tellRound_94 rfl ⟨fun hc => ?_, fun hc => ?_⟩
    · replace h := h.1 hc
      refine a_iinc (pc := 119) dX6_tellRound_119 rfl h.1 (Nat.le_of_ble_eq_true rfl) ?_
      replace h := h.2
      refine a_goto (pc := 122) 80 dX6_tellRound_122 rfl ?_
      exact h
    · replace h := h.2 hc
      refine a_aload_n (pc := 97) dX6_tellRound_97 rfl ?_
      refine a_getr (pc := 98) dX6_tellRound_98 f_X6_11 rfl ?_
      refine a_bipush (pc := 101) dX6_tellRound_101 (by decide) (cnb rfl) ?_
      refine a_iload (pc := 103) dX6_tellRound_103 rfl ?_
      refine a_imul (pc := 105) dX6_tellRound_105 h.1 ?_
      replace h := h.2
      refine a_iload (pc := 106) dX6_tellRound_106 rfl ?_
      refine a_iadd (pc := 108) dX6_tellRound_108 h.1 ?_
      replace h := h.2
      refine a_aload_n (pc := 109) dX6_tellRound_109 rfl ?_
      refine a_iload (pc := 110) dX6_tellRound_110 rfl ?_
      refine a_iload (pc := 112) dX6_tellRound_112 rfl ?_
      refine a_iload_n (pc := 114) dX6_tellRound_114 rfl ?_
      refine a_callVi (pc := 115) (d := 2) (st := [.inl ((9 * x5) + x6), .inr 62]) (o := 61) [.inl x5, .inl x6, .inl x3] dX6_tellRound_115 l_X6_39 in_X6_wayHome se_X6_wayHome rfl rfl rfl ⟨Nat.le_of_ble_eq_true rfl, Nat.le_of_ble_eq_true rfl⟩ ⟨Nat.le_of_ble_eq_true rfl, Nat.le_of_ble_eq_true rfl⟩ (Nat.le_of_ble_eq_true rfl) ?_
      refine Calls.mono (fun r115 M115 hr115 hM115 h => ?_) h
      refine a_iast (pc := 118) dX6_tellRound_118 rfl h.1.1 h.1.2 ?_
      replace h := h.2
      refine a_iinc (pc := 119) dX6_tellRound_119 rfl h.1 (Nat.le_of_ble_eq_true rfl) ?_
      replace h := h.2
      refine a_goto (pc := 122) 80 dX6_tellRound_122 rfl ?_
      exact h
set_option maxRecDepth 20000 in
theorem s_X6_wayHome_0 {Q : Int → Me → Prop}  (a b c : Int) (M : Me) (h :
    ((bxor a (bshl 1 b) ≠ 0 →
    Go (km 2 mX6_wayHome Q) 30 [some (.inr 61), none, some (.inl b), some (.inl c), some (.inl (bxor a (bshl 1 b))), some (.inl 1000000), some (.inl 0), none] [] M) ∧ (bxor a (bshl 1 b) = 0 →
    (0 ≤ b ∧ b < 9) ∧
    0 ≤ M 64 b ∧
    (0 : Int) ≤ 0 ∧
    Q (dst (M 64 b) 0) M))) :
    Go (km 2 mX6_wayHome Q) 0 [some (.inr 61), some (.inl a), some (.inl b), some (.inl c), none, none, none, none] [] M := by
  refine a_iload_n (pc := 0) dX6_wayHome_0 rfl ?_
  refine a_iconst (pc := 1) dX6_wayHome_1 (cnb rfl) ?_
  refine a_iload_n (pc := 2) dX6_wayHome_2 rfl ?_
  refine a_ishl (pc := 3) dX6_wayHome_3 ?_
  refine a_ixor (pc := 4) dX6_wayHome_4 ?_
  refine a_istore (pc := 5) dX6_wayHome_5 (Nat.le_of_ble_eq_true rfl) ?_
  refine a_iload (pc := 7) dX6_wayHome_7 rfl ?_
  refine a_if_ne (pc := 9) 23 dX6_wayHome_9 rfl ⟨fun hc => ?_, fun hc => ?_⟩
  · replace h := h.1 hc
    refine a_ldc (pc := 23) (n := 1000000) dX6_wayHome_23 k_X6_51 (by decide) (cnb rfl) ?_
    refine a_istore (pc := 25) dX6_wayHome_25 (Nat.le_of_ble_eq_true rfl) ?_
    refine a_iconst (pc := 27) dX6_wayHome_27 (cnb rfl) ?_
    refine a_istore (pc := 28) dX6_wayHome_28 (Nat.le_of_ble_eq_true rfl) ?_
    exact Go.weak h (And.intro rfl (And.intro rfl (And.intro rfl (And.intro rfl (And.intro rfl (And.intro rfl True.intro))))))
  · replace h := h.2 hc
    refine a_aload_n (pc := 12) dX6_wayHome_12 rfl ?_
    refine a_getr (pc := 13) dX6_wayHome_13 f_X6_18 rfl ?_
    refine a_iload_n (pc := 16) dX6_wayHome_16 rfl ?_
    refine a_iald (pc := 17) dX6_wayHome_17 rfl h.1.1 h.1.2  ?_
    replace h := h.2
    refine a_iconst (pc := 18) dX6_wayHome_18 (cnb rfl) ?_
    refine a_callNi (pc := 19) (d := 1) (st := []) [.inl (M 64 b), .inl 0] dX6_wayHome_19 l_X6_47 st_X11_steps rfl ⟨Nat.le_of_ble_eq_true rfl, Nat.le_of_ble_eq_true rfl⟩ ⟨Nat.le_of_ble_eq_true rfl, Nat.le_of_ble_eq_true rfl⟩ (Nat.le_of_ble_eq_true rfl) ?_
    have hp19_2 := h.1
    replace h := h.2
    have hp19_3 := h.1
    replace h := h.2
    refine p_X11_steps hp19_2 hp19_3 ?_
    exact a_iretI (pc := 22) dX6_wayHome_22 rfl h
set_option maxRecDepth 20000 in
theorem e_X6_wayHome {Q : Int → Me → Prop}  {a b c : Int} {M : Me} (h :
    ((bxor a (bshl 1 b) ≠ 0 →
    Go (km 2 mX6_wayHome Q) 30 [some (.inr 61), none, some (.inl b), some (.inl c), some (.inl (bxor a (bshl 1 b))), some (.inl 1000000), some (.inl 0), none] [] M) ∧ (bxor a (bshl 1 b) = 0 →
    (0 ≤ b ∧ b < 9) ∧
    0 ≤ M 64 b ∧
    (0 : Int) ≤ 0 ∧
    Q (dst (M 64 b) 0) M))) : Calls 2 mX6_wayHome [.inr 61, .inl a, .inl b, .inl c] M Q := Calls.of (by decide) (Nat.le_of_ble_eq_true rfl) (s_X6_wayHome_0  a b c M h)
set_option maxRecDepth 20000 in
theorem s_X6_wayHome_30 {Q : Int → Me → Prop}  (x2 x3 x4 x5 x6 : Int) (M : Me) (h :
    ((x3 ≤ x6 →
    Q x5 M) ∧ (x6 < x3 →
    ((band (bshr x4 x6) 1 ≠ 1 →
    cn (x6 + 1) ∧
    Go (km 2 mX6_wayHome Q) 30 [some (.inr 61), none, some (.inl x2), some (.inl x3), some (.inl x4), some (.inl x5), some (.inl (x6 + 1)), none] [] M) ∧ (band (bshr x4 x6) 1 = 1 →
    (0 ≤ x2 ∧ x2 < 9) ∧
    (0 ≤ x6 ∧ x6 < 9) ∧
    0 ≤ M 64 x2 ∧
    0 ≤ M 64 x6 ∧
    cn (9 * x4) ∧
    cn ((9 * x4) + x6) ∧
    (0 ≤ (9 * x4) + x6 ∧ (9 * x4) + x6 < 4608) ∧
    cn ((dst (M 64 x2) (M 64 x6)) + (M 62 ((9 * x4) + x6))) ∧
    cn (x6 + 1) ∧
    Go (km 2 mX6_wayHome Q) 30 [some (.inr 61), none, some (.inl x2), some (.inl x3), some (.inl x4), some (.inl (min x5 ((dst (M 64 x2) (M 64 x6)) + (M 62 ((9 * x4) + x6))))), some (.inl (x6 + 1)), none] [] M))))) :
    Go (km 2 mX6_wayHome Q) 30 [some (.inr 61), none, some (.inl x2), some (.inl x3), some (.inl x4), some (.inl x5), some (.inl x6), none] [] M := by
  refine a_iload (pc := 30) dX6_wayHome_30 rfl ?_
  refine a_iload_n (pc := 32) dX6_wayHome_32 rfl ?_
  refine a_icmp_ge (pc := 33) 94 dX6_wayHome_33 rfl ⟨fun hc => ?_, fun hc => ?_⟩
  · replace h := h.1 hc
    refine a_iload (pc := 94) dX6_wayHome_94 rfl ?_
    exact a_iretI (pc := 96) dX6_wayHome_96 rfl h
  · replace h := h.2 hc
    refine a_iload (pc := 36) dX6_wayHome_36 rfl ?_
    refine a_iload (pc := 38) dX6_wayHome_38 rfl ?_
    refine a_ishr (pc := 40) dX6_wayHome_40 ?_
    refine a_iconst (pc := 41) dX6_wayHome_41 (cnb rfl) ?_
    refine a_iand (pc := 42) dX6_wayHome_42 ?_
    refine a_iconst (pc := 43) dX6_wayHome_43 (cnb rfl) ?_
    refine a_icmp_ne (pc := 44) 88 dX6_wayHome_44 rfl ⟨fun hc => ?_, fun hc => ?_⟩
    · replace h := h.1 hc
      refine a_iinc (pc := 88) dX6_wayHome_88 rfl h.1 (Nat.le_of_ble_eq_true rfl) ?_
      replace h := h.2
      refine a_goto (pc := 91) 30 dX6_wayHome_91 rfl ?_
      exact h
    · replace h := h.2 hc
      refine a_aload_n (pc := 47) dX6_wayHome_47 rfl ?_
      refine a_getr (pc := 48) dX6_wayHome_48 f_X6_18 rfl ?_
      refine a_iload_n (pc := 51) dX6_wayHome_51 rfl ?_
      refine a_iald (pc := 52) dX6_wayHome_52 rfl h.1.1 h.1.2  ?_
      replace h := h.2
      refine a_aload_n (pc := 53) dX6_wayHome_53 rfl ?_
      refine a_getr (pc := 54) dX6_wayHome_54 f_X6_18 rfl ?_
      refine a_iload (pc := 57) dX6_wayHome_57 rfl ?_
      refine a_iald (pc := 59) dX6_wayHome_59 rfl h.1.1 h.1.2  ?_
      replace h := h.2
      refine a_callNi (pc := 60) (d := 1) (st := []) [.inl (M 64 x2), .inl (M 64 x6)] dX6_wayHome_60 l_X6_47 st_X11_steps rfl ⟨Nat.le_of_ble_eq_true rfl, Nat.le_of_ble_eq_true rfl⟩ ⟨Nat.le_of_ble_eq_true rfl, Nat.le_of_ble_eq_true rfl⟩ (Nat.le_of_ble_eq_true rfl) ?_
      have hp60_3 := h.1
      replace h := h.2
      have hp60_4 := h.1
      replace h := h.2
      refine p_X11_steps hp60_3 hp60_4 ?_
      refine a_aload_n (pc := 63) dX6_wayHome_63 rfl ?_
      refine a_getr (pc := 64) dX6_wayHome_64 f_X6_11 rfl ?_
      refine a_bipush (pc := 67) dX6_wayHome_67 (by decide) (cnb rfl) ?_
      refine a_iload (pc := 69) dX6_wayHome_69 rfl ?_
      refine a_imul (pc := 71) dX6_wayHome_71 h.1 ?_
      replace h := h.2
      refine a_iload (pc := 72) dX6_wayHome_72 rfl ?_
      refine a_iadd (pc := 74) dX6_wayHome_74 h.1 ?_
      replace h := h.2
      refine a_iald (pc := 75) dX6_wayHome_75 rfl h.1.1 h.1.2  ?_
      replace h := h.2
      refine a_iadd (pc := 76) dX6_wayHome_76 h.1 ?_
      replace h := h.2
      refine a_istore (pc := 77) dX6_wayHome_77 (Nat.le_of_ble_eq_true rfl) ?_
      refine a_iload (pc := 79) dX6_wayHome_79 rfl ?_
      refine a_iload (pc := 81) dX6_wayHome_81 rfl ?_
      refine a_mmin (pc := 83) dX6_wayHome_83 ml_X6_52 mt_st_min mt_ini mt_cd_min ⟨Nat.le_of_ble_eq_true rfl, Nat.le_of_ble_eq_true rfl⟩ ⟨Nat.le_of_ble_eq_true rfl, Nat.le_of_ble_eq_true rfl⟩ (Nat.le_of_ble_eq_true rfl) ?_
      refine a_istore (pc := 86) dX6_wayHome_86 (Nat.le_of_ble_eq_true rfl) ?_
      refine a_iinc (pc := 88) dX6_wayHome_88 rfl h.1 (Nat.le_of_ble_eq_true rfl) ?_
      replace h := h.2
      refine a_goto (pc := 91) 30 dX6_wayHome_91 rfl ?_
      exact Go.weak h (And.intro rfl (And.intro rfl (And.intro rfl (And.intro rfl (And.intro rfl (And.intro rfl True.intro))))))
set_option maxRecDepth 20000 in
theorem s_X6_chooseFirst_0 {Q : Int → Me → Prop}  (a b : Int) (M : Me) (h :
    Go (km 2 mX6_chooseFirst Q) 8 [some (.inr 61), some (.inl a), some (.inl b), some (.inl 0), none] [] (mput M 61 4 1000000)) :
    Go (km 2 mX6_chooseFirst Q) 0 [some (.inr 61), some (.inl a), some (.inl b), none, none] [] M := by
  refine a_aload_n (pc := 0) dX6_chooseFirst_0 rfl ?_
  refine a_ldc (pc := 1) (n := 1000000) dX6_chooseFirst_1 k_X6_51 (by decide) (cnb rfl) ?_
  refine a_puti (pc := 3) 4 dX6_chooseFirst_3 f_X6_24 rfl rfl (Or.inl rfl) ?_
  refine a_iconst (pc := 6) dX6_chooseFirst_6 (cnb rfl) ?_
  refine a_istore_n (pc := 7) dX6_chooseFirst_7 (Nat.le_of_ble_eq_true rfl) ?_
  exact h
set_option maxRecDepth 20000 in
theorem e_X6_chooseFirst {Q : Int → Me → Prop}  {a b : Int} {M : Me} (h :
    Go (km 2 mX6_chooseFirst Q) 8 [some (.inr 61), some (.inl a), some (.inl b), some (.inl 0), none] [] (mput M 61 4 1000000)) : Calls 2 mX6_chooseFirst [.inr 61, .inl a, .inl b] M Q := Calls.of (by decide) (Nat.le_of_ble_eq_true rfl) (s_X6_chooseFirst_0  a b M h)
set_option maxRecDepth 20000 in
theorem s_X6_chooseFirst_8 {Q : Int → Me → Prop}  (x1 x2 x3 : Int) (M : Me) (h :
    ((x2 ≤ x3 →
    Q 0 M) ∧ (x3 < x2 →
    (0 ≤ x3 ∧ x3 < 9) ∧
    (0 : Int) ≤ 0 ∧
    0 ≤ M 64 x3 ∧
    cn (9 * x1) ∧
    cn ((9 * x1) + x3) ∧
    (0 ≤ (9 * x1) + x3 ∧ (9 * x1) + x3 < 4608) ∧
    cn ((dst 0 (M 64 x3)) + (M 62 ((9 * x1) + x3))) ∧
    ((M 61 4 ≤ (dst 0 (M 64 x3)) + (M 62 ((9 * x1) + x3)) →
    cn (x3 + 1) ∧
    Go (km 2 mX6_chooseFirst Q) 8 [some (.inr 61), some (.inl x1), some (.inl x2), some (.inl (x3 + 1)), none] [] M) ∧ ((dst 0 (M 64 x3)) + (M 62 ((9 * x1) + x3)) < M 61 4 →
    (0 ≤ x3 ∧ x3 < 9) ∧
    cn (x3 + 1) ∧
    Go (km 2 mX6_chooseFirst Q) 8 [some (.inr 61), some (.inl x1), some (.inl x2), some (.inl (x3 + 1)), none] [] (mput (mput M 61 4 ((dst 0 (M 64 x3)) + (M 62 ((9 * x1) + x3)))) 61 5 (M 63 x3))))))) :
    Go (km 2 mX6_chooseFirst Q) 8 [some (.inr 61), some (.inl x1), some (.inl x2), some (.inl x3), none] [] M := by
  refine a_iload_n (pc := 8) dX6_chooseFirst_8 rfl ?_
  refine a_iload_n (pc := 9) dX6_chooseFirst_9 rfl ?_
  refine a_icmp_ge (pc := 10) 68 dX6_chooseFirst_10 rfl ⟨fun hc => ?_, fun hc => ?_⟩
  · replace h := h.1 hc
    exact a_ret (pc := 68) dX6_chooseFirst_68 rfl h
  · replace h := h.2 hc
    refine a_iconst (pc := 13) dX6_chooseFirst_13 (cnb rfl) ?_
    refine a_aload_n (pc := 14) dX6_chooseFirst_14 rfl ?_
    refine a_getr (pc := 15) dX6_chooseFirst_15 f_X6_18 rfl ?_
    refine a_iload_n (pc := 18) dX6_chooseFirst_18 rfl ?_
    refine a_iald (pc := 19) dX6_chooseFirst_19 rfl h.1.1 h.1.2  ?_
    replace h := h.2
    refine a_callNi (pc := 20) (d := 1) (st := []) [.inl 0, .inl (M 64 x3)] dX6_chooseFirst_20 l_X6_47 st_X11_steps rfl ⟨Nat.le_of_ble_eq_true rfl, Nat.le_of_ble_eq_true rfl⟩ ⟨Nat.le_of_ble_eq_true rfl, Nat.le_of_ble_eq_true rfl⟩ (Nat.le_of_ble_eq_true rfl) ?_
    have hp20_2 := h.1
    replace h := h.2
    have hp20_3 := h.1
    replace h := h.2
    refine p_X11_steps hp20_2 hp20_3 ?_
    refine a_aload_n (pc := 23) dX6_chooseFirst_23 rfl ?_
    refine a_getr (pc := 24) dX6_chooseFirst_24 f_X6_11 rfl ?_
    refine a_bipush (pc := 27) dX6_chooseFirst_27 (by decide) (cnb rfl) ?_
    refine a_iload_n (pc := 29) dX6_chooseFirst_29 rfl ?_
    refine a_imul (pc := 30) dX6_chooseFirst_30 h.1 ?_
    replace h := h.2
    refine a_iload_n (pc := 31) dX6_chooseFirst_31 rfl ?_
    refine a_iadd (pc := 32) dX6_chooseFirst_32 h.1 ?_
    replace h := h.2
    refine a_iald (pc := 33) dX6_chooseFirst_33 rfl h.1.1 h.1.2  ?_
    replace h := h.2
    refine a_iadd (pc := 34) dX6_chooseFirst_34 h.1 ?_
    replace h := h.2
    refine a_istore (pc := 35) dX6_chooseFirst_35 (Nat.le_of_ble_eq_true rfl) ?_
    refine a_iload (pc := 37) dX6_chooseFirst_37 rfl ?_
    refine a_aload_n (pc := 39) dX6_chooseFirst_39 rfl ?_
    refine a_geti (pc := 40) 4 dX6_chooseFirst_40 f_X6_24 rfl rfl ?_
    refine a_icmp_ge (pc := 43) 62 dX6_chooseFirst_43 rfl ⟨fun hc => ?_, fun hc => ?_⟩
    · replace h := h.1 hc
      refine a_iinc (pc := 62) dX6_chooseFirst_62 rfl h.1 (Nat.le_of_ble_eq_true rfl) ?_
      replace h := h.2
      refine a_goto (pc := 65) 8 dX6_chooseFirst_65 rfl ?_
      exact Go.weak h (And.intro rfl (And.intro rfl (And.intro rfl (And.intro rfl True.intro))))
    · replace h := h.2 hc
      refine a_aload_n (pc := 46) dX6_chooseFirst_46 rfl ?_
      refine a_iload (pc := 47) dX6_chooseFirst_47 rfl ?_
      refine a_puti (pc := 49) 4 dX6_chooseFirst_49 f_X6_24 rfl rfl (Or.inl rfl) ?_
      refine a_aload_n (pc := 52) dX6_chooseFirst_52 rfl ?_
      refine a_aload_n (pc := 53) dX6_chooseFirst_53 rfl ?_
      refine a_getr (pc := 54) dX6_chooseFirst_54 f_X6_15 rfl ?_
      refine a_iload_n (pc := 57) dX6_chooseFirst_57 rfl ?_
      refine a_ialdE (pc := 58) (M 63 x3) dX6_chooseFirst_58 rfl h.1.1 h.1.2 (mput_ne _ _ _ _ (by decide)) ?_
      replace h := h.2
      refine a_puti (pc := 59) 5 dX6_chooseFirst_59 f_X6_28 rfl rfl (Or.inl rfl) ?_
      refine a_iinc (pc := 62) dX6_chooseFirst_62 rfl h.1 (Nat.le_of_ble_eq_true rfl) ?_
      replace h := h.2
      refine a_goto (pc := 65) 8 dX6_chooseFirst_65 rfl ?_
      exact Go.weak h (And.intro rfl (And.intro rfl (And.intro rfl (And.intro rfl True.intro))))
set_option maxRecDepth 20000 in
theorem s_X11_round_0 {Q : Int → Me → Prop}  (a b : Int) (M : Me) (h :
    ((a ≤ 0 →
    Q (-1) M) ∧ (0 < a →
    ((bshr a (M 3 8) ≠ 0 →
    Q (-1) M) ∧ (bshr a (M 3 8) = 0 →
    Calls 0 mJ6_bitCount_0f7a4 [.inl a] M (fun r27 M27 =>
    ((9 < r27 →
    Q (-1) M27) ∧ (r27 ≤ 9 →
    ((b = 0 →
    Calls 3 mX6_tellRound [.inr 61, .inr 3, .inl a] M27 (fun r55 M55 =>
    ((b ≠ 0 →
    Q (M55 61 5) M55) ∧ (b = 0 →
    Q (M55 61 4) M55)))) ∧ (b ≠ 0 →
    ((b = 1 →
    Calls 3 mX6_tellRound [.inr 61, .inr 3, .inl a] M27 (fun r55 M55 =>
    ((b ≠ 0 →
    Q (M55 61 5) M55) ∧ (b = 0 →
    Q (M55 61 4) M55)))) ∧ (b ≠ 1 →
    Q (-1) M27)))))))))))) :
    Go (km 4 mX11_round Q) 0 [some (.inr 0), some (.inl a), some (.inl b), none] [] M := by
  refine a_iload_n (pc := 0) dX11_round_0 rfl ?_
  refine a_if_le (pc := 1) 20 dX11_round_1 rfl ⟨fun hc => ?_, fun hc => ?_⟩
  · replace h := h.1 hc
    refine a_iconst (pc := 20) dX11_round_20 (cnb rfl) ?_
    refine a_istore_n (pc := 21) dX11_round_21 (Nat.le_of_ble_eq_true rfl) ?_
    refine a_iload_n (pc := 22) dX11_round_22 rfl ?_
    refine a_if_eq (pc := 23) 44 dX11_round_23 rfl ⟨fun _ => ?_, fun hc => absurd hc (by decide)⟩
    refine a_iconst (pc := 44) dX11_round_44 (cnb rfl) ?_
    exact a_iretI (pc := 45) dX11_round_45 rfl h
  · replace h := h.2 hc
    refine a_iload_n (pc := 4) dX11_round_4 rfl ?_
    refine a_aload_n (pc := 5) dX11_round_5 rfl ?_
    refine a_getr (pc := 6) dX11_round_6 f_X11_19 rfl ?_
    refine a_geti (pc := 9) 8 dX11_round_9 f_X11_155 rfl rfl ?_
    refine a_ishr (pc := 12) dX11_round_12 ?_
    refine a_if_ne (pc := 13) 20 dX11_round_13 rfl ⟨fun hc => ?_, fun hc => ?_⟩
    · replace h := h.1 hc
      refine a_iconst (pc := 20) dX11_round_20 (cnb rfl) ?_
      refine a_istore_n (pc := 21) dX11_round_21 (Nat.le_of_ble_eq_true rfl) ?_
      refine a_iload_n (pc := 22) dX11_round_22 rfl ?_
      refine a_if_eq (pc := 23) 44 dX11_round_23 rfl ⟨fun _ => ?_, fun hc => absurd hc (by decide)⟩
      refine a_iconst (pc := 44) dX11_round_44 (cnb rfl) ?_
      exact a_iretI (pc := 45) dX11_round_45 rfl h
    · replace h := h.2 hc
      refine a_iconst (pc := 16) dX11_round_16 (cnb rfl) ?_
      refine a_goto (pc := 17) 21 dX11_round_17 rfl ?_
      refine a_istore_n (pc := 21) dX11_round_21 (Nat.le_of_ble_eq_true rfl) ?_
      refine a_iload_n (pc := 22) dX11_round_22 rfl ?_
      refine a_if_eq (pc := 23) 44 dX11_round_23 rfl ⟨fun hc => absurd hc (by decide), fun _ => ?_⟩
      refine a_iload_n (pc := 26) dX11_round_26 rfl ?_
      refine a_callSi (pc := 27) (d := 0) (st := []) [.inl a] dX11_round_27 l_X11_255 st_J6_bitCount_0f7a4 rfl ⟨Nat.le_of_ble_eq_true rfl, Nat.le_of_ble_eq_true rfl⟩ ⟨Nat.le_of_ble_eq_true rfl, Nat.le_of_ble_eq_true rfl⟩ (Nat.le_of_ble_eq_true rfl) ?_
      refine Calls.mono (fun r27 M27 hr27 hM27 h => ?_) h
      refine a_bipush (pc := 30) dX11_round_30 (by decide) (cnb rfl) ?_
      refine a_icmp_gt (pc := 32) 44 dX11_round_32 rfl ⟨fun hc => ?_, fun hc => ?_⟩
      · replace h := h.1 hc
        refine a_iconst (pc := 44) dX11_round_44 (cnb rfl) ?_
        exact a_iretI (pc := 45) dX11_round_45 rfl h
      · replace h := h.2 hc
        refine a_iload_n (pc := 35) dX11_round_35 rfl ?_
        refine a_if_eq (pc := 36) 46 dX11_round_36 rfl ⟨fun hc => ?_, fun hc => ?_⟩
        · replace h := h.1 hc
          refine a_aload_n (pc := 46) dX11_round_46 rfl ?_
          refine a_getr (pc := 47) dX11_round_47 f_X11_78 rfl ?_
          refine a_aload_n (pc := 50) dX11_round_50 rfl ?_
          refine a_getr (pc := 51) dX11_round_51 f_X11_19 rfl ?_
          refine a_iload_n (pc := 54) dX11_round_54 rfl ?_
          refine a_callVv (pc := 55) (d := 3) (st := []) (o := 61) [.inr 3, .inl a] dX11_round_55 l_X11_260 in_X6_tellRound se_X6_tellRound rfl rfl rfl ⟨Nat.le_of_ble_eq_true rfl, Nat.le_of_ble_eq_true rfl⟩ ⟨Nat.le_of_ble_eq_true rfl, Nat.le_of_ble_eq_true rfl⟩ (Nat.le_of_ble_eq_true rfl) ?_
          refine Calls.mono (fun r55 M55 hr55 hM55 h => ?_) h
          refine a_iload_n (pc := 58) dX11_round_58 rfl ?_
          refine a_if_ne (pc := 59) 72 dX11_round_59 rfl ⟨fun hc => ?_, fun hc => ?_⟩
          · replace h := h.1 hc
            refine a_aload_n (pc := 72) dX11_round_72 rfl ?_
            refine a_getr (pc := 73) dX11_round_73 f_X11_78 rfl ?_
            refine a_geti (pc := 76) 5 dX11_round_76 f_X11_267 rfl rfl ?_
            exact a_iretI (pc := 79) dX11_round_79 rfl h
          · replace h := h.2 hc
            refine a_aload_n (pc := 62) dX11_round_62 rfl ?_
            refine a_getr (pc := 63) dX11_round_63 f_X11_78 rfl ?_
            refine a_geti (pc := 66) 4 dX11_round_66 f_X11_264 rfl rfl ?_
            refine a_goto (pc := 69) 79 dX11_round_69 rfl ?_
            exact a_iretI (pc := 79) dX11_round_79 rfl h
        · replace h := h.2 hc
          refine a_iload_n (pc := 39) dX11_round_39 rfl ?_
          refine a_iconst (pc := 40) dX11_round_40 (cnb rfl) ?_
          refine a_icmp_eq (pc := 41) 46 dX11_round_41 rfl ⟨fun hc => ?_, fun hc => ?_⟩
          · replace h := h.1 hc
            refine a_aload_n (pc := 46) dX11_round_46 rfl ?_
            refine a_getr (pc := 47) dX11_round_47 f_X11_78 rfl ?_
            refine a_aload_n (pc := 50) dX11_round_50 rfl ?_
            refine a_getr (pc := 51) dX11_round_51 f_X11_19 rfl ?_
            refine a_iload_n (pc := 54) dX11_round_54 rfl ?_
            refine a_callVv (pc := 55) (d := 3) (st := []) (o := 61) [.inr 3, .inl a] dX11_round_55 l_X11_260 in_X6_tellRound se_X6_tellRound rfl rfl rfl ⟨Nat.le_of_ble_eq_true rfl, Nat.le_of_ble_eq_true rfl⟩ ⟨Nat.le_of_ble_eq_true rfl, Nat.le_of_ble_eq_true rfl⟩ (Nat.le_of_ble_eq_true rfl) ?_
            refine Calls.mono (fun r55 M55 hr55 hM55 h => ?_) h
            refine a_iload_n (pc := 58) dX11_round_58 rfl ?_
            refine a_if_ne (pc := 59) 72 dX11_round_59 rfl ⟨fun hc => ?_, fun hc => ?_⟩
            · replace h := h.1 hc
              refine a_aload_n (pc := 72) dX11_round_72 rfl ?_
              refine a_getr (pc := 73) dX11_round_73 f_X11_78 rfl ?_
              refine a_geti (pc := 76) 5 dX11_round_76 f_X11_267 rfl rfl ?_
              exact a_iretI (pc := 79) dX11_round_79 rfl h
            · replace h := h.2 hc
              refine a_aload_n (pc := 62) dX11_round_62 rfl ?_
              refine a_getr (pc := 63) dX11_round_63 f_X11_78 rfl ?_
              refine a_geti (pc := 66) 4 dX11_round_66 f_X11_264 rfl rfl ?_
              refine a_goto (pc := 69) 79 dX11_round_69 rfl ?_
              exact a_iretI (pc := 79) dX11_round_79 rfl h
          · replace h := h.2 hc
            refine a_iconst (pc := 44) dX11_round_44 (cnb rfl) ?_
            exact a_iretI (pc := 45) dX11_round_45 rfl h
set_option maxRecDepth 20000 in
theorem e_X11_round {Q : Int → Me → Prop}  {a b : Int} {M : Me} (h :
    ((a ≤ 0 →
    Q (-1) M) ∧ (0 < a →
    ((bshr a (M 3 8) ≠ 0 →
    Q (-1) M) ∧ (bshr a (M 3 8) = 0 →
    Calls 0 mJ6_bitCount_0f7a4 [.inl a] M (fun r27 M27 =>
    ((9 < r27 →
    Q (-1) M27) ∧ (r27 ≤ 9 →
    ((b = 0 →
    Calls 3 mX6_tellRound [.inr 61, .inr 3, .inl a] M27 (fun r55 M55 =>
    ((b ≠ 0 →
    Q (M55 61 5) M55) ∧ (b = 0 →
    Q (M55 61 4) M55)))) ∧ (b ≠ 0 →
    ((b = 1 →
    Calls 3 mX6_tellRound [.inr 61, .inr 3, .inl a] M27 (fun r55 M55 =>
    ((b ≠ 0 →
    Q (M55 61 5) M55) ∧ (b = 0 →
    Q (M55 61 4) M55)))) ∧ (b ≠ 1 →
    Q (-1) M27)))))))))))) : Calls 4 mX11_round [.inr 0, .inl a, .inl b] M Q := Calls.of (by decide) (Nat.le_of_ble_eq_true rfl) (s_X11_round_0  a b M h)
set_option maxRecDepth 20000 in
theorem s_X12_laysRound_0 {Q : Int → Me → Prop}  (M : Me) (h :
    cn ((bshl 1 (M 76 52)) - 1) ∧
    Go (km 2 mX12_laysRound Q) 11 [some (.inr 76), some (.inl ((bshl 1 (M 76 52)) - 1)), some (.inl ((bshl 1 (M 76 52)) - 1)), none, none, none, none] [] M) :
    Go (km 2 mX12_laysRound Q) 0 [some (.inr 76), none, none, none, none, none, none] [] M := by
  refine a_iconst (pc := 0) dX12_laysRound_0 (cnb rfl) ?_
  refine a_aload_n (pc := 1) dX12_laysRound_1 rfl ?_
  refine a_geti (pc := 2) 52 dX12_laysRound_2 f_X12_393 rfl rfl ?_
  refine a_ishl (pc := 5) dX12_laysRound_5 ?_
  refine a_iconst (pc := 6) dX12_laysRound_6 (cnb rfl) ?_
  refine a_isub (pc := 7) dX12_laysRound_7 h.1 ?_
  replace h := h.2
  refine a_istore_n (pc := 8) dX12_laysRound_8 (Nat.le_of_ble_eq_true rfl) ?_
  refine a_iload_n (pc := 9) dX12_laysRound_9 rfl ?_
  refine a_istore_n (pc := 10) dX12_laysRound_10 (Nat.le_of_ble_eq_true rfl) ?_
  exact h
set_option maxRecDepth 20000 in
theorem e_X12_laysRound {Q : Int → Me → Prop}  {M : Me} (h :
    cn ((bshl 1 (M 76 52)) - 1) ∧
    Go (km 2 mX12_laysRound Q) 11 [some (.inr 76), some (.inl ((bshl 1 (M 76 52)) - 1)), some (.inl ((bshl 1 (M 76 52)) - 1)), none, none, none, none] [] M) : Calls 2 mX12_laysRound [.inr 76] M Q := Calls.of (by decide) (Nat.le_of_ble_eq_true rfl) (s_X12_laysRound_0   M h)
set_option maxRecDepth 20000 in
theorem s_X12_laysRound_11 {Q : Int → Me → Prop}  (x1 x2 : Int) (M : Me) (h :
    ((x2 ≤ 0 →
    Q 0 M) ∧ (0 < x2 →
    Go (km 2 mX12_laysRound Q) 17 [some (.inr 76), some (.inl x1), some (.inl x2), some (.inl 0), none, none, none] [] M))) :
    Go (km 2 mX12_laysRound Q) 11 [some (.inr 76), some (.inl x1), some (.inl x2), none, none, none, none] [] M := by
  refine a_iload_n (pc := 11) dX12_laysRound_11 rfl ?_
  refine a_if_le (pc := 12) 151 dX12_laysRound_12 rfl ⟨fun hc => ?_, fun hc => ?_⟩
  · replace h := h.1 hc
    exact a_ret (pc := 151) dX12_laysRound_151 rfl h
  · replace h := h.2 hc
    refine a_iconst (pc := 15) dX12_laysRound_15 (cnb rfl) ?_
    refine a_istore_n (pc := 16) dX12_laysRound_16 (Nat.le_of_ble_eq_true rfl) ?_
    exact h
set_option maxRecDepth 20000 in
theorem s_X12_laysRound_17 {Q : Int → Me → Prop}  (x1 x2 x3 : Int) (M : Me) (h :
    ((M 76 52 ≤ x3 →
    cn (x2 + (-1)) ∧
    Go (km 2 mX12_laysRound Q) 11 [some (.inr 76), some (.inl x1), some (.inl (x2 + (-1))), none, none, none, none] [] M) ∧ (x3 < M 76 52 →
    (0 ≤ x3 ∧ x3 < 9) ∧
    (0 ≤ M 113 x3 ∧ M 113 x3 < 16) ∧
    ((x2 ≠ x1 →
    Go (km 2 mX12_laysRound Q) 60 [some (.inr 76), some (.inl x1), some (.inl x2), some (.inl x3), some (.inl (M 80 (M 113 x3))), some (.inl 1000000), some (.inl 0)] [] M) ∧ (x2 = x1 →
    0 ≤ M 80 (M 113 x3) ∧
    (0 : Int) ≤ 0 ∧
    Go (km 2 mX12_laysRound Q) 60 [some (.inr 76), some (.inl x1), some (.inl x2), some (.inl x3), some (.inl (M 80 (M 113 x3))), some (.inl (dst (M 80 (M 113 x3)) 0)), some (.inl 0)] [] M))))) :
    Go (km 2 mX12_laysRound Q) 17 [some (.inr 76), some (.inl x1), some (.inl x2), some (.inl x3), none, none, none] [] M := by
  refine a_iload_n (pc := 17) dX12_laysRound_17 rfl ?_
  refine a_aload_n (pc := 18) dX12_laysRound_18 rfl ?_
  refine a_geti (pc := 19) 52 dX12_laysRound_19 f_X12_393 rfl rfl ?_
  refine a_icmp_ge (pc := 22) 145 dX12_laysRound_22 rfl ⟨fun hc => ?_, fun hc => ?_⟩
  · replace h := h.1 hc
    refine a_iinc (pc := 145) dX12_laysRound_145 rfl h.1 (Nat.le_of_ble_eq_true rfl) ?_
    replace h := h.2
    refine a_goto (pc := 148) 11 dX12_laysRound_148 rfl ?_
    exact Go.weak h (And.intro rfl (And.intro rfl (And.intro rfl True.intro)))
  · replace h := h.2 hc
    refine a_aload_n (pc := 25) dX12_laysRound_25 rfl ?_
    refine a_getr (pc := 26) dX12_laysRound_26 f_X12_19 rfl ?_
    refine a_aload_n (pc := 29) dX12_laysRound_29 rfl ?_
    refine a_getr (pc := 30) dX12_laysRound_30 f_X12_119 rfl ?_
    refine a_iload_n (pc := 33) dX12_laysRound_33 rfl ?_
    refine a_iald (pc := 34) dX12_laysRound_34 rfl h.1.1 h.1.2  ?_
    replace h := h.2
    refine a_iald (pc := 35) dX12_laysRound_35 rfl h.1.1 h.1.2  ?_
    replace h := h.2
    refine a_istore (pc := 36) dX12_laysRound_36 (Nat.le_of_ble_eq_true rfl) ?_
    refine a_iload_n (pc := 38) dX12_laysRound_38 rfl ?_
    refine a_iload_n (pc := 39) dX12_laysRound_39 rfl ?_
    refine a_icmp_ne (pc := 40) 52 dX12_laysRound_40 rfl ⟨fun hc => ?_, fun hc => ?_⟩
    · replace h := h.1 hc
      refine a_ldc_w (pc := 52) (n := 1000000) dX12_laysRound_52 k_X12_396 (by decide) (cnb rfl) ?_
      refine a_istore (pc := 55) dX12_laysRound_55 (Nat.le_of_ble_eq_true rfl) ?_
      refine a_iconst (pc := 57) dX12_laysRound_57 (cnb rfl) ?_
      refine a_istore (pc := 58) dX12_laysRound_58 (Nat.le_of_ble_eq_true rfl) ?_
      exact h
    · replace h := h.2 hc
      refine a_iload (pc := 43) dX12_laysRound_43 rfl ?_
      refine a_iconst (pc := 45) dX12_laysRound_45 (cnb rfl) ?_
      refine a_callSi (pc := 46) (d := 1) (st := []) [.inl (M 80 (M 113 x3)), .inl 0] dX12_laysRound_46 l_X12_303 st_X12_stepsBetween rfl ⟨Nat.le_of_ble_eq_true rfl, Nat.le_of_ble_eq_true rfl⟩ ⟨Nat.le_of_ble_eq_true rfl, Nat.le_of_ble_eq_true rfl⟩ (Nat.le_of_ble_eq_true rfl) ?_
      have hp46_1 := h.1
      replace h := h.2
      have hp46_2 := h.1
      replace h := h.2
      refine p_X12_stepsBetween hp46_1 hp46_2 ?_
      refine a_goto (pc := 49) 55 dX12_laysRound_49 rfl ?_
      refine a_istore (pc := 55) dX12_laysRound_55 (Nat.le_of_ble_eq_true rfl) ?_
      refine a_iconst (pc := 57) dX12_laysRound_57 (cnb rfl) ?_
      refine a_istore (pc := 58) dX12_laysRound_58 (Nat.le_of_ble_eq_true rfl) ?_
      exact h
set_option maxRecDepth 20000 in
theorem s_X12_laysRound_60 {Q : Int → Me → Prop}  (x1 x2 x3 x4 x5 x6 : Int) (M : Me) (h :
    ((M 76 52 ≤ x6 →
    cn (9 * x2) ∧
    cn ((9 * x2) + x3) ∧
    (0 ≤ (9 * x2) + x3 ∧ (9 * x2) + x3 < 4608) ∧
    cn (x3 + 1) ∧
    Go (km 2 mX12_laysRound Q) 17 [some (.inr 76), some (.inl x1), some (.inl x2), some (.inl (x3 + 1)), none, none, none] [] (mput M 112 ((9 * x2) + x3) x5)) ∧ (x6 < M 76 52 →
    ((band (bshr x2 x6) 1 = 1 →
    cn (x6 + 1) ∧
    Go (km 2 mX12_laysRound Q) 60 [some (.inr 76), some (.inl x1), some (.inl x2), some (.inl x3), some (.inl x4), some (.inl x5), some (.inl (x6 + 1))] [] M) ∧ (¬ (band (bshr x2 x6) 1 = 1) →
    (0 ≤ x6 ∧ x6 < 9) ∧
    (0 ≤ M 113 x6 ∧ M 113 x6 < 16) ∧
    0 ≤ x4 ∧
    0 ≤ M 80 (M 113 x6) ∧
    cn (9 * (bor x2 (bshl 1 x6))) ∧
    cn ((9 * (bor x2 (bshl 1 x6))) + x6) ∧
    (0 ≤ (9 * (bor x2 (bshl 1 x6))) + x6 ∧ (9 * (bor x2 (bshl 1 x6))) + x6 < 4608) ∧
    cn ((dst x4 (M 80 (M 113 x6))) + (M 112 ((9 * (bor x2 (bshl 1 x6))) + x6))) ∧
    cn (x6 + 1) ∧
    Go (km 2 mX12_laysRound Q) 60 [some (.inr 76), some (.inl x1), some (.inl x2), some (.inl x3), some (.inl x4), some (.inl (min x5 ((dst x4 (M 80 (M 113 x6))) + (M 112 ((9 * (bor x2 (bshl 1 x6))) + x6))))), some (.inl (x6 + 1))] [] M))))) :
    Go (km 2 mX12_laysRound Q) 60 [some (.inr 76), some (.inl x1), some (.inl x2), some (.inl x3), some (.inl x4), some (.inl x5), some (.inl x6)] [] M := by
  refine a_iload (pc := 60) dX12_laysRound_60 rfl ?_
  refine a_aload_n (pc := 62) dX12_laysRound_62 rfl ?_
  refine a_geti (pc := 63) 52 dX12_laysRound_63 f_X12_393 rfl rfl ?_
  refine a_icmp_ge (pc := 66) 126 dX12_laysRound_66 rfl ⟨fun hc => ?_, fun hc => ?_⟩
  · replace h := h.1 hc
    refine a_aload_n (pc := 126) dX12_laysRound_126 rfl ?_
    refine a_getr (pc := 127) dX12_laysRound_127 f_X12_116 rfl ?_
    refine a_bipush (pc := 130) dX12_laysRound_130 (by decide) (cnb rfl) ?_
    refine a_iload_n (pc := 132) dX12_laysRound_132 rfl ?_
    refine a_imul (pc := 133) dX12_laysRound_133 h.1 ?_
    replace h := h.2
    refine a_iload_n (pc := 134) dX12_laysRound_134 rfl ?_
    refine a_iadd (pc := 135) dX12_laysRound_135 h.1 ?_
    replace h := h.2
    refine a_iload (pc := 136) dX12_laysRound_136 rfl ?_
    refine a_iast (pc := 138) dX12_laysRound_138 rfl h.1.1 h.1.2 ?_
    replace h := h.2
    refine a_iinc (pc := 139) dX12_laysRound_139 rfl h.1 (Nat.le_of_ble_eq_true rfl) ?_
    replace h := h.2
    refine a_goto (pc := 142) 17 dX12_laysRound_142 rfl ?_
    exact Go.weak h (And.intro rfl (And.intro rfl (And.intro rfl (And.intro rfl True.intro))))
  · replace h := h.2 hc
    refine a_iload_n (pc := 69) dX12_laysRound_69 rfl ?_
    refine a_iload (pc := 70) dX12_laysRound_70 rfl ?_
    refine a_callSi (pc := 72) (d := 0) (st := []) [.inl x2, .inl x6] dX12_laysRound_72 l_X12_359 st_X12_has rfl ⟨Nat.le_of_ble_eq_true rfl, Nat.le_of_ble_eq_true rfl⟩ ⟨Nat.le_of_ble_eq_true rfl, Nat.le_of_ble_eq_true rfl⟩ (Nat.le_of_ble_eq_true rfl) ?_
    refine p_X12_has ⟨fun hc => ?_, fun hc => ?_⟩
    · replace h := h.1 hc
      refine a_if_ne (pc := 75) 120 dX12_laysRound_75 rfl ⟨fun _ => ?_, fun hc => absurd hc (by decide)⟩
      refine a_iinc (pc := 120) dX12_laysRound_120 rfl h.1 (Nat.le_of_ble_eq_true rfl) ?_
      replace h := h.2
      refine a_goto (pc := 123) 60 dX12_laysRound_123 rfl ?_
      exact h
    · replace h := h.2 hc
      refine a_if_ne (pc := 75) 120 dX12_laysRound_75 rfl ⟨fun hc => absurd hc (by decide), fun _ => ?_⟩
      refine a_iload (pc := 78) dX12_laysRound_78 rfl ?_
      refine a_iload (pc := 80) dX12_laysRound_80 rfl ?_
      refine a_aload_n (pc := 82) dX12_laysRound_82 rfl ?_
      refine a_getr (pc := 83) dX12_laysRound_83 f_X12_19 rfl ?_
      refine a_aload_n (pc := 86) dX12_laysRound_86 rfl ?_
      refine a_getr (pc := 87) dX12_laysRound_87 f_X12_119 rfl ?_
      refine a_iload (pc := 90) dX12_laysRound_90 rfl ?_
      refine a_iald (pc := 92) dX12_laysRound_92 rfl h.1.1 h.1.2  ?_
      replace h := h.2
      refine a_iald (pc := 93) dX12_laysRound_93 rfl h.1.1 h.1.2  ?_
      replace h := h.2
      refine a_callSi (pc := 94) (d := 1) (st := [.inl x5]) [.inl x4, .inl (M 80 (M 113 x6))] dX12_laysRound_94 l_X12_303 st_X12_stepsBetween rfl ⟨Nat.le_of_ble_eq_true rfl, Nat.le_of_ble_eq_true rfl⟩ ⟨Nat.le_of_ble_eq_true rfl, Nat.le_of_ble_eq_true rfl⟩ (Nat.le_of_ble_eq_true rfl) ?_
      have hp94_3 := h.1
      replace h := h.2
      have hp94_4 := h.1
      replace h := h.2
      refine p_X12_stepsBetween hp94_3 hp94_4 ?_
      refine a_aload_n (pc := 97) dX12_laysRound_97 rfl ?_
      refine a_getr (pc := 98) dX12_laysRound_98 f_X12_116 rfl ?_
      refine a_bipush (pc := 101) dX12_laysRound_101 (by decide) (cnb rfl) ?_
      refine a_iload_n (pc := 103) dX12_laysRound_103 rfl ?_
      refine a_iconst (pc := 104) dX12_laysRound_104 (cnb rfl) ?_
      refine a_iload (pc := 105) dX12_laysRound_105 rfl ?_
      refine a_ishl (pc := 107) dX12_laysRound_107 ?_
      refine a_ior (pc := 108) dX12_laysRound_108 ?_
      refine a_imul (pc := 109) dX12_laysRound_109 h.1 ?_
      replace h := h.2
      refine a_iload (pc := 110) dX12_laysRound_110 rfl ?_
      refine a_iadd (pc := 112) dX12_laysRound_112 h.1 ?_
      replace h := h.2
      refine a_iald (pc := 113) dX12_laysRound_113 rfl h.1.1 h.1.2  ?_
      replace h := h.2
      refine a_iadd (pc := 114) dX12_laysRound_114 h.1 ?_
      replace h := h.2
      refine a_callSi (pc := 115) (d := 0) (st := []) [.inl x5, .inl ((dst x4 (M 80 (M 113 x6))) + (M 112 ((9 * (bor x2 (bshl 1 x6))) + x6)))] dX12_laysRound_115 l_X12_309 st_X12_min rfl ⟨Nat.le_of_ble_eq_true rfl, Nat.le_of_ble_eq_true rfl⟩ ⟨Nat.le_of_ble_eq_true rfl, Nat.le_of_ble_eq_true rfl⟩ (Nat.le_of_ble_eq_true rfl) ?_
      refine p_X12_min ?_
      refine a_istore (pc := 118) dX12_laysRound_118 (Nat.le_of_ble_eq_true rfl) ?_
      refine a_iinc (pc := 120) dX12_laysRound_120 rfl h.1 (Nat.le_of_ble_eq_true rfl) ?_
      replace h := h.2
      refine a_goto (pc := 123) 60 dX12_laysRound_123 rfl ?_
      exact h
set_option maxRecDepth 20000 in
theorem s_X12_round_0 {Q : Int → Me → Prop}  (a b : Int) (M : Me) (h :
    ((1 ≤ a ∧ a ≤ 65535 →
    ((bshr a (M 76 11) ≠ 0 →
    Q (-1) M) ∧ (bshr a (M 76 11) = 0 →
    Calls 0 mX12_bits [.inl a] M (fun r21 M21 =>
    ((9 < r21 →
    Q (-1) M21) ∧ (r21 ≤ 9 →
    ((0 ≤ b ∧ b ≤ 1 →
    Go (km 3 mX12_round Q) 47 [some (.inr 76), some (.inl a), some (.inl b), some (.inl 0), none, none, none] [] (mput M21 76 52 0)) ∧ (¬ (0 ≤ b ∧ b ≤ 1) →
    Q (-1) M21)))))))) ∧ (¬ (1 ≤ a ∧ a ≤ 65535) →
    Q (-1) M))) :
    Go (km 3 mX12_round Q) 0 [some (.inr 76), some (.inl a), some (.inl b), none, none, none, none] [] M := by
  refine a_iload_n (pc := 0) dX12_round_0 rfl ?_
  refine a_iconst (pc := 1) dX12_round_1 (cnb rfl) ?_
  refine a_ldc_w (pc := 2) (n := 65535) dX12_round_2 k_X12_397 (by decide) (cnb rfl) ?_
  refine a_callSi (pc := 5) (d := 0) (st := []) [.inl a, .inl 1, .inl 65535] dX12_round_5 l_X12_156 st_X12_in rfl ⟨Nat.le_of_ble_eq_true rfl, Nat.le_of_ble_eq_true rfl⟩ ⟨Nat.le_of_ble_eq_true rfl, Nat.le_of_ble_eq_true rfl⟩ (Nat.le_of_ble_eq_true rfl) ?_
  refine p_X12_in ⟨fun hc => ?_, fun hc => ?_⟩
  · replace h := h.1 hc
    refine a_if_eq (pc := 8) 38 dX12_round_8 rfl ⟨fun hc => absurd hc (by decide), fun _ => ?_⟩
    refine a_iload_n (pc := 11) dX12_round_11 rfl ?_
    refine a_aload_n (pc := 12) dX12_round_12 rfl ?_
    refine a_geti (pc := 13) 11 dX12_round_13 f_X12_152 rfl rfl ?_
    refine a_ishr (pc := 16) dX12_round_16 ?_
    refine a_if_ne (pc := 17) 38 dX12_round_17 rfl ⟨fun hc => ?_, fun hc => ?_⟩
    · replace h := h.1 hc
      refine a_iconst (pc := 38) dX12_round_38 (cnb rfl) ?_
      exact a_iretI (pc := 39) dX12_round_39 rfl h
    · replace h := h.2 hc
      refine a_iload_n (pc := 20) dX12_round_20 rfl ?_
      refine a_callSi (pc := 21) (d := 0) (st := []) [.inl a] dX12_round_21 l_X12_398 st_X12_bits rfl ⟨Nat.le_of_ble_eq_true rfl, Nat.le_of_ble_eq_true rfl⟩ ⟨Nat.le_of_ble_eq_true rfl, Nat.le_of_ble_eq_true rfl⟩ (Nat.le_of_ble_eq_true rfl) ?_
      refine Calls.mono (fun r21 M21 hr21 hM21 h => ?_) h
      refine a_bipush (pc := 24) dX12_round_24 (by decide) (cnb rfl) ?_
      refine a_icmp_gt (pc := 26) 38 dX12_round_26 rfl ⟨fun hc => ?_, fun hc => ?_⟩
      · replace h := h.1 hc
        refine a_iconst (pc := 38) dX12_round_38 (cnb rfl) ?_
        exact a_iretI (pc := 39) dX12_round_39 rfl h
      · replace h := h.2 hc
        refine a_iload_n (pc := 29) dX12_round_29 rfl ?_
        refine a_iconst (pc := 30) dX12_round_30 (cnb rfl) ?_
        refine a_iconst (pc := 31) dX12_round_31 (cnb rfl) ?_
        refine a_callSi (pc := 32) (d := 0) (st := []) [.inl b, .inl 0, .inl 1] dX12_round_32 l_X12_156 st_X12_in rfl ⟨Nat.le_of_ble_eq_true rfl, Nat.le_of_ble_eq_true rfl⟩ ⟨Nat.le_of_ble_eq_true rfl, Nat.le_of_ble_eq_true rfl⟩ (Nat.le_of_ble_eq_true rfl) ?_
        refine p_X12_in ⟨fun hc => ?_, fun hc => ?_⟩
        · replace h := h.1 hc
          refine a_if_ne (pc := 35) 40 dX12_round_35 rfl ⟨fun _ => ?_, fun hc => absurd hc (by decide)⟩
          refine a_aload_n (pc := 40) dX12_round_40 rfl ?_
          refine a_iconst (pc := 41) dX12_round_41 (cnb rfl) ?_
          refine a_puti (pc := 42) 52 dX12_round_42 f_X12_393 rfl rfl (Or.inl rfl) ?_
          refine a_iconst (pc := 45) dX12_round_45 (cnb rfl) ?_
          refine a_istore_n (pc := 46) dX12_round_46 (Nat.le_of_ble_eq_true rfl) ?_
          exact h
        · replace h := h.2 hc
          refine a_if_ne (pc := 35) 40 dX12_round_35 rfl ⟨fun hc => absurd hc (by decide), fun _ => ?_⟩
          refine a_iconst (pc := 38) dX12_round_38 (cnb rfl) ?_
          exact a_iretI (pc := 39) dX12_round_39 rfl h
  · replace h := h.2 hc
    refine a_if_eq (pc := 8) 38 dX12_round_8 rfl ⟨fun _ => ?_, fun hc => absurd hc (by decide)⟩
    refine a_iconst (pc := 38) dX12_round_38 (cnb rfl) ?_
    exact a_iretI (pc := 39) dX12_round_39 rfl h
set_option maxRecDepth 20000 in
theorem e_X12_round {Q : Int → Me → Prop}  {a b : Int} {M : Me} (h :
    ((1 ≤ a ∧ a ≤ 65535 →
    ((bshr a (M 76 11) ≠ 0 →
    Q (-1) M) ∧ (bshr a (M 76 11) = 0 →
    Calls 0 mX12_bits [.inl a] M (fun r21 M21 =>
    ((9 < r21 →
    Q (-1) M21) ∧ (r21 ≤ 9 →
    ((0 ≤ b ∧ b ≤ 1 →
    Go (km 3 mX12_round Q) 47 [some (.inr 76), some (.inl a), some (.inl b), some (.inl 0), none, none, none] [] (mput M21 76 52 0)) ∧ (¬ (0 ≤ b ∧ b ≤ 1) →
    Q (-1) M21)))))))) ∧ (¬ (1 ≤ a ∧ a ≤ 65535) →
    Q (-1) M))) : Calls 3 mX12_round [.inr 76, .inl a, .inl b] M Q := Calls.of (by decide) (Nat.le_of_ble_eq_true rfl) (s_X12_round_0  a b M h)
set_option maxRecDepth 20000 in
theorem s_X12_round_47 {Q : Int → Me → Prop}  (x1 x2 x3 : Int) (M : Me) (h :
    ((M 76 11 ≤ x3 →
    Calls 2 mX12_laysRound [.inr 76] M (fun r93 M93 =>
    Go (km 3 mX12_round Q) 106 [some (.inr 76), none, some (.inl x2), some (.inl (-1)), some (.inl 1000000), some (.inl 0), none] [] M93)) ∧ (x3 < M 76 11 →
    ((band (bshr x1 x3) 1 = 1 →
    (0 ≤ M 76 52 ∧ M 76 52 < 9) ∧
    cn ((M 76 52) + 1) ∧
    cn (x3 + 1) ∧
    Go (km 3 mX12_round Q) 47 [some (.inr 76), some (.inl x1), some (.inl x2), some (.inl (x3 + 1)), none, none, none] [] (mput (mput M 113 (M 76 52) x3) 76 52 ((M 76 52) + 1))) ∧ (¬ (band (bshr x1 x3) 1 = 1) →
    cn (x3 + 1) ∧
    Go (km 3 mX12_round Q) 47 [some (.inr 76), some (.inl x1), some (.inl x2), some (.inl (x3 + 1)), none, none, none] [] M))))) :
    Go (km 3 mX12_round Q) 47 [some (.inr 76), some (.inl x1), some (.inl x2), some (.inl x3), none, none, none] [] M := by
  refine a_iload_n (pc := 47) dX12_round_47 rfl ?_
  refine a_aload_n (pc := 48) dX12_round_48 rfl ?_
  refine a_geti (pc := 49) 11 dX12_round_49 f_X12_152 rfl rfl ?_
  refine a_icmp_ge (pc := 52) 92 dX12_round_52 rfl ⟨fun hc => ?_, fun hc => ?_⟩
  · replace h := h.1 hc
    refine a_aload_n (pc := 92) dX12_round_92 rfl ?_
    refine a_callVv (pc := 93) (d := 2) (st := []) (o := 76) [] dX12_round_93 l_X12_401 in_X12_laysRound se_X12_laysRound rfl rfl rfl ⟨Nat.le_of_ble_eq_true rfl, Nat.le_of_ble_eq_true rfl⟩ ⟨Nat.le_of_ble_eq_true rfl, Nat.le_of_ble_eq_true rfl⟩ (Nat.le_of_ble_eq_true rfl) ?_
    refine Calls.mono (fun r93 M93 hr93 hM93 h => ?_) h
    refine a_iconst (pc := 96) dX12_round_96 (cnb rfl) ?_
    refine a_istore_n (pc := 97) dX12_round_97 (Nat.le_of_ble_eq_true rfl) ?_
    refine a_ldc_w (pc := 98) (n := 1000000) dX12_round_98 k_X12_396 (by decide) (cnb rfl) ?_
    refine a_istore (pc := 101) dX12_round_101 (Nat.le_of_ble_eq_true rfl) ?_
    refine a_iconst (pc := 103) dX12_round_103 (cnb rfl) ?_
    refine a_istore (pc := 104) dX12_round_104 (Nat.le_of_ble_eq_true rfl) ?_
    exact Go.weak h (And.intro rfl (And.intro rfl (And.intro rfl (And.intro rfl (And.intro rfl True.intro)))))
  · replace h := h.2 hc
    refine a_iload_n (pc := 55) dX12_round_55 rfl ?_
    refine a_iload_n (pc := 56) dX12_round_56 rfl ?_
    refine a_callSi (pc := 57) (d := 0) (st := []) [.inl x1, .inl x3] dX12_round_57 l_X12_359 st_X12_has rfl ⟨Nat.le_of_ble_eq_true rfl, Nat.le_of_ble_eq_true rfl⟩ ⟨Nat.le_of_ble_eq_true rfl, Nat.le_of_ble_eq_true rfl⟩ (Nat.le_of_ble_eq_true rfl) ?_
    refine p_X12_has ⟨fun hc => ?_, fun hc => ?_⟩
    · replace h := h.1 hc
      refine a_if_ne (pc := 60) 66 dX12_round_60 rfl ⟨fun _ => ?_, fun hc => absurd hc (by decide)⟩
      refine a_aload_n (pc := 66) dX12_round_66 rfl ?_
      refine a_getr (pc := 67) dX12_round_67 f_X12_119 rfl ?_
      refine a_aload_n (pc := 70) dX12_round_70 rfl ?_
      refine a_geti (pc := 71) 52 dX12_round_71 f_X12_393 rfl rfl ?_
      refine a_iload_n (pc := 74) dX12_round_74 rfl ?_
      refine a_iast (pc := 75) dX12_round_75 rfl h.1.1 h.1.2 ?_
      replace h := h.2
      refine a_aload_n (pc := 76) dX12_round_76 rfl ?_
      refine a_aload_n (pc := 77) dX12_round_77 rfl ?_
      refine a_getiE (pc := 78) (M 76 52) 52 dX12_round_78 f_X12_393 rfl rfl (mput_ne _ _ _ _ (by decide)) ?_
      refine a_iconst (pc := 81) dX12_round_81 (cnb rfl) ?_
      refine a_iadd (pc := 82) dX12_round_82 h.1 ?_
      replace h := h.2
      refine a_puti (pc := 83) 52 dX12_round_83 f_X12_393 rfl rfl (Or.inl rfl) ?_
      refine a_iinc (pc := 86) dX12_round_86 rfl h.1 (Nat.le_of_ble_eq_true rfl) ?_
      replace h := h.2
      refine a_goto (pc := 89) 47 dX12_round_89 rfl ?_
      exact h
    · replace h := h.2 hc
      refine a_if_ne (pc := 60) 66 dX12_round_60 rfl ⟨fun hc => absurd hc (by decide), fun _ => ?_⟩
      refine a_goto (pc := 63) 86 dX12_round_63 rfl ?_
      refine a_iinc (pc := 86) dX12_round_86 rfl h.1 (Nat.le_of_ble_eq_true rfl) ?_
      replace h := h.2
      refine a_goto (pc := 89) 47 dX12_round_89 rfl ?_
      exact h
set_option maxRecDepth 20000 in
theorem s_X12_round_106 {Q : Int → Me → Prop}  (x2 x3 x4 x5 : Int) (M : Me) (h :
    ((M 76 52 ≤ x5 →
    ((x2 ≠ 0 →
    Q x3 M) ∧ (x2 = 0 →
    Q x4 M))) ∧ (x5 < M 76 52 →
    (0 ≤ x5 ∧ x5 < 9) ∧
    (0 ≤ M 113 x5 ∧ M 113 x5 < 16) ∧
    (0 : Int) ≤ 0 ∧
    0 ≤ M 80 (M 113 x5) ∧
    cn (9 * (bshl 1 x5)) ∧
    cn ((9 * (bshl 1 x5)) + x5) ∧
    (0 ≤ (9 * (bshl 1 x5)) + x5 ∧ (9 * (bshl 1 x5)) + x5 < 4608) ∧
    cn ((dst 0 (M 80 (M 113 x5))) + (M 112 ((9 * (bshl 1 x5)) + x5))) ∧
    (((dst 0 (M 80 (M 113 x5))) + (M 112 ((9 * (bshl 1 x5)) + x5)) < x4 →
    (0 ≤ x5 ∧ x5 < 9) ∧
    cn (x5 + 1) ∧
    Go (km 3 mX12_round Q) 106 [some (.inr 76), none, some (.inl x2), some (.inl (M 113 x5)), some (.inl ((dst 0 (M 80 (M 113 x5))) + (M 112 ((9 * (bshl 1 x5)) + x5)))), some (.inl (x5 + 1)), none] [] M) ∧ (x4 ≤ (dst 0 (M 80 (M 113 x5))) + (M 112 ((9 * (bshl 1 x5)) + x5)) →
    cn (x5 + 1) ∧
    Go (km 3 mX12_round Q) 106 [some (.inr 76), none, some (.inl x2), some (.inl x3), some (.inl x4), some (.inl (x5 + 1)), none] [] M))))) :
    Go (km 3 mX12_round Q) 106 [some (.inr 76), none, some (.inl x2), some (.inl x3), some (.inl x4), some (.inl x5), none] [] M := by
  refine a_iload (pc := 106) dX12_round_106 rfl ?_
  refine a_aload_n (pc := 108) dX12_round_108 rfl ?_
  refine a_geti (pc := 109) 52 dX12_round_109 f_X12_393 rfl rfl ?_
  refine a_icmp_ge (pc := 112) 177 dX12_round_112 rfl ⟨fun hc => ?_, fun hc => ?_⟩
  · replace h := h.1 hc
    refine a_iload_n (pc := 177) dX12_round_177 rfl ?_
    refine a_if_ne (pc := 178) 186 dX12_round_178 rfl ⟨fun hc => ?_, fun hc => ?_⟩
    · replace h := h.1 hc
      refine a_iload_n (pc := 186) dX12_round_186 rfl ?_
      exact a_iretI (pc := 187) dX12_round_187 rfl h
    · replace h := h.2 hc
      refine a_iload (pc := 181) dX12_round_181 rfl ?_
      refine a_goto (pc := 183) 187 dX12_round_183 rfl ?_
      exact a_iretI (pc := 187) dX12_round_187 rfl h
  · replace h := h.2 hc
    refine a_iconst (pc := 115) dX12_round_115 (cnb rfl) ?_
    refine a_aload_n (pc := 116) dX12_round_116 rfl ?_
    refine a_getr (pc := 117) dX12_round_117 f_X12_19 rfl ?_
    refine a_aload_n (pc := 120) dX12_round_120 rfl ?_
    refine a_getr (pc := 121) dX12_round_121 f_X12_119 rfl ?_
    refine a_iload (pc := 124) dX12_round_124 rfl ?_
    refine a_iald (pc := 126) dX12_round_126 rfl h.1.1 h.1.2  ?_
    replace h := h.2
    refine a_iald (pc := 127) dX12_round_127 rfl h.1.1 h.1.2  ?_
    replace h := h.2
    refine a_callSi (pc := 128) (d := 1) (st := []) [.inl 0, .inl (M 80 (M 113 x5))] dX12_round_128 l_X12_303 st_X12_stepsBetween rfl ⟨Nat.le_of_ble_eq_true rfl, Nat.le_of_ble_eq_true rfl⟩ ⟨Nat.le_of_ble_eq_true rfl, Nat.le_of_ble_eq_true rfl⟩ (Nat.le_of_ble_eq_true rfl) ?_
    have hp128_3 := h.1
    replace h := h.2
    have hp128_4 := h.1
    replace h := h.2
    refine p_X12_stepsBetween hp128_3 hp128_4 ?_
    refine a_aload_n (pc := 131) dX12_round_131 rfl ?_
    refine a_getr (pc := 132) dX12_round_132 f_X12_116 rfl ?_
    refine a_bipush (pc := 135) dX12_round_135 (by decide) (cnb rfl) ?_
    refine a_iconst (pc := 137) dX12_round_137 (cnb rfl) ?_
    refine a_iload (pc := 138) dX12_round_138 rfl ?_
    refine a_ishl (pc := 140) dX12_round_140 ?_
    refine a_imul (pc := 141) dX12_round_141 h.1 ?_
    replace h := h.2
    refine a_iload (pc := 142) dX12_round_142 rfl ?_
    refine a_iadd (pc := 144) dX12_round_144 h.1 ?_
    replace h := h.2
    refine a_iald (pc := 145) dX12_round_145 rfl h.1.1 h.1.2  ?_
    replace h := h.2
    refine a_iadd (pc := 146) dX12_round_146 h.1 ?_
    replace h := h.2
    refine a_istore (pc := 147) dX12_round_147 (Nat.le_of_ble_eq_true rfl) ?_
    refine a_iload (pc := 149) dX12_round_149 rfl ?_
    refine a_iload (pc := 151) dX12_round_151 rfl ?_
    refine a_icmp_lt (pc := 153) 159 dX12_round_153 rfl ⟨fun hc => ?_, fun hc => ?_⟩
    · replace h := h.1 hc
      refine a_iload (pc := 159) dX12_round_159 rfl ?_
      refine a_istore (pc := 161) dX12_round_161 (Nat.le_of_ble_eq_true rfl) ?_
      refine a_aload_n (pc := 163) dX12_round_163 rfl ?_
      refine a_getr (pc := 164) dX12_round_164 f_X12_119 rfl ?_
      refine a_iload (pc := 167) dX12_round_167 rfl ?_
      refine a_iald (pc := 169) dX12_round_169 rfl h.1.1 h.1.2  ?_
      replace h := h.2
      refine a_istore_n (pc := 170) dX12_round_170 (Nat.le_of_ble_eq_true rfl) ?_
      refine a_iinc (pc := 171) dX12_round_171 rfl h.1 (Nat.le_of_ble_eq_true rfl) ?_
      replace h := h.2
      refine a_goto (pc := 174) 106 dX12_round_174 rfl ?_
      exact Go.weak h (And.intro rfl (And.intro rfl (And.intro rfl (And.intro rfl (And.intro rfl True.intro)))))
    · replace h := h.2 hc
      refine a_goto (pc := 156) 171 dX12_round_156 rfl ?_
      refine a_iinc (pc := 171) dX12_round_171 rfl h.1 (Nat.le_of_ble_eq_true rfl) ?_
      replace h := h.2
      refine a_goto (pc := 174) 106 dX12_round_174 rfl ?_
      exact Go.weak h (And.intro rfl (And.intro rfl (And.intro rfl (And.intro rfl (And.intro rfl True.intro)))))
