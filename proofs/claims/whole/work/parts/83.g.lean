set_option maxRecDepth 20000 in
theorem s_X3_operand_0 {Q : Int → Me → Prop}  (a b : Int) (M : Me) (h :
    ((a ≠ 97 →
    Q b M) ∧ (a = 97 →
    ((b < 0 →
    Q b M) ∧ (0 ≤ b →
    ((11 ≤ b →
    Q b M) ∧ (b < 11 →
    (0 ≤ b ∧ b < 11) ∧
    Q (M 56 b) M))))))) :
    Go (km 0 mX3_operand Q) 0 [some (.inl a), some (.inl b), some (.inr 56), none] [] M := by
  refine a_iload_n (pc := 0) dX3_operand_0 rfl ?_
  refine a_bipush (pc := 1) dX3_operand_1 (by decide) (cnb rfl) ?_
  refine a_icmp_ne (pc := 3) 20 dX3_operand_3 rfl ⟨fun hc => ?_, fun hc => ?_⟩
  · replace h := h.1 hc
    refine a_iconst (pc := 20) dX3_operand_20 (cnb rfl) ?_
    refine a_istore_n (pc := 21) dX3_operand_21 (Nat.le_of_ble_eq_true rfl) ?_
    refine a_iload_n (pc := 22) dX3_operand_22 rfl ?_
    refine a_if_eq (pc := 23) 32 dX3_operand_23 rfl ⟨fun _ => ?_, fun hc => absurd hc (by decide)⟩
    refine a_iload_n (pc := 32) dX3_operand_32 rfl ?_
    exact a_iretI (pc := 33) dX3_operand_33 rfl h
  · replace h := h.2 hc
    refine a_iload_n (pc := 6) dX3_operand_6 rfl ?_
    refine a_if_lt (pc := 7) 20 dX3_operand_7 rfl ⟨fun hc => ?_, fun hc => ?_⟩
    · replace h := h.1 hc
      refine a_iconst (pc := 20) dX3_operand_20 (cnb rfl) ?_
      refine a_istore_n (pc := 21) dX3_operand_21 (Nat.le_of_ble_eq_true rfl) ?_
      refine a_iload_n (pc := 22) dX3_operand_22 rfl ?_
      refine a_if_eq (pc := 23) 32 dX3_operand_23 rfl ⟨fun _ => ?_, fun hc => absurd hc (by decide)⟩
      refine a_iload_n (pc := 32) dX3_operand_32 rfl ?_
      exact a_iretI (pc := 33) dX3_operand_33 rfl h
    · replace h := h.2 hc
      refine a_iload_n (pc := 10) dX3_operand_10 rfl ?_
      refine a_aload_n (pc := 11) dX3_operand_11 rfl ?_
      refine a_alen (pc := 12) 11 dX3_operand_12 rfl rfl (cnb rfl) ?_
      refine a_icmp_ge (pc := 13) 20 dX3_operand_13 rfl ⟨fun hc => ?_, fun hc => ?_⟩
      · replace h := h.1 hc
        refine a_iconst (pc := 20) dX3_operand_20 (cnb rfl) ?_
        refine a_istore_n (pc := 21) dX3_operand_21 (Nat.le_of_ble_eq_true rfl) ?_
        refine a_iload_n (pc := 22) dX3_operand_22 rfl ?_
        refine a_if_eq (pc := 23) 32 dX3_operand_23 rfl ⟨fun _ => ?_, fun hc => absurd hc (by decide)⟩
        refine a_iload_n (pc := 32) dX3_operand_32 rfl ?_
        exact a_iretI (pc := 33) dX3_operand_33 rfl h
      · replace h := h.2 hc
        refine a_iconst (pc := 16) dX3_operand_16 (cnb rfl) ?_
        refine a_goto (pc := 17) 21 dX3_operand_17 rfl ?_
        refine a_istore_n (pc := 21) dX3_operand_21 (Nat.le_of_ble_eq_true rfl) ?_
        refine a_iload_n (pc := 22) dX3_operand_22 rfl ?_
        refine a_if_eq (pc := 23) 32 dX3_operand_23 rfl ⟨fun hc => absurd hc (by decide), fun _ => ?_⟩
        refine a_aload_n (pc := 26) dX3_operand_26 rfl ?_
        refine a_iload_n (pc := 27) dX3_operand_27 rfl ?_
        refine a_iald (pc := 28) dX3_operand_28 rfl h.1.1 h.1.2  ?_
        replace h := h.2
        refine a_goto (pc := 29) 33 dX3_operand_29 rfl ?_
        exact a_iretI (pc := 33) dX3_operand_33 rfl h
set_option maxRecDepth 20000 in
theorem e_X3_operand {Q : Int → Me → Prop}  {a b : Int} {M : Me} (h :
    ((a ≠ 97 →
    Q b M) ∧ (a = 97 →
    ((b < 0 →
    Q b M) ∧ (0 ≤ b →
    ((11 ≤ b →
    Q b M) ∧ (b < 11 →
    (0 ≤ b ∧ b < 11) ∧
    Q (M 56 b) M))))))) : Calls 0 mX3_operand [.inl a, .inl b, .inr 56] M Q := Calls.of (by decide) (Nat.le_of_ble_eq_true rfl) (s_X3_operand_0  a b M h)
set_option maxRecDepth 20000 in
theorem s_X3_joined_0 {Q : Int → Me → Prop}  (a b c : Int) (M : Me) (h :
    ((a = 42 →
    Q (wr (b * c)) M) ∧
    ((a = 43 →
    Q (wr (b + c)) M) ∧
    ((a = 45 →
    Q (wr (b - c)) M) ∧
    ((a = 60 →
    ((c ≤ b →
    Q 0 M) ∧ (b < c →
    Q 1 M))) ∧
    ((a = 61 →
    ((b ≠ c →
    Q 0 M) ∧ (b = c →
    Q 1 M))) ∧
    ((a = 62 →
    ((b ≤ c →
    Q 0 M) ∧ (c < b →
    Q 1 M))) ∧
    (a ≠ 42 ∧ a ≠ 43 ∧ a ≠ 45 ∧ a ≠ 60 ∧ a ≠ 61 ∧ a ≠ 62 →
    ((c ≠ 0 →
    ((a ≠ 47 →
    c ≠ 0 ∧
    Q (brem b c) M) ∧ (a = 47 →
    c ≠ 0 ∧
    Q (bdiv b c) M))) ∧ (c = 0 →
    Q 0 (mput M 22 8 1))))))))))) :
    Go (km 0 mX3_joined Q) 0 [some (.inr 22), some (.inl a), some (.inl b), some (.inl c)] [] M := by
  refine a_iload_n (pc := 0) dX3_joined_0 rfl ?_
  by_cases he_1_0 : a = 42
  · replace h := h.1 he_1_0
    refine a_lookup 68 dX3_joined_1 rfl (off := 67) (by rw [he_1_0]; rfl) rfl ?_
    refine a_iload_n (pc := 68) dX3_joined_68 rfl ?_
    refine a_iload_n (pc := 69) dX3_joined_69 rfl ?_
    refine a_imulw (pc := 70) dX3_joined_70 ?_
    exact a_iretI (pc := 71) dX3_joined_71 rfl h
  replace h := h.2
  by_cases he_1_1 : a = 43
  · replace h := h.1 he_1_1
    refine a_lookup 60 dX3_joined_1 rfl (off := 59) (by rw [he_1_1]; rfl) rfl ?_
    refine a_iload_n (pc := 60) dX3_joined_60 rfl ?_
    refine a_iload_n (pc := 61) dX3_joined_61 rfl ?_
    refine a_iaddw (pc := 62) dX3_joined_62 ?_
    exact a_iretI (pc := 63) dX3_joined_63 rfl h
  replace h := h.2
  by_cases he_1_2 : a = 45
  · replace h := h.1 he_1_2
    refine a_lookup 64 dX3_joined_1 rfl (off := 63) (by rw [he_1_2]; rfl) rfl ?_
    refine a_iload_n (pc := 64) dX3_joined_64 rfl ?_
    refine a_iload_n (pc := 65) dX3_joined_65 rfl ?_
    refine a_isubw (pc := 66) dX3_joined_66 ?_
    exact a_iretI (pc := 67) dX3_joined_67 rfl h
  replace h := h.2
  by_cases he_1_3 : a = 60
  · replace h := h.1 he_1_3
    refine a_lookup 72 dX3_joined_1 rfl (off := 71) (by rw [he_1_3]; rfl) rfl ?_
    refine a_iload_n (pc := 72) dX3_joined_72 rfl ?_
    refine a_iload_n (pc := 73) dX3_joined_73 rfl ?_
    refine a_icmp_ge (pc := 74) 81 dX3_joined_74 rfl ⟨fun hc => ?_, fun hc => ?_⟩
    · replace h := h.1 hc
      refine a_iconst (pc := 81) dX3_joined_81 (cnb rfl) ?_
      exact a_iretI (pc := 82) dX3_joined_82 rfl h
    · replace h := h.2 hc
      refine a_iconst (pc := 77) dX3_joined_77 (cnb rfl) ?_
      refine a_goto (pc := 78) 82 dX3_joined_78 rfl ?_
      exact a_iretI (pc := 82) dX3_joined_82 rfl h
  replace h := h.2
  by_cases he_1_4 : a = 61
  · replace h := h.1 he_1_4
    refine a_lookup 94 dX3_joined_1 rfl (off := 93) (by rw [he_1_4]; rfl) rfl ?_
    refine a_iload_n (pc := 94) dX3_joined_94 rfl ?_
    refine a_iload_n (pc := 95) dX3_joined_95 rfl ?_
    refine a_icmp_ne (pc := 96) 103 dX3_joined_96 rfl ⟨fun hc => ?_, fun hc => ?_⟩
    · replace h := h.1 hc
      refine a_iconst (pc := 103) dX3_joined_103 (cnb rfl) ?_
      exact a_iretI (pc := 104) dX3_joined_104 rfl h
    · replace h := h.2 hc
      refine a_iconst (pc := 99) dX3_joined_99 (cnb rfl) ?_
      refine a_goto (pc := 100) 104 dX3_joined_100 rfl ?_
      exact a_iretI (pc := 104) dX3_joined_104 rfl h
  replace h := h.2
  by_cases he_1_5 : a = 62
  · replace h := h.1 he_1_5
    refine a_lookup 83 dX3_joined_1 rfl (off := 82) (by rw [he_1_5]; rfl) rfl ?_
    refine a_iload_n (pc := 83) dX3_joined_83 rfl ?_
    refine a_iload_n (pc := 84) dX3_joined_84 rfl ?_
    refine a_icmp_le (pc := 85) 92 dX3_joined_85 rfl ⟨fun hc => ?_, fun hc => ?_⟩
    · replace h := h.1 hc
      refine a_iconst (pc := 92) dX3_joined_92 (cnb rfl) ?_
      exact a_iretI (pc := 93) dX3_joined_93 rfl h
    · replace h := h.2 hc
      refine a_iconst (pc := 88) dX3_joined_88 (cnb rfl) ?_
      refine a_goto (pc := 89) 93 dX3_joined_89 rfl ?_
      exact a_iretI (pc := 93) dX3_joined_93 rfl h
  replace h := h.2
  replace h := h ⟨he_1_0, he_1_1, he_1_2, he_1_3, he_1_4, he_1_5⟩
  refine a_lookup (pc := 1) 105 dX3_joined_1 rfl (off := 104) (by simp [Op.lookupswitch.offset_cons, Ne.symm he_1_0, he_1_0, Ne.symm he_1_1, he_1_1, Ne.symm he_1_2, he_1_2, Ne.symm he_1_3, he_1_3, Ne.symm he_1_4, he_1_4, Ne.symm he_1_5, he_1_5] <;> rfl) rfl ?_
  refine a_iload_n (pc := 105) dX3_joined_105 rfl ?_
  refine a_if_ne (pc := 106) 116 dX3_joined_106 rfl ⟨fun hc => ?_, fun hc => ?_⟩
  · replace h := h.1 hc
    refine a_iload_n (pc := 116) dX3_joined_116 rfl ?_
    refine a_bipush (pc := 117) dX3_joined_117 (by decide) (cnb rfl) ?_
    refine a_icmp_ne (pc := 119) 128 dX3_joined_119 rfl ⟨fun hc => ?_, fun hc => ?_⟩
    · replace h := h.1 hc
      refine a_iload_n (pc := 128) dX3_joined_128 rfl ?_
      refine a_iload_n (pc := 129) dX3_joined_129 rfl ?_
      refine a_irem (pc := 130) dX3_joined_130 h.1 ?_
      replace h := h.2
      exact a_iretI (pc := 131) dX3_joined_131 rfl h
    · replace h := h.2 hc
      refine a_iload_n (pc := 122) dX3_joined_122 rfl ?_
      refine a_iload_n (pc := 123) dX3_joined_123 rfl ?_
      refine a_idiv (pc := 124) dX3_joined_124 h.1 ?_
      replace h := h.2
      refine a_goto (pc := 125) 131 dX3_joined_125 rfl ?_
      exact a_iretI (pc := 131) dX3_joined_131 rfl h
  · replace h := h.2 hc
    refine a_aload_n (pc := 109) dX3_joined_109 rfl ?_
    refine a_iconst (pc := 110) dX3_joined_110 (cnb rfl) ?_
    refine a_puti (pc := 111) 8 dX3_joined_111 f_X3_35 rfl rfl (Or.inr ⟨rfl, by decide⟩) ?_
    refine a_iconst (pc := 114) dX3_joined_114 (cnb rfl) ?_
    exact a_iretI (pc := 115) dX3_joined_115 rfl h
set_option maxRecDepth 20000 in
theorem e_X3_joined {Q : Int → Me → Prop}  {a b c : Int} {M : Me} (h :
    ((a = 42 →
    Q (wr (b * c)) M) ∧
    ((a = 43 →
    Q (wr (b + c)) M) ∧
    ((a = 45 →
    Q (wr (b - c)) M) ∧
    ((a = 60 →
    ((c ≤ b →
    Q 0 M) ∧ (b < c →
    Q 1 M))) ∧
    ((a = 61 →
    ((b ≠ c →
    Q 0 M) ∧ (b = c →
    Q 1 M))) ∧
    ((a = 62 →
    ((b ≤ c →
    Q 0 M) ∧ (c < b →
    Q 1 M))) ∧
    (a ≠ 42 ∧ a ≠ 43 ∧ a ≠ 45 ∧ a ≠ 60 ∧ a ≠ 61 ∧ a ≠ 62 →
    ((c ≠ 0 →
    ((a ≠ 47 →
    c ≠ 0 ∧
    Q (brem b c) M) ∧ (a = 47 →
    c ≠ 0 ∧
    Q (bdiv b c) M))) ∧ (c = 0 →
    Q 0 (mput M 22 8 1))))))))))) : Calls 0 mX3_joined [.inr 22, .inl a, .inl b, .inl c] M Q := Calls.of (by decide) (Nat.le_of_ble_eq_true rfl) (s_X3_joined_0  a b c M h)
set_option maxRecDepth 20000 in
theorem s_X3_reckon_0 {Q : Int → Me → Prop}  (a b : Int) (M : Me) (h :
    Go (km 1 mX3_reckon Q) 18 [some (.inr 22), none, some (.inl b), some (.inr 56), some (.inl 0), some (.inl a), none, none, none] [] (mput (mput M 22 8 0) 28 0 0)) :
    Go (km 1 mX3_reckon Q) 0 [some (.inr 22), some (.inl a), some (.inl b), some (.inr 56), none, none, none, none, none] [] M := by
  refine a_aload_n (pc := 0) dX3_reckon_0 rfl ?_
  refine a_iconst (pc := 1) dX3_reckon_1 (cnb rfl) ?_
  refine a_puti (pc := 2) 8 dX3_reckon_2 f_X3_35 rfl rfl (Or.inr ⟨rfl, by decide⟩) ?_
  refine a_iconst (pc := 5) dX3_reckon_5 (cnb rfl) ?_
  refine a_istore (pc := 6) dX3_reckon_6 (Nat.le_of_ble_eq_true rfl) ?_
  refine a_aload_n (pc := 8) dX3_reckon_8 rfl ?_
  refine a_getr (pc := 9) dX3_reckon_9 f_X3_25 rfl ?_
  refine a_iconst (pc := 12) dX3_reckon_12 (cnb rfl) ?_
  refine a_iconst (pc := 13) dX3_reckon_13 (cnb rfl) ?_
  refine a_iast (pc := 14) dX3_reckon_14 rfl (by decide) (by decide) ?_
  refine a_iload_n (pc := 15) dX3_reckon_15 rfl ?_
  refine a_istore (pc := 16) dX3_reckon_16 (Nat.le_of_ble_eq_true rfl) ?_
  exact Go.weak h (And.intro rfl (And.intro rfl (And.intro rfl (And.intro rfl (And.intro rfl True.intro)))))
set_option maxRecDepth 20000 in
theorem e_X3_reckon {Q : Int → Me → Prop}  {a b : Int} {M : Me} (h :
    Go (km 1 mX3_reckon Q) 18 [some (.inr 22), none, some (.inl b), some (.inr 56), some (.inl 0), some (.inl a), none, none, none] [] (mput (mput M 22 8 0) 28 0 0)) : Calls 1 mX3_reckon [.inr 22, .inl a, .inl b, .inr 56] M Q := Calls.of (by decide) (Nat.le_of_ble_eq_true rfl) (s_X3_reckon_0  a b M h)
set_option maxRecDepth 20000 in
theorem s_X3_reckon_18 {Q : Int → Me → Prop}  (x2 x4 x5 : Int) (M : Me) (h :
    ((x2 ≤ x5 →
    ((M 22 8 = 0 →
    (0 ≤ x4 ∧ x4 < 64) ∧
    Q (M 28 x4) M) ∧ (M 22 8 ≠ 0 →
    Q 0 M))) ∧ (x5 < x2 →
    ((240 ≤ x5 →
    ((M 22 8 = 0 →
    (0 ≤ x4 ∧ x4 < 64) ∧
    Q (M 28 x4) M) ∧ (M 22 8 ≠ 0 →
    Q 0 M))) ∧ (x5 < 240 →
    ((M 22 8 ≠ 0 →
    ((M 22 8 = 0 →
    (0 ≤ x4 ∧ x4 < 64) ∧
    Q (M 28 x4) M) ∧ (M 22 8 ≠ 0 →
    Q 0 M))) ∧ (M 22 8 = 0 →
    (0 ≤ x5 ∧ x5 < 240) ∧
    (0 ≤ x5 ∧ x5 < 240) ∧
    ((band (M 27 x5) 255 = 48 →
    cn (x4 + 1) ∧
    Calls 0 mX3_operand [.inl (band (M 27 x5) 255), .inl (bshr (M 27 x5) 8), .inr 56] M (fun r102 M102 =>
    (0 ≤ min (x4 + 1) 63 ∧ min (x4 + 1) 63 < 64) ∧
    cn (x5 + 1) ∧
    Go (km 1 mX3_reckon Q) 18 [some (.inr 22), none, some (.inl x2), some (.inr 56), some (.inl (min (x4 + 1) 63)), some (.inl (x5 + 1)), none, none, none] [] (mput M102 28 (min (x4 + 1) 63) r102))) ∧ (band (M 27 x5) 255 ≠ 48 →
    ((band (M 27 x5) 255 ≠ 97 →
    ((band (M 27 x5) 255 ≠ 33 →
    ((band (M 27 x5) 255 = 38 →
    ((band (M 27 x5) 255 ≠ 38 →
    (0 ≤ x4 ∧ x4 < 64) ∧
    ((M 28 x4 = 0 →
    cn (x4 - 1) ∧
    cn (x5 + 1) ∧
    Go (km 1 mX3_reckon Q) 18 [some (.inr 22), none, some (.inl x2), some (.inr 56), some (.inl (max (x4 - 1) 0)), some (.inl (x5 + 1)), none, none, none] [] M) ∧ (M 28 x4 ≠ 0 →
    cn ((bshr (M 27 x5) 8) - 1) ∧
    cn ((max x5 ((bshr (M 27 x5) 8) - 1)) + 1) ∧
    Go (km 1 mX3_reckon Q) 18 [some (.inr 22), none, some (.inl x2), some (.inr 56), some (.inl x4), some (.inl ((max x5 ((bshr (M 27 x5) 8) - 1)) + 1)), none, none, none] [] M))) ∧ (band (M 27 x5) 255 = 38 →
    (0 ≤ x4 ∧ x4 < 64) ∧
    ((M 28 x4 ≠ 0 →
    cn (x4 - 1) ∧
    cn (x5 + 1) ∧
    Go (km 1 mX3_reckon Q) 18 [some (.inr 22), none, some (.inl x2), some (.inr 56), some (.inl (max (x4 - 1) 0)), some (.inl (x5 + 1)), none, none, none] [] M) ∧ (M 28 x4 = 0 →
    cn ((bshr (M 27 x5) 8) - 1) ∧
    cn ((max x5 ((bshr (M 27 x5) 8) - 1)) + 1) ∧
    Go (km 1 mX3_reckon Q) 18 [some (.inr 22), none, some (.inl x2), some (.inr 56), some (.inl x4), some (.inl ((max x5 ((bshr (M 27 x5) 8) - 1)) + 1)), none, none, none] [] M))))) ∧ (band (M 27 x5) 255 ≠ 38 →
    ((band (M 27 x5) 255 ≠ 124 →
    cn (x4 - 1) ∧
    (0 ≤ max (x4 - 1) 0 ∧ max (x4 - 1) 0 < 64) ∧
    cn ((max (x4 - 1) 0) + 1) ∧
    (0 ≤ (max (x4 - 1) 0) + 1 ∧ (max (x4 - 1) 0) + 1 < 64) ∧
    Calls 0 mX3_joined [.inr 22, .inl (band (M 27 x5) 255), .inl (M 28 (max (x4 - 1) 0)), .inl (M 28 ((max (x4 - 1) 0) + 1))] M (fun r258 M258 =>
    (0 ≤ max (x4 - 1) 0 ∧ max (x4 - 1) 0 < 64) ∧
    cn (x5 + 1) ∧
    Go (km 1 mX3_reckon Q) 18 [some (.inr 22), none, some (.inl x2), some (.inr 56), some (.inl (max (x4 - 1) 0)), some (.inl (x5 + 1)), none, none, none] [] (mput M258 28 (max (x4 - 1) 0) r258))) ∧ (band (M 27 x5) 255 = 124 →
    ((band (M 27 x5) 255 ≠ 38 →
    (0 ≤ x4 ∧ x4 < 64) ∧
    ((M 28 x4 = 0 →
    cn (x4 - 1) ∧
    cn (x5 + 1) ∧
    Go (km 1 mX3_reckon Q) 18 [some (.inr 22), none, some (.inl x2), some (.inr 56), some (.inl (max (x4 - 1) 0)), some (.inl (x5 + 1)), none, none, none] [] M) ∧ (M 28 x4 ≠ 0 →
    cn ((bshr (M 27 x5) 8) - 1) ∧
    cn ((max x5 ((bshr (M 27 x5) 8) - 1)) + 1) ∧
    Go (km 1 mX3_reckon Q) 18 [some (.inr 22), none, some (.inl x2), some (.inr 56), some (.inl x4), some (.inl ((max x5 ((bshr (M 27 x5) 8) - 1)) + 1)), none, none, none] [] M))) ∧ (band (M 27 x5) 255 = 38 →
    (0 ≤ x4 ∧ x4 < 64) ∧
    ((M 28 x4 ≠ 0 →
    cn (x4 - 1) ∧
    cn (x5 + 1) ∧
    Go (km 1 mX3_reckon Q) 18 [some (.inr 22), none, some (.inl x2), some (.inr 56), some (.inl (max (x4 - 1) 0)), some (.inl (x5 + 1)), none, none, none] [] M) ∧ (M 28 x4 = 0 →
    cn ((bshr (M 27 x5) 8) - 1) ∧
    cn ((max x5 ((bshr (M 27 x5) 8) - 1)) + 1) ∧
    Go (km 1 mX3_reckon Q) 18 [some (.inr 22), none, some (.inl x2), some (.inr 56), some (.inl x4), some (.inl ((max x5 ((bshr (M 27 x5) 8) - 1)) + 1)), none, none, none] [] M))))))))) ∧ (band (M 27 x5) 255 = 33 →
    (0 ≤ x4 ∧ x4 < 64) ∧
    cn (1 - (M 28 x4)) ∧
    (0 ≤ x4 ∧ x4 < 64) ∧
    cn (x5 + 1) ∧
    Go (km 1 mX3_reckon Q) 18 [some (.inr 22), none, some (.inl x2), some (.inr 56), some (.inl x4), some (.inl (x5 + 1)), none, none, none] [] (mput M 28 x4 (1 - (M 28 x4)))))) ∧ (band (M 27 x5) 255 = 97 →
    cn (x4 + 1) ∧
    Calls 0 mX3_operand [.inl (band (M 27 x5) 255), .inl (bshr (M 27 x5) 8), .inr 56] M (fun r102 M102 =>
    (0 ≤ min (x4 + 1) 63 ∧ min (x4 + 1) 63 < 64) ∧
    cn (x5 + 1) ∧
    Go (km 1 mX3_reckon Q) 18 [some (.inr 22), none, some (.inl x2), some (.inr 56), some (.inl (min (x4 + 1) 63)), some (.inl (x5 + 1)), none, none, none] [] (mput M102 28 (min (x4 + 1) 63) r102))))))))))))) :
    Go (km 1 mX3_reckon Q) 18 [some (.inr 22), none, some (.inl x2), some (.inr 56), some (.inl x4), some (.inl x5), none, none, none] [] M := by
  refine a_iload (pc := 18) dX3_reckon_18 rfl ?_
  refine a_iload_n (pc := 20) dX3_reckon_20 rfl ?_
  refine a_icmp_ge (pc := 21) 268 dX3_reckon_21 rfl ⟨fun hc => ?_, fun hc => ?_⟩
  · replace h := h.1 hc
    refine a_aload_n (pc := 268) dX3_reckon_268 rfl ?_
    refine a_geti (pc := 269) 8 dX3_reckon_269 f_X3_35 rfl rfl ?_
    refine a_if_eq (pc := 272) 279 dX3_reckon_272 rfl ⟨fun hc => ?_, fun hc => ?_⟩
    · replace h := h.1 hc
      refine a_aload_n (pc := 279) dX3_reckon_279 rfl ?_
      refine a_getr (pc := 280) dX3_reckon_280 f_X3_25 rfl ?_
      refine a_iload (pc := 283) dX3_reckon_283 rfl ?_
      refine a_iald (pc := 285) dX3_reckon_285 rfl h.1.1 h.1.2  ?_
      replace h := h.2
      exact a_iretI (pc := 286) dX3_reckon_286 rfl h
    · replace h := h.2 hc
      refine a_iconst (pc := 275) dX3_reckon_275 (cnb rfl) ?_
      refine a_goto (pc := 276) 286 dX3_reckon_276 rfl ?_
      exact a_iretI (pc := 286) dX3_reckon_286 rfl h
  · replace h := h.2 hc
    refine a_iload (pc := 24) dX3_reckon_24 rfl ?_
    refine a_aload_n (pc := 26) dX3_reckon_26 rfl ?_
    refine a_getr (pc := 27) dX3_reckon_27 f_X3_22 rfl ?_
    refine a_alen (pc := 30) 240 dX3_reckon_30 rfl rfl (cnb rfl) ?_
    refine a_icmp_ge (pc := 31) 268 dX3_reckon_31 rfl ⟨fun hc => ?_, fun hc => ?_⟩
    · replace h := h.1 hc
      refine a_aload_n (pc := 268) dX3_reckon_268 rfl ?_
      refine a_geti (pc := 269) 8 dX3_reckon_269 f_X3_35 rfl rfl ?_
      refine a_if_eq (pc := 272) 279 dX3_reckon_272 rfl ⟨fun hc => ?_, fun hc => ?_⟩
      · replace h := h.1 hc
        refine a_aload_n (pc := 279) dX3_reckon_279 rfl ?_
        refine a_getr (pc := 280) dX3_reckon_280 f_X3_25 rfl ?_
        refine a_iload (pc := 283) dX3_reckon_283 rfl ?_
        refine a_iald (pc := 285) dX3_reckon_285 rfl h.1.1 h.1.2  ?_
        replace h := h.2
        exact a_iretI (pc := 286) dX3_reckon_286 rfl h
      · replace h := h.2 hc
        refine a_iconst (pc := 275) dX3_reckon_275 (cnb rfl) ?_
        refine a_goto (pc := 276) 286 dX3_reckon_276 rfl ?_
        exact a_iretI (pc := 286) dX3_reckon_286 rfl h
    · replace h := h.2 hc
      refine a_aload_n (pc := 34) dX3_reckon_34 rfl ?_
      refine a_geti (pc := 35) 8 dX3_reckon_35 f_X3_35 rfl rfl ?_
      refine a_if_ne (pc := 38) 268 dX3_reckon_38 rfl ⟨fun hc => ?_, fun hc => ?_⟩
      · replace h := h.1 hc
        refine a_aload_n (pc := 268) dX3_reckon_268 rfl ?_
        refine a_geti (pc := 269) 8 dX3_reckon_269 f_X3_35 rfl rfl ?_
        refine a_if_eq (pc := 272) 279 dX3_reckon_272 rfl ⟨fun hc => ?_, fun hc => ?_⟩
        · replace h := h.1 hc
          refine a_aload_n (pc := 279) dX3_reckon_279 rfl ?_
          refine a_getr (pc := 280) dX3_reckon_280 f_X3_25 rfl ?_
          refine a_iload (pc := 283) dX3_reckon_283 rfl ?_
          refine a_iald (pc := 285) dX3_reckon_285 rfl h.1.1 h.1.2  ?_
          replace h := h.2
          exact a_iretI (pc := 286) dX3_reckon_286 rfl h
        · replace h := h.2 hc
          refine a_iconst (pc := 275) dX3_reckon_275 (cnb rfl) ?_
          refine a_goto (pc := 276) 286 dX3_reckon_276 rfl ?_
          exact a_iretI (pc := 286) dX3_reckon_286 rfl h
      · replace h := h.2 hc
        refine a_aload_n (pc := 41) dX3_reckon_41 rfl ?_
        refine a_getr (pc := 42) dX3_reckon_42 f_X3_22 rfl ?_
        refine a_iload (pc := 45) dX3_reckon_45 rfl ?_
        refine a_iald (pc := 47) dX3_reckon_47 rfl h.1.1 h.1.2  ?_
        replace h := h.2
        refine a_sipush (pc := 48) dX3_reckon_48 (by decide) (cnb rfl) ?_
        refine a_iand (pc := 51) dX3_reckon_51 ?_
        refine a_istore (pc := 52) dX3_reckon_52 (Nat.le_of_ble_eq_true rfl) ?_
        refine a_aload_n (pc := 54) dX3_reckon_54 rfl ?_
        refine a_getr (pc := 55) dX3_reckon_55 f_X3_22 rfl ?_
        refine a_iload (pc := 58) dX3_reckon_58 rfl ?_
        refine a_iald (pc := 60) dX3_reckon_60 rfl h.1.1 h.1.2  ?_
        replace h := h.2
        refine a_bipush (pc := 61) dX3_reckon_61 (by decide) (cnb rfl) ?_
        refine a_ishr (pc := 63) dX3_reckon_63 ?_
        refine a_istore (pc := 64) dX3_reckon_64 (Nat.le_of_ble_eq_true rfl) ?_
        refine a_iload (pc := 66) dX3_reckon_66 rfl ?_
        refine a_bipush (pc := 68) dX3_reckon_68 (by decide) (cnb rfl) ?_
        refine a_icmp_eq (pc := 70) 80 dX3_reckon_70 rfl ⟨fun hc => ?_, fun hc => ?_⟩
        · replace h := h.1 hc
          refine a_iload (pc := 80) dX3_reckon_80 rfl ?_
          refine a_iconst (pc := 82) dX3_reckon_82 (cnb rfl) ?_
          refine a_iadd (pc := 83) dX3_reckon_83 h.1 ?_
          replace h := h.2
          refine a_bipush (pc := 84) dX3_reckon_84 (by decide) (cnb rfl) ?_
          refine a_mmin (pc := 86) dX3_reckon_86 ml_X3_57 mt_st_min mt_ini mt_cd_min ⟨Nat.le_of_ble_eq_true rfl, Nat.le_of_ble_eq_true rfl⟩ ⟨Nat.le_of_ble_eq_true rfl, Nat.le_of_ble_eq_true rfl⟩ (Nat.le_of_ble_eq_true rfl) ?_
          refine a_istore (pc := 89) dX3_reckon_89 (Nat.le_of_ble_eq_true rfl) ?_
          refine a_aload_n (pc := 91) dX3_reckon_91 rfl ?_
          refine a_getr (pc := 92) dX3_reckon_92 f_X3_25 rfl ?_
          refine a_iload (pc := 95) dX3_reckon_95 rfl ?_
          refine a_iload (pc := 97) dX3_reckon_97 rfl ?_
          refine a_iload (pc := 99) dX3_reckon_99 rfl ?_
          refine a_aload_n (pc := 101) dX3_reckon_101 rfl ?_
          refine a_callSi (pc := 102) (d := 0) (st := [.inl (min (x4 + 1) 63), .inr 28]) [.inl (band (M 27 x5) 255), .inl (bshr (M 27 x5) 8), .inr 56] dX3_reckon_102 l_X3_66 st_X3_operand rfl ⟨Nat.le_of_ble_eq_true rfl, Nat.le_of_ble_eq_true rfl⟩ ⟨Nat.le_of_ble_eq_true rfl, Nat.le_of_ble_eq_true rfl⟩ (Nat.le_of_ble_eq_true rfl) ?_
          refine Calls.mono (fun r102 M102 hr102 hM102 h => ?_) h
          refine a_iast (pc := 105) dX3_reckon_105 rfl h.1.1 h.1.2 ?_
          replace h := h.2
          refine a_goto (pc := 106) 262 dX3_reckon_106 rfl ?_
          refine a_iinc (pc := 262) dX3_reckon_262 rfl h.1 (Nat.le_of_ble_eq_true rfl) ?_
          replace h := h.2
          refine a_goto (pc := 265) 18 dX3_reckon_265 rfl ?_
          exact Go.weak h (And.intro rfl (And.intro rfl (And.intro rfl (And.intro rfl (And.intro rfl True.intro)))))
        · replace h := h.2 hc
          refine a_iload (pc := 73) dX3_reckon_73 rfl ?_
          refine a_bipush (pc := 75) dX3_reckon_75 (by decide) (cnb rfl) ?_
          refine a_icmp_ne (pc := 77) 109 dX3_reckon_77 rfl ⟨fun hc => ?_, fun hc => ?_⟩
          · replace h := h.1 hc
            refine a_iload (pc := 109) dX3_reckon_109 rfl ?_
            refine a_bipush (pc := 111) dX3_reckon_111 (by decide) (cnb rfl) ?_
            refine a_icmp_ne (pc := 113) 135 dX3_reckon_113 rfl ⟨fun hc => ?_, fun hc => ?_⟩
            · replace h := h.1 hc
              refine a_iload (pc := 135) dX3_reckon_135 rfl ?_
              refine a_bipush (pc := 137) dX3_reckon_137 (by decide) (cnb rfl) ?_
              refine a_icmp_eq (pc := 139) 149 dX3_reckon_139 rfl ⟨fun hc => ?_, fun hc => ?_⟩
              · replace h := h.1 hc
                refine a_iload (pc := 149) dX3_reckon_149 rfl ?_
                refine a_bipush (pc := 151) dX3_reckon_151 (by decide) (cnb rfl) ?_
                refine a_icmp_ne (pc := 153) 174 dX3_reckon_153 rfl ⟨fun hc => ?_, fun hc => ?_⟩
                · replace h := h.1 hc
                  refine a_aload_n (pc := 174) dX3_reckon_174 rfl ?_
                  refine a_getr (pc := 175) dX3_reckon_175 f_X3_25 rfl ?_
                  refine a_iload (pc := 178) dX3_reckon_178 rfl ?_
                  refine a_iald (pc := 180) dX3_reckon_180 rfl h.1.1 h.1.2  ?_
                  replace h := h.2
                  refine a_if_eq (pc := 181) 188 dX3_reckon_181 rfl ⟨fun hc => ?_, fun hc => ?_⟩
                  · replace h := h.1 hc
                    refine a_iconst (pc := 188) dX3_reckon_188 (cnb rfl) ?_
                    refine a_istore (pc := 189) dX3_reckon_189 (Nat.le_of_ble_eq_true rfl) ?_
                    refine a_iload (pc := 191) dX3_reckon_191 rfl ?_
                    refine a_if_eq (pc := 193) 210 dX3_reckon_193 rfl ⟨fun _ => ?_, fun hc => absurd hc (by decide)⟩
                    refine a_iload (pc := 210) dX3_reckon_210 rfl ?_
                    refine a_iconst (pc := 212) dX3_reckon_212 (cnb rfl) ?_
                    refine a_isub (pc := 213) dX3_reckon_213 h.1 ?_
                    replace h := h.2
                    refine a_iconst (pc := 214) dX3_reckon_214 (cnb rfl) ?_
                    refine a_mmax (pc := 215) dX3_reckon_215 ml_X3_63 mt_st_max mt_ini mt_cd_max ⟨Nat.le_of_ble_eq_true rfl, Nat.le_of_ble_eq_true rfl⟩ ⟨Nat.le_of_ble_eq_true rfl, Nat.le_of_ble_eq_true rfl⟩ (Nat.le_of_ble_eq_true rfl) ?_
                    refine a_istore (pc := 218) dX3_reckon_218 (Nat.le_of_ble_eq_true rfl) ?_
                    refine a_goto (pc := 220) 262 dX3_reckon_220 rfl ?_
                    refine a_iinc (pc := 262) dX3_reckon_262 rfl h.1 (Nat.le_of_ble_eq_true rfl) ?_
                    replace h := h.2
                    refine a_goto (pc := 265) 18 dX3_reckon_265 rfl ?_
                    exact Go.weak h (And.intro rfl (And.intro rfl (And.intro rfl (And.intro rfl (And.intro rfl True.intro)))))
                  · replace h := h.2 hc
                    refine a_iconst (pc := 184) dX3_reckon_184 (cnb rfl) ?_
                    refine a_goto (pc := 185) 189 dX3_reckon_185 rfl ?_
                    refine a_istore (pc := 189) dX3_reckon_189 (Nat.le_of_ble_eq_true rfl) ?_
                    refine a_iload (pc := 191) dX3_reckon_191 rfl ?_
                    refine a_if_eq (pc := 193) 210 dX3_reckon_193 rfl ⟨fun hc => absurd hc (by decide), fun _ => ?_⟩
                    refine a_iload (pc := 196) dX3_reckon_196 rfl ?_
                    refine a_iload (pc := 198) dX3_reckon_198 rfl ?_
                    refine a_iconst (pc := 200) dX3_reckon_200 (cnb rfl) ?_
                    refine a_isub (pc := 201) dX3_reckon_201 h.1 ?_
                    replace h := h.2
                    refine a_mmax (pc := 202) dX3_reckon_202 ml_X3_63 mt_st_max mt_ini mt_cd_max ⟨Nat.le_of_ble_eq_true rfl, Nat.le_of_ble_eq_true rfl⟩ ⟨Nat.le_of_ble_eq_true rfl, Nat.le_of_ble_eq_true rfl⟩ (Nat.le_of_ble_eq_true rfl) ?_
                    refine a_istore (pc := 205) dX3_reckon_205 (Nat.le_of_ble_eq_true rfl) ?_
                    refine a_goto (pc := 207) 220 dX3_reckon_207 rfl ?_
                    refine a_goto (pc := 220) 262 dX3_reckon_220 rfl ?_
                    refine a_iinc (pc := 262) dX3_reckon_262 rfl h.1 (Nat.le_of_ble_eq_true rfl) ?_
                    replace h := h.2
                    refine a_goto (pc := 265) 18 dX3_reckon_265 rfl ?_
                    exact Go.weak h (And.intro rfl (And.intro rfl (And.intro rfl (And.intro rfl (And.intro rfl True.intro)))))
                · replace h := h.2 hc
                  refine a_aload_n (pc := 156) dX3_reckon_156 rfl ?_
                  refine a_getr (pc := 157) dX3_reckon_157 f_X3_25 rfl ?_
                  refine a_iload (pc := 160) dX3_reckon_160 rfl ?_
                  refine a_iald (pc := 162) dX3_reckon_162 rfl h.1.1 h.1.2  ?_
                  replace h := h.2
                  refine a_if_ne (pc := 163) 170 dX3_reckon_163 rfl ⟨fun hc => ?_, fun hc => ?_⟩
                  · replace h := h.1 hc
                    refine a_iconst (pc := 170) dX3_reckon_170 (cnb rfl) ?_
                    refine a_goto (pc := 171) 189 dX3_reckon_171 rfl ?_
                    refine a_istore (pc := 189) dX3_reckon_189 (Nat.le_of_ble_eq_true rfl) ?_
                    refine a_iload (pc := 191) dX3_reckon_191 rfl ?_
                    refine a_if_eq (pc := 193) 210 dX3_reckon_193 rfl ⟨fun _ => ?_, fun hc => absurd hc (by decide)⟩
                    refine a_iload (pc := 210) dX3_reckon_210 rfl ?_
                    refine a_iconst (pc := 212) dX3_reckon_212 (cnb rfl) ?_
                    refine a_isub (pc := 213) dX3_reckon_213 h.1 ?_
                    replace h := h.2
                    refine a_iconst (pc := 214) dX3_reckon_214 (cnb rfl) ?_
                    refine a_mmax (pc := 215) dX3_reckon_215 ml_X3_63 mt_st_max mt_ini mt_cd_max ⟨Nat.le_of_ble_eq_true rfl, Nat.le_of_ble_eq_true rfl⟩ ⟨Nat.le_of_ble_eq_true rfl, Nat.le_of_ble_eq_true rfl⟩ (Nat.le_of_ble_eq_true rfl) ?_
                    refine a_istore (pc := 218) dX3_reckon_218 (Nat.le_of_ble_eq_true rfl) ?_
                    refine a_goto (pc := 220) 262 dX3_reckon_220 rfl ?_
                    refine a_iinc (pc := 262) dX3_reckon_262 rfl h.1 (Nat.le_of_ble_eq_true rfl) ?_
                    replace h := h.2
                    refine a_goto (pc := 265) 18 dX3_reckon_265 rfl ?_
                    exact Go.weak h (And.intro rfl (And.intro rfl (And.intro rfl (And.intro rfl (And.intro rfl True.intro)))))
                  · replace h := h.2 hc
                    refine a_iconst (pc := 166) dX3_reckon_166 (cnb rfl) ?_
                    refine a_goto (pc := 167) 189 dX3_reckon_167 rfl ?_
                    refine a_istore (pc := 189) dX3_reckon_189 (Nat.le_of_ble_eq_true rfl) ?_
                    refine a_iload (pc := 191) dX3_reckon_191 rfl ?_
                    refine a_if_eq (pc := 193) 210 dX3_reckon_193 rfl ⟨fun hc => absurd hc (by decide), fun _ => ?_⟩
                    refine a_iload (pc := 196) dX3_reckon_196 rfl ?_
                    refine a_iload (pc := 198) dX3_reckon_198 rfl ?_
                    refine a_iconst (pc := 200) dX3_reckon_200 (cnb rfl) ?_
                    refine a_isub (pc := 201) dX3_reckon_201 h.1 ?_
                    replace h := h.2
                    refine a_mmax (pc := 202) dX3_reckon_202 ml_X3_63 mt_st_max mt_ini mt_cd_max ⟨Nat.le_of_ble_eq_true rfl, Nat.le_of_ble_eq_true rfl⟩ ⟨Nat.le_of_ble_eq_true rfl, Nat.le_of_ble_eq_true rfl⟩ (Nat.le_of_ble_eq_true rfl) ?_
                    refine a_istore (pc := 205) dX3_reckon_205 (Nat.le_of_ble_eq_true rfl) ?_
                    refine a_goto (pc := 207) 220 dX3_reckon_207 rfl ?_
                    refine a_goto (pc := 220) 262 dX3_reckon_220 rfl ?_
                    refine a_iinc (pc := 262) dX3_reckon_262 rfl h.1 (Nat.le_of_ble_eq_true rfl) ?_
                    replace h := h.2
                    refine a_goto (pc := 265) 18 dX3_reckon_265 rfl ?_
                    exact Go.weak h (And.intro rfl (And.intro rfl (And.intro rfl (And.intro rfl (And.intro rfl True.intro)))))
              · replace h := h.2 hc
                refine a_iload (pc := 142) dX3_reckon_142 rfl ?_
                refine a_bipush (pc := 144) dX3_reckon_144 (by decide) (cnb rfl) ?_
                refine a_icmp_ne (pc := 146) 223 dX3_reckon_146 rfl ⟨fun hc => ?_, fun hc => ?_⟩
                · replace h := h.1 hc
                  refine a_iload (pc := 223) dX3_reckon_223 rfl ?_
                  refine a_iconst (pc := 225) dX3_reckon_225 (cnb rfl) ?_
                  refine a_isub (pc := 226) dX3_reckon_226 h.1 ?_
                  replace h := h.2
                  refine a_iconst (pc := 227) dX3_reckon_227 (cnb rfl) ?_
                  refine a_mmax (pc := 228) dX3_reckon_228 ml_X3_63 mt_st_max mt_ini mt_cd_max ⟨Nat.le_of_ble_eq_true rfl, Nat.le_of_ble_eq_true rfl⟩ ⟨Nat.le_of_ble_eq_true rfl, Nat.le_of_ble_eq_true rfl⟩ (Nat.le_of_ble_eq_true rfl) ?_
                  refine a_istore (pc := 231) dX3_reckon_231 (Nat.le_of_ble_eq_true rfl) ?_
                  refine a_aload_n (pc := 233) dX3_reckon_233 rfl ?_
                  refine a_getr (pc := 234) dX3_reckon_234 f_X3_25 rfl ?_
                  refine a_iload (pc := 237) dX3_reckon_237 rfl ?_
                  refine a_aload_n (pc := 239) dX3_reckon_239 rfl ?_
                  refine a_iload (pc := 240) dX3_reckon_240 rfl ?_
                  refine a_aload_n (pc := 242) dX3_reckon_242 rfl ?_
                  refine a_getr (pc := 243) dX3_reckon_243 f_X3_25 rfl ?_
                  refine a_iload (pc := 246) dX3_reckon_246 rfl ?_
                  refine a_iald (pc := 248) dX3_reckon_248 rfl h.1.1 h.1.2  ?_
                  replace h := h.2
                  refine a_aload_n (pc := 249) dX3_reckon_249 rfl ?_
                  refine a_getr (pc := 250) dX3_reckon_250 f_X3_25 rfl ?_
                  refine a_iload (pc := 253) dX3_reckon_253 rfl ?_
                  refine a_iconst (pc := 255) dX3_reckon_255 (cnb rfl) ?_
                  refine a_iadd (pc := 256) dX3_reckon_256 h.1 ?_
                  replace h := h.2
                  refine a_iald (pc := 257) dX3_reckon_257 rfl h.1.1 h.1.2  ?_
                  replace h := h.2
                  refine a_callVi (pc := 258) (d := 0) (st := [.inl (max (x4 - 1) 0), .inr 28]) (o := 22) [.inl (band (M 27 x5) 255), .inl (M 28 (max (x4 - 1) 0)), .inl (M 28 ((max (x4 - 1) 0) + 1))] dX3_reckon_258 l_X3_69 in_X3_joined se_X3_joined rfl rfl rfl ⟨Nat.le_of_ble_eq_true rfl, Nat.le_of_ble_eq_true rfl⟩ ⟨Nat.le_of_ble_eq_true rfl, Nat.le_of_ble_eq_true rfl⟩ (Nat.le_of_ble_eq_true rfl) ?_
                  refine Calls.mono (fun r258 M258 hr258 hM258 h => ?_) h
                  refine a_iast (pc := 261) dX3_reckon_261 rfl h.1.1 h.1.2 ?_
                  replace h := h.2
                  refine a_iinc (pc := 262) dX3_reckon_262 rfl h.1 (Nat.le_of_ble_eq_true rfl) ?_
                  replace h := h.2
                  refine a_goto (pc := 265) 18 dX3_reckon_265 rfl ?_
                  exact Go.weak h (And.intro rfl (And.intro rfl (And.intro rfl (And.intro rfl (And.intro rfl True.intro)))))
                · replace h := h.2 hc
                  refine a_iload (pc := 149) dX3_reckon_149 rfl ?_
                  refine a_bipush (pc := 151) dX3_reckon_151 (by decide) (cnb rfl) ?_
                  refine a_icmp_ne (pc := 153) 174 dX3_reckon_153 rfl ⟨fun hc => ?_, fun hc => ?_⟩
                  · replace h := h.1 hc
                    refine a_aload_n (pc := 174) dX3_reckon_174 rfl ?_
                    refine a_getr (pc := 175) dX3_reckon_175 f_X3_25 rfl ?_
                    refine a_iload (pc := 178) dX3_reckon_178 rfl ?_
                    refine a_iald (pc := 180) dX3_reckon_180 rfl h.1.1 h.1.2  ?_
                    replace h := h.2
                    refine a_if_eq (pc := 181) 188 dX3_reckon_181 rfl ⟨fun hc => ?_, fun hc => ?_⟩
                    · replace h := h.1 hc
                      refine a_iconst (pc := 188) dX3_reckon_188 (cnb rfl) ?_
                      refine a_istore (pc := 189) dX3_reckon_189 (Nat.le_of_ble_eq_true rfl) ?_
                      refine a_iload (pc := 191) dX3_reckon_191 rfl ?_
                      refine a_if_eq (pc := 193) 210 dX3_reckon_193 rfl ⟨fun _ => ?_, fun hc => absurd hc (by decide)⟩
                      refine a_iload (pc := 210) dX3_reckon_210 rfl ?_
                      refine a_iconst (pc := 212) dX3_reckon_212 (cnb rfl) ?_
                      refine a_isub (pc := 213) dX3_reckon_213 h.1 ?_
                      replace h := h.2
                      refine a_iconst (pc := 214) dX3_reckon_214 (cnb rfl) ?_
                      refine a_mmax (pc := 215) dX3_reckon_215 ml_X3_63 mt_st_max mt_ini mt_cd_max ⟨Nat.le_of_ble_eq_true rfl, Nat.le_of_ble_eq_true rfl⟩ ⟨Nat.le_of_ble_eq_true rfl, Nat.le_of_ble_eq_true rfl⟩ (Nat.le_of_ble_eq_true rfl) ?_
                      refine a_istore (pc := 218) dX3_reckon_218 (Nat.le_of_ble_eq_true rfl) ?_
                      refine a_goto (pc := 220) 262 dX3_reckon_220 rfl ?_
                      refine a_iinc (pc := 262) dX3_reckon_262 rfl h.1 (Nat.le_of_ble_eq_true rfl) ?_
                      replace h := h.2
                      refine a_goto (pc := 265) 18 dX3_reckon_265 rfl ?_
                      exact Go.weak h (And.intro rfl (And.intro rfl (And.intro rfl (And.intro rfl (And.intro rfl True.intro)))))
                    · replace h := h.2 hc
                      refine a_iconst (pc := 184) dX3_reckon_184 (cnb rfl) ?_
                      refine a_goto (pc := 185) 189 dX3_reckon_185 rfl ?_
                      refine a_istore (pc := 189) dX3_reckon_189 (Nat.le_of_ble_eq_true rfl) ?_
                      refine a_iload (pc := 191) dX3_reckon_191 rfl ?_
                      refine a_if_eq (pc := 193) 210 dX3_reckon_193 rfl ⟨fun hc => absurd hc (by decide), fun _ => ?_⟩
                      refine a_iload (pc := 196) dX3_reckon_196 rfl ?_
                      refine a_iload (pc := 198) dX3_reckon_198 rfl ?_
                      refine a_iconst (pc := 200) dX3_reckon_200 (cnb rfl) ?_
                      refine a_isub (pc := 201) dX3_reckon_201 h.1 ?_
                      replace h := h.2
                      refine a_mmax (pc := 202) dX3_reckon_202 ml_X3_63 mt_st_max mt_ini mt_cd_max ⟨Nat.le_of_ble_eq_true rfl, Nat.le_of_ble_eq_true rfl⟩ ⟨Nat.le_of_ble_eq_true rfl, Nat.le_of_ble_eq_true rfl⟩ (Nat.le_of_ble_eq_true rfl) ?_
                      refine a_istore (pc := 205) dX3_reckon_205 (Nat.le_of_ble_eq_true rfl) ?_
                      refine a_goto (pc := 207) 220 dX3_reckon_207 rfl ?_
                      refine a_goto (pc := 220) 262 dX3_reckon_220 rfl ?_
                      refine a_iinc (pc := 262) dX3_reckon_262 rfl h.1 (Nat.le_of_ble_eq_true rfl) ?_
                      replace h := h.2
                      refine a_goto (pc := 265) 18 dX3_reckon_265 rfl ?_
                      exact Go.weak h (And.intro rfl (And.intro rfl (And.intro rfl (And.intro rfl (And.intro rfl True.intro)))))
                  · replace h := h.2 hc
                    refine a_aload_n (pc := 156) dX3_reckon_156 rfl ?_
                    refine a_getr (pc := 157) dX3_reckon_157 f_X3_25 rfl ?_
                    refine a_iload (pc := 160) dX3_reckon_160 rfl ?_
                    refine a_iald (pc := 162) dX3_reckon_162 rfl h.1.1 h.1.2  ?_
                    replace h := h.2
                    refine a_if_ne (pc := 163) 170 dX3_reckon_163 rfl ⟨fun hc => ?_, fun hc => ?_⟩
                    · replace h := h.1 hc
                      refine a_iconst (pc := 170) dX3_reckon_170 (cnb rfl) ?_
                      refine a_goto (pc := 171) 189 dX3_reckon_171 rfl ?_
                      refine a_istore (pc := 189) dX3_reckon_189 (Nat.le_of_ble_eq_true rfl) ?_
                      refine a_iload (pc := 191) dX3_reckon_191 rfl ?_
                      refine a_if_eq (pc := 193) 210 dX3_reckon_193 rfl ⟨fun _ => ?_, fun hc => absurd hc (by decide)⟩
                      refine a_iload (pc := 210) dX3_reckon_210 rfl ?_
                      refine a_iconst (pc := 212) dX3_reckon_212 (cnb rfl) ?_
                      refine a_isub (pc := 213) dX3_reckon_213 h.1 ?_
                      replace h := h.2
                      refine a_iconst (pc := 214) dX3_reckon_214 (cnb rfl) ?_
                      refine a_mmax (pc := 215) dX3_reckon_215 ml_X3_63 mt_st_max mt_ini mt_cd_max ⟨Nat.le_of_ble_eq_true rfl, Nat.le_of_ble_eq_true rfl⟩ ⟨Nat.le_of_ble_eq_true rfl, Nat.le_of_ble_eq_true rfl⟩ (Nat.le_of_ble_eq_true rfl) ?_
                      refine a_istore (pc := 218) dX3_reckon_218 (Nat.le_of_ble_eq_true rfl) ?_
                      refine a_goto (pc := 220) 262 dX3_reckon_220 rfl ?_
                      refine a_iinc (pc := 262) dX3_reckon_262 rfl h.1 (Nat.le_of_ble_eq_true rfl) ?_
                      replace h := h.2
                      refine a_goto (pc := 265) 18 dX3_reckon_265 rfl ?_
                      exact Go.weak h (And.intro rfl (And.intro rfl (And.intro rfl (And.intro rfl (And.intro rfl True.intro)))))
                    · replace h := h.2 hc
                      refine a_iconst (pc := 166) dX3_reckon_166 (cnb rfl) ?_
                      refine a_goto (pc := 167) 189 dX3_reckon_167 rfl ?_
                      refine a_istore (pc := 189) dX3_reckon_189 (Nat.le_of_ble_eq_true rfl) ?_
                      refine a_iload (pc := 191) dX3_reckon_191 rfl ?_
                      refine a_if_eq (pc := 193) 210 dX3_reckon_193 rfl ⟨fun hc => absurd hc (by decide), fun _ => ?_⟩
                      refine a_iload (pc := 196) dX3_reckon_196 rfl ?_
                      refine a_iload (pc := 198) dX3_reckon_198 rfl ?_
                      refine a_iconst (pc := 200) dX3_reckon_200 (cnb rfl) ?_
                      refine a_isub (pc := 201) dX3_reckon_201 h.1 ?_
                      replace h := h.2
                      refine a_mmax (pc := 202) dX3_reckon_202 ml_X3_63 mt_st_max mt_ini mt_cd_max ⟨Nat.le_of_ble_eq_true rfl, Nat.le_of_ble_eq_true rfl⟩ ⟨Nat.le_of_ble_eq_true rfl, Nat.le_of_ble_eq_true rfl⟩ (Nat.le_of_ble_eq_true rfl) ?_
                      refine a_istore (pc := 205) dX3_reckon_205 (Nat.le_of_ble_eq_true rfl) ?_
                      refine a_goto (pc := 207) 220 dX3_reckon_207 rfl ?_
                      refine a_goto (pc := 220) 262 dX3_reckon_220 rfl ?_
                      refine a_iinc (pc := 262) dX3_reckon_262 rfl h.1 (Nat.le_of_ble_eq_true rfl) ?_
                      replace h := h.2
                      refine a_goto (pc := 265) 18 dX3_reckon_265 rfl ?_
                      exact Go.weak h (And.intro rfl (And.intro rfl (And.intro rfl (And.intro rfl (And.intro rfl True.intro)))))
            · replace h := h.2 hc
              refine a_aload_n (pc := 116) dX3_reckon_116 rfl ?_
              refine a_getr (pc := 117) dX3_reckon_117 f_X3_25 rfl ?_
              refine a_iload (pc := 120) dX3_reckon_120 rfl ?_
              refine a_iconst (pc := 122) dX3_reckon_122 (cnb rfl) ?_
              refine a_aload_n (pc := 123) dX3_reckon_123 rfl ?_
              refine a_getr (pc := 124) dX3_reckon_124 f_X3_25 rfl ?_
              refine a_iload (pc := 127) dX3_reckon_127 rfl ?_
              refine a_iald (pc := 129) dX3_reckon_129 rfl h.1.1 h.1.2  ?_
              replace h := h.2
              refine a_isub (pc := 130) dX3_reckon_130 h.1 ?_
              replace h := h.2
              refine a_iast (pc := 131) dX3_reckon_131 rfl h.1.1 h.1.2 ?_
              replace h := h.2
              refine a_goto (pc := 132) 262 dX3_reckon_132 rfl ?_
              refine a_iinc (pc := 262) dX3_reckon_262 rfl h.1 (Nat.le_of_ble_eq_true rfl) ?_
              replace h := h.2
              refine a_goto (pc := 265) 18 dX3_reckon_265 rfl ?_
              exact Go.weak h (And.intro rfl (And.intro rfl (And.intro rfl (And.intro rfl (And.intro rfl True.intro)))))
          · replace h := h.2 hc
            refine a_iload (pc := 80) dX3_reckon_80 rfl ?_
            refine a_iconst (pc := 82) dX3_reckon_82 (cnb rfl) ?_
            refine a_iadd (pc := 83) dX3_reckon_83 h.1 ?_
            replace h := h.2
            refine a_bipush (pc := 84) dX3_reckon_84 (by decide) (cnb rfl) ?_
            refine a_mmin (pc := 86) dX3_reckon_86 ml_X3_57 mt_st_min mt_ini mt_cd_min ⟨Nat.le_of_ble_eq_true rfl, Nat.le_of_ble_eq_true rfl⟩ ⟨Nat.le_of_ble_eq_true rfl, Nat.le_of_ble_eq_true rfl⟩ (Nat.le_of_ble_eq_true rfl) ?_
            refine a_istore (pc := 89) dX3_reckon_89 (Nat.le_of_ble_eq_true rfl) ?_
            refine a_aload_n (pc := 91) dX3_reckon_91 rfl ?_
            refine a_getr (pc := 92) dX3_reckon_92 f_X3_25 rfl ?_
            refine a_iload (pc := 95) dX3_reckon_95 rfl ?_
            refine a_iload (pc := 97) dX3_reckon_97 rfl ?_
            refine a_iload (pc := 99) dX3_reckon_99 rfl ?_
            refine a_aload_n (pc := 101) dX3_reckon_101 rfl ?_
            refine a_callSi (pc := 102) (d := 0) (st := [.inl (min (x4 + 1) 63), .inr 28]) [.inl (band (M 27 x5) 255), .inl (bshr (M 27 x5) 8), .inr 56] dX3_reckon_102 l_X3_66 st_X3_operand rfl ⟨Nat.le_of_ble_eq_true rfl, Nat.le_of_ble_eq_true rfl⟩ ⟨Nat.le_of_ble_eq_true rfl, Nat.le_of_ble_eq_true rfl⟩ (Nat.le_of_ble_eq_true rfl) ?_
            refine Calls.mono (fun r102 M102 hr102 hM102 h => ?_) h
            refine a_iast (pc := 105) dX3_reckon_105 rfl h.1.1 h.1.2 ?_
            replace h := h.2
            refine a_goto (pc := 106) 262 dX3_reckon_106 rfl ?_
            refine a_iinc (pc := 262) dX3_reckon_262 rfl h.1 (Nat.le_of_ble_eq_true rfl) ?_
            replace h := h.2
            refine a_goto (pc := 265) 18 dX3_reckon_265 rfl ?_
            exact Go.weak h (And.intro rfl (And.intro rfl (And.intro rfl (And.intro rfl (And.intro rfl True.intro)))))
set_option maxRecDepth 20000 in
theorem s_X3_holds_0 {Q : Int → Me → Prop}  (a : Int) (M : Me) (h :
    (0 ≤ a ∧ a < 16) ∧
    (0 ≤ a ∧ a < 16) ∧
    Calls 1 mX3_reckon [.inr 22, .inl (M 25 a), .inl (M 26 a), .inr 56] M (fun r14 M14 =>
    ((r14 = 0 →
    Q 0 M14) ∧ (r14 ≠ 0 →
    Q 1 M14)))) :
    Go (km 2 mX3_holds Q) 0 [some (.inr 22), some (.inl a), some (.inr 56)] [] M := by
  refine a_aload_n (pc := 0) dX3_holds_0 rfl ?_
  refine a_aload_n (pc := 1) dX3_holds_1 rfl ?_
  refine a_getr (pc := 2) dX3_holds_2 f_X3_16 rfl ?_
  refine a_iload_n (pc := 5) dX3_holds_5 rfl ?_
  refine a_iald (pc := 6) dX3_holds_6 rfl h.1.1 h.1.2  ?_
  replace h := h.2
  refine a_aload_n (pc := 7) dX3_holds_7 rfl ?_
  refine a_getr (pc := 8) dX3_holds_8 f_X3_19 rfl ?_
  refine a_iload_n (pc := 11) dX3_holds_11 rfl ?_
  refine a_iald (pc := 12) dX3_holds_12 rfl h.1.1 h.1.2  ?_
  replace h := h.2
  refine a_aload_n (pc := 13) dX3_holds_13 rfl ?_
  refine a_callVi (pc := 14) (d := 1) (st := []) (o := 22) [.inl (M 25 a), .inl (M 26 a), .inr 56] dX3_holds_14 l_X3_53 in_X3_reckon se_X3_reckon rfl rfl rfl ⟨Nat.le_of_ble_eq_true rfl, Nat.le_of_ble_eq_true rfl⟩ ⟨Nat.le_of_ble_eq_true rfl, Nat.le_of_ble_eq_true rfl⟩ (Nat.le_of_ble_eq_true rfl) ?_
  refine Calls.mono (fun r14 M14 hr14 hM14 h => ?_) h
  refine a_if_eq (pc := 17) 24 dX3_holds_17 rfl ⟨fun hc => ?_, fun hc => ?_⟩
  · replace h := h.1 hc
    refine a_iconst (pc := 24) dX3_holds_24 (cnb rfl) ?_
    exact a_iretZ (pc := 25) dX3_holds_25 rfl (by decide) h
  · replace h := h.2 hc
    refine a_iconst (pc := 20) dX3_holds_20 (cnb rfl) ?_
    refine a_goto (pc := 21) 25 dX3_holds_21 rfl ?_
    exact a_iretZ (pc := 25) dX3_holds_25 rfl (by decide) h
set_option maxRecDepth 20000 in
theorem e_X3_holds {Q : Int → Me → Prop}  {a : Int} {M : Me} (h :
    (0 ≤ a ∧ a < 16) ∧
    (0 ≤ a ∧ a < 16) ∧
    Calls 1 mX3_reckon [.inr 22, .inl (M 25 a), .inl (M 26 a), .inr 56] M (fun r14 M14 =>
    ((r14 = 0 →
    Q 0 M14) ∧ (r14 ≠ 0 →
    Q 1 M14)))) : Calls 2 mX3_holds [.inr 22, .inl a, .inr 56] M Q := Calls.of (by decide) (Nat.le_of_ble_eq_true rfl) (s_X3_holds_0  a M h)
set_option maxRecDepth 20000 in
theorem s_X3_fells_0 {Q : Int → Me → Prop}  (M : Me) (h :
    Go (km 3 mX3_fells Q) 2 [some (.inr 22), some (.inr 56), some (.inl 0)] [] M) :
    Go (km 3 mX3_fells Q) 0 [some (.inr 22), some (.inr 56), none] [] M := by
  refine a_iconst (pc := 0) dX3_fells_0 (cnb rfl) ?_
  refine a_istore_n (pc := 1) dX3_fells_1 (Nat.le_of_ble_eq_true rfl) ?_
  exact h
set_option maxRecDepth 20000 in
theorem e_X3_fells {Q : Int → Me → Prop}  {M : Me} (h :
    Go (km 3 mX3_fells Q) 2 [some (.inr 22), some (.inr 56), some (.inl 0)] [] M) : Calls 3 mX3_fells [.inr 22, .inr 56] M Q := Calls.of (by decide) (Nat.le_of_ble_eq_true rfl) (s_X3_fells_0   M h)
set_option maxRecDepth 20000 in
theorem s_X3_fells_2 {Q : Int → Me → Prop}  (x2 : Int) (M : Me) (h :
    ((M 22 6 ≤ x2 →
    Q 0 M) ∧ (x2 < M 22 6 →
    (0 ≤ x2 ∧ x2 < 16) ∧
    ((M 23 x2 ≠ 120 →
    cn (x2 + 1) ∧
    Go (km 3 mX3_fells Q) 2 [some (.inr 22), some (.inr 56), some (.inl (x2 + 1))] [] M) ∧ (M 23 x2 = 120 →
    Calls 2 mX3_holds [.inr 22, .inl x2, .inr 56] M (fun r24 M24 =>
    ((r24 = 0 →
    cn (x2 + 1) ∧
    Go (km 3 mX3_fells Q) 2 [some (.inr 22), some (.inr 56), some (.inl (x2 + 1))] [] M24) ∧ (r24 ≠ 0 →
    Q 1 M24)))))))) :
    Go (km 3 mX3_fells Q) 2 [some (.inr 22), some (.inr 56), some (.inl x2)] [] M := by
  refine a_iload_n (pc := 2) dX3_fells_2 rfl ?_
  refine a_aload_n (pc := 3) dX3_fells_3 rfl ?_
  refine a_geti (pc := 4) 6 dX3_fells_4 f_X3_28 rfl rfl ?_
  refine a_icmp_ge (pc := 7) 38 dX3_fells_7 rfl ⟨fun hc => ?_, fun hc => ?_⟩
  · replace h := h.1 hc
    refine a_iconst (pc := 38) dX3_fells_38 (cnb rfl) ?_
    exact a_iretZ (pc := 39) dX3_fells_39 rfl (by decide) h
  · replace h := h.2 hc
    refine a_aload_n (pc := 10) dX3_fells_10 rfl ?_
    refine a_getr (pc := 11) dX3_fells_11 f_X3_9 rfl ?_
    refine a_iload_n (pc := 14) dX3_fells_14 rfl ?_
    refine a_iald (pc := 15) dX3_fells_15 rfl h.1.1 h.1.2  ?_
    replace h := h.2
    refine a_bipush (pc := 16) dX3_fells_16 (by decide) (cnb rfl) ?_
    refine a_icmp_ne (pc := 18) 32 dX3_fells_18 rfl ⟨fun hc => ?_, fun hc => ?_⟩
    · replace h := h.1 hc
      refine a_iinc (pc := 32) dX3_fells_32 rfl h.1 (Nat.le_of_ble_eq_true rfl) ?_
      replace h := h.2
      refine a_goto (pc := 35) 2 dX3_fells_35 rfl ?_
      exact h
    · replace h := h.2 hc
      refine a_aload_n (pc := 21) dX3_fells_21 rfl ?_
      refine a_iload_n (pc := 22) dX3_fells_22 rfl ?_
      refine a_aload_n (pc := 23) dX3_fells_23 rfl ?_
      refine a_callVi (pc := 24) (d := 2) (st := []) (o := 22) [.inl x2, .inr 56] dX3_fells_24 l_X3_49 in_X3_holds se_X3_holds rfl rfl rfl ⟨Nat.le_of_ble_eq_true rfl, Nat.le_of_ble_eq_true rfl⟩ ⟨Nat.le_of_ble_eq_true rfl, Nat.le_of_ble_eq_true rfl⟩ (Nat.le_of_ble_eq_true rfl) ?_
      refine Calls.mono (fun r24 M24 hr24 hM24 h => ?_) h
      refine a_if_eq (pc := 27) 32 dX3_fells_27 rfl ⟨fun hc => ?_, fun hc => ?_⟩
      · replace h := h.1 hc
        refine a_iinc (pc := 32) dX3_fells_32 rfl h.1 (Nat.le_of_ble_eq_true rfl) ?_
        replace h := h.2
        refine a_goto (pc := 35) 2 dX3_fells_35 rfl ?_
        exact h
      · replace h := h.2 hc
        refine a_iconst (pc := 30) dX3_fells_30 (cnb rfl) ?_
        exact a_iretZ (pc := 31) dX3_fells_31 rfl (by decide) h
set_option maxRecDepth 20000 in
theorem s_X3_worthOf_0 {Q : Int → Me → Prop}  (a b c : Int) (M : Me) (h :
    Go (km 3 mX3_worthOf Q) 3 [some (.inr 22), some (.inl a), some (.inl b), some (.inl c), some (.inr 56), some (.inl 0), none] [] M) :
    Go (km 3 mX3_worthOf Q) 0 [some (.inr 22), some (.inl a), some (.inl b), some (.inl c), some (.inr 56), none, none] [] M := by
  refine a_iconst (pc := 0) dX3_worthOf_0 (cnb rfl) ?_
  refine a_istore (pc := 1) dX3_worthOf_1 (Nat.le_of_ble_eq_true rfl) ?_
  exact h
set_option maxRecDepth 20000 in
theorem e_X3_worthOf {Q : Int → Me → Prop}  {a b c : Int} {M : Me} (h :
    Go (km 3 mX3_worthOf Q) 3 [some (.inr 22), some (.inl a), some (.inl b), some (.inl c), some (.inr 56), some (.inl 0), none] [] M) : Calls 3 mX3_worthOf [.inr 22, .inl a, .inl b, .inl c, .inr 56] M Q := Calls.of (by decide) (Nat.le_of_ble_eq_true rfl) (s_X3_worthOf_0  a b c M h)
set_option maxRecDepth 20000 in
theorem s_X3_worthOf_3 {Q : Int → Me → Prop}  (x1 x2 x3 x5 : Int) (M : Me) (h :
    ((M 22 6 ≤ x5 →
    Q x2 M) ∧ (x5 < M 22 6 →
    (0 ≤ x5 ∧ x5 < 16) ∧
    ((M 23 x5 ≠ x1 →
    cn (x5 + 1) ∧
    Go (km 3 mX3_worthOf Q) 3 [some (.inr 22), some (.inl x1), some (.inl x2), some (.inl x3), some (.inr 56), some (.inl (x5 + 1)), none] [] M) ∧ (M 23 x5 = x1 →
    Calls 2 mX3_holds [.inr 22, .inl x5, .inr 56] M (fun r28 M28 =>
    ((r28 = 0 →
    cn (x5 + 1) ∧
    Go (km 3 mX3_worthOf Q) 3 [some (.inr 22), some (.inl x1), some (.inl x2), some (.inl x3), some (.inr 56), some (.inl (x5 + 1)), none] [] M28) ∧ (r28 ≠ 0 →
    (0 ≤ x5 ∧ x5 < 16) ∧
    (0 ≤ x5 ∧ x5 < 16) ∧
    Calls 1 mX3_reckon [.inr 22, .inl (M28 24 x5), .inl (M28 25 x5), .inr 56] M28 (fun r51 M51 =>
    Q (max 0 (min x3 r51)) M51))))))))) :
    Go (km 3 mX3_worthOf Q) 3 [some (.inr 22), some (.inl x1), some (.inl x2), some (.inl x3), some (.inr 56), some (.inl x5), none] [] M := by
  refine a_iload (pc := 3) dX3_worthOf_3 rfl ?_
  refine a_aload_n (pc := 5) dX3_worthOf_5 rfl ?_
  refine a_geti (pc := 6) 6 dX3_worthOf_6 f_X3_28 rfl rfl ?_
  refine a_icmp_ge (pc := 9) 73 dX3_worthOf_9 rfl ⟨fun hc => ?_, fun hc => ?_⟩
  · replace h := h.1 hc
    refine a_iload_n (pc := 73) dX3_worthOf_73 rfl ?_
    exact a_iretI (pc := 74) dX3_worthOf_74 rfl h
  · replace h := h.2 hc
    refine a_aload_n (pc := 12) dX3_worthOf_12 rfl ?_
    refine a_getr (pc := 13) dX3_worthOf_13 f_X3_9 rfl ?_
    refine a_iload (pc := 16) dX3_worthOf_16 rfl ?_
    refine a_iald (pc := 18) dX3_worthOf_18 rfl h.1.1 h.1.2  ?_
    replace h := h.2
    refine a_iload_n (pc := 19) dX3_worthOf_19 rfl ?_
    refine a_icmp_ne (pc := 20) 67 dX3_worthOf_20 rfl ⟨fun hc => ?_, fun hc => ?_⟩
    · replace h := h.1 hc
      refine a_iinc (pc := 67) dX3_worthOf_67 rfl h.1 (Nat.le_of_ble_eq_true rfl) ?_
      replace h := h.2
      refine a_goto (pc := 70) 3 dX3_worthOf_70 rfl ?_
      exact h
    · replace h := h.2 hc
      refine a_aload_n (pc := 23) dX3_worthOf_23 rfl ?_
      refine a_iload (pc := 24) dX3_worthOf_24 rfl ?_
      refine a_aload (pc := 26) dX3_worthOf_26 rfl ?_
      refine a_callVi (pc := 28) (d := 2) (st := []) (o := 22) [.inl x5, .inr 56] dX3_worthOf_28 l_X3_49 in_X3_holds se_X3_holds rfl rfl rfl ⟨Nat.le_of_ble_eq_true rfl, Nat.le_of_ble_eq_true rfl⟩ ⟨Nat.le_of_ble_eq_true rfl, Nat.le_of_ble_eq_true rfl⟩ (Nat.le_of_ble_eq_true rfl) ?_
      refine Calls.mono (fun r28 M28 hr28 hM28 h => ?_) h
      refine a_if_eq (pc := 31) 67 dX3_worthOf_31 rfl ⟨fun hc => ?_, fun hc => ?_⟩
      · replace h := h.1 hc
        refine a_iinc (pc := 67) dX3_worthOf_67 rfl h.1 (Nat.le_of_ble_eq_true rfl) ?_
        replace h := h.2
        refine a_goto (pc := 70) 3 dX3_worthOf_70 rfl ?_
        exact h
      · replace h := h.2 hc
        refine a_aload_n (pc := 34) dX3_worthOf_34 rfl ?_
        refine a_aload_n (pc := 35) dX3_worthOf_35 rfl ?_
        refine a_getr (pc := 36) dX3_worthOf_36 f_X3_13 rfl ?_
        refine a_iload (pc := 39) dX3_worthOf_39 rfl ?_
        refine a_iald (pc := 41) dX3_worthOf_41 rfl h.1.1 h.1.2  ?_
        replace h := h.2
        refine a_aload_n (pc := 42) dX3_worthOf_42 rfl ?_
        refine a_getr (pc := 43) dX3_worthOf_43 f_X3_16 rfl ?_
        refine a_iload (pc := 46) dX3_worthOf_46 rfl ?_
        refine a_iald (pc := 48) dX3_worthOf_48 rfl h.1.1 h.1.2  ?_
        replace h := h.2
        refine a_aload (pc := 49) dX3_worthOf_49 rfl ?_
        refine a_callVi (pc := 51) (d := 1) (st := []) (o := 22) [.inl (M28 24 x5), .inl (M28 25 x5), .inr 56] dX3_worthOf_51 l_X3_53 in_X3_reckon se_X3_reckon rfl rfl rfl ⟨Nat.le_of_ble_eq_true rfl, Nat.le_of_ble_eq_true rfl⟩ ⟨Nat.le_of_ble_eq_true rfl, Nat.le_of_ble_eq_true rfl⟩ (Nat.le_of_ble_eq_true rfl) ?_
        refine Calls.mono (fun r51 M51 hr51 hM51 h => ?_) h
        refine a_istore (pc := 54) dX3_worthOf_54 (Nat.le_of_ble_eq_true rfl) ?_
        refine a_iconst (pc := 56) dX3_worthOf_56 (cnb rfl) ?_
        refine a_iload_n (pc := 57) dX3_worthOf_57 rfl ?_
        refine a_iload (pc := 58) dX3_worthOf_58 rfl ?_
        refine a_mmin (pc := 60) dX3_worthOf_60 ml_X3_57 mt_st_min mt_ini mt_cd_min ⟨Nat.le_of_ble_eq_true rfl, Nat.le_of_ble_eq_true rfl⟩ ⟨Nat.le_of_ble_eq_true rfl, Nat.le_of_ble_eq_true rfl⟩ (Nat.le_of_ble_eq_true rfl) ?_
        refine a_mmax (pc := 63) dX3_worthOf_63 ml_X3_63 mt_st_max mt_ini mt_cd_max ⟨Nat.le_of_ble_eq_true rfl, Nat.le_of_ble_eq_true rfl⟩ ⟨Nat.le_of_ble_eq_true rfl, Nat.le_of_ble_eq_true rfl⟩ (Nat.le_of_ble_eq_true rfl) ?_
        exact a_iretI (pc := 66) dX3_worthOf_66 rfl h
set_option maxRecDepth 20000 in
theorem s_X12_reckon_0 {Q : Int → Me → Prop}  (a b c : Int) (M : Me) (h :
    ((a < 2 ∨ 8 < a →
    ((b ≠ c →
    Q 0 M) ∧ (b = c →
    Q 1 M))) ∧
    ((a = 2 →
    Q (wr (b + c)) M) ∧
    ((a = 3 →
    Q (wr (b - c)) M) ∧
    ((a = 4 →
    Q (wr (b * c)) M) ∧
    ((a = 5 →
    c ≠ 0 ∧
    Q (bdiv b c) M) ∧
    ((a = 6 →
    c ≠ 0 ∧
    Q (brem b c) M) ∧
    ((a = 7 →
    ((c ≤ b →
    Q 0 M) ∧ (b < c →
    Q 1 M))) ∧
    (a = 8 →
    ((b ≤ c →
    Q 0 M) ∧ (c < b →
    Q 1 M))))))))))) :
    Go (km 0 mX12_reckon Q) 0 [some (.inl a), some (.inl b), some (.inl c)] [] M := by
  refine a_iload_n (pc := 0) dX12_reckon_0 rfl ?_
  by_cases ho_1 : a < 2 ∨ 8 < a
  · replace h := h.1 ho_1
    refine a_tableOut 86 dX12_reckon_1 ho_1 rfl ?_
    refine a_iload_n (pc := 86) dX12_reckon_86 rfl ?_
    refine a_iload_n (pc := 87) dX12_reckon_87 rfl ?_
    refine a_icmp_ne (pc := 88) 95 dX12_reckon_88 rfl ⟨fun hc => ?_, fun hc => ?_⟩
    · replace h := h.1 hc
      refine a_iconst (pc := 95) dX12_reckon_95 (cnb rfl) ?_
      exact a_iretI (pc := 96) dX12_reckon_96 rfl h
    · replace h := h.2 hc
      refine a_iconst (pc := 91) dX12_reckon_91 (cnb rfl) ?_
      refine a_goto (pc := 92) 96 dX12_reckon_92 rfl ?_
      exact a_iretI (pc := 96) dX12_reckon_96 rfl h
  · replace h := h.2
    by_cases he_1_0 : a = 2
    · replace h := h.1 he_1_0
      refine a_tableIn 44 dX12_reckon_1 (by omega) (by omega) (off := 43) (by rw [he_1_0]; rfl) rfl ?_
      refine a_iload_n (pc := 44) dX12_reckon_44 rfl ?_
      refine a_iload_n (pc := 45) dX12_reckon_45 rfl ?_
      refine a_iaddw (pc := 46) dX12_reckon_46 ?_
      exact a_iretI (pc := 47) dX12_reckon_47 rfl h
    replace h := h.2
    by_cases he_1_1 : a = 3
    · replace h := h.1 he_1_1
      refine a_tableIn 48 dX12_reckon_1 (by omega) (by omega) (off := 47) (by rw [he_1_1]; rfl) rfl ?_
      refine a_iload_n (pc := 48) dX12_reckon_48 rfl ?_
      refine a_iload_n (pc := 49) dX12_reckon_49 rfl ?_
      refine a_isubw (pc := 50) dX12_reckon_50 ?_
      exact a_iretI (pc := 51) dX12_reckon_51 rfl h
    replace h := h.2
    by_cases he_1_2 : a = 4
    · replace h := h.1 he_1_2
      refine a_tableIn 52 dX12_reckon_1 (by omega) (by omega) (off := 51) (by rw [he_1_2]; rfl) rfl ?_
      refine a_iload_n (pc := 52) dX12_reckon_52 rfl ?_
      refine a_iload_n (pc := 53) dX12_reckon_53 rfl ?_
      refine a_imulw (pc := 54) dX12_reckon_54 ?_
      exact a_iretI (pc := 55) dX12_reckon_55 rfl h
    replace h := h.2
    by_cases he_1_3 : a = 5
    · replace h := h.1 he_1_3
      refine a_tableIn 56 dX12_reckon_1 (by omega) (by omega) (off := 55) (by rw [he_1_3]; rfl) rfl ?_
      refine a_iload_n (pc := 56) dX12_reckon_56 rfl ?_
      refine a_iload_n (pc := 57) dX12_reckon_57 rfl ?_
      refine a_idiv (pc := 58) dX12_reckon_58 h.1 ?_
      replace h := h.2
      exact a_iretI (pc := 59) dX12_reckon_59 rfl h
    replace h := h.2
    by_cases he_1_4 : a = 6
    · replace h := h.1 he_1_4
      refine a_tableIn 60 dX12_reckon_1 (by omega) (by omega) (off := 59) (by rw [he_1_4]; rfl) rfl ?_
      refine a_iload_n (pc := 60) dX12_reckon_60 rfl ?_
      refine a_iload_n (pc := 61) dX12_reckon_61 rfl ?_
      refine a_irem (pc := 62) dX12_reckon_62 h.1 ?_
      replace h := h.2
      exact a_iretI (pc := 63) dX12_reckon_63 rfl h
    replace h := h.2
    by_cases he_1_5 : a = 7
    · replace h := h.1 he_1_5
      refine a_tableIn 64 dX12_reckon_1 (by omega) (by omega) (off := 63) (by rw [he_1_5]; rfl) rfl ?_
      refine a_iload_n (pc := 64) dX12_reckon_64 rfl ?_
      refine a_iload_n (pc := 65) dX12_reckon_65 rfl ?_
      refine a_icmp_ge (pc := 66) 73 dX12_reckon_66 rfl ⟨fun hc => ?_, fun hc => ?_⟩
      · replace h := h.1 hc
        refine a_iconst (pc := 73) dX12_reckon_73 (cnb rfl) ?_
        exact a_iretI (pc := 74) dX12_reckon_74 rfl h
      · replace h := h.2 hc
        refine a_iconst (pc := 69) dX12_reckon_69 (cnb rfl) ?_
        refine a_goto (pc := 70) 74 dX12_reckon_70 rfl ?_
        exact a_iretI (pc := 74) dX12_reckon_74 rfl h
    replace h := h.2
    by_cases he_1_6 : a = 8
    · replace h := h he_1_6
      refine a_tableIn 75 dX12_reckon_1 (by omega) (by omega) (off := 74) (by rw [he_1_6]; rfl) rfl ?_
      refine a_iload_n (pc := 75) dX12_reckon_75 rfl ?_
      refine a_iload_n (pc := 76) dX12_reckon_76 rfl ?_
      refine a_icmp_le (pc := 77) 84 dX12_reckon_77 rfl ⟨fun hc => ?_, fun hc => ?_⟩
      · replace h := h.1 hc
        refine a_iconst (pc := 84) dX12_reckon_84 (cnb rfl) ?_
        exact a_iretI (pc := 85) dX12_reckon_85 rfl h
      · replace h := h.2 hc
        refine a_iconst (pc := 80) dX12_reckon_80 (cnb rfl) ?_
        refine a_goto (pc := 81) 85 dX12_reckon_81 rfl ?_
        exact a_iretI (pc := 85) dX12_reckon_85 rfl h
    exfalso; omega
set_option maxRecDepth 20000 in
theorem e_X12_reckon {Q : Int → Me → Prop}  {a b c : Int} {M : Me} (h :
    ((a < 2 ∨ 8 < a →
    ((b ≠ c →
    Q 0 M) ∧ (b = c →
    Q 1 M))) ∧
    ((a = 2 →
    Q (wr (b + c)) M) ∧
    ((a = 3 →
    Q (wr (b - c)) M) ∧
    ((a = 4 →
    Q (wr (b * c)) M) ∧
    ((a = 5 →
    c ≠ 0 ∧
    Q (bdiv b c) M) ∧
    ((a = 6 →
    c ≠ 0 ∧
    Q (brem b c) M) ∧
    ((a = 7 →
    ((c ≤ b →
    Q 0 M) ∧ (b < c →
    Q 1 M))) ∧
    (a = 8 →
    ((b ≤ c →
    Q 0 M) ∧ (c < b →
    Q 1 M))))))))))) : Calls 0 mX12_reckon [.inl a, .inl b, .inl c] M Q := Calls.of (by decide) (Nat.le_of_ble_eq_true rfl) (s_X12_reckon_0  a b c M h)
set_option maxRecDepth 20000 in
theorem s_X12_reckonsTo_0 {Q : Int → Me → Prop}  (a b : Int) (M : Me) (h :
    0 ≤ a ∧
    cn (260 * (a / 260)) ∧
    Go (km 1 mX12_reckonsTo Q) 16 [some (.inr 76), none, some (.inl b), some (.inl 0), some (.inl (260 * (a / 260))), some (.inl a), none, none] [] M) :
    Go (km 1 mX12_reckonsTo Q) 0 [some (.inr 76), some (.inl a), some (.inl b), none, none, none, none, none] [] M := by
  refine a_iconst (pc := 0) dX12_reckonsTo_0 (cnb rfl) ?_
  refine a_istore_n (pc := 1) dX12_reckonsTo_1 (Nat.le_of_ble_eq_true rfl) ?_
  refine a_sipush (pc := 2) dX12_reckonsTo_2 (by decide) (cnb rfl) ?_
  refine a_iload_n (pc := 5) dX12_reckonsTo_5 rfl ?_
  refine a_sipush (pc := 6) dX12_reckonsTo_6 (by decide) (cnb rfl) ?_
  refine a_idivn (pc := 9) dX12_reckonsTo_9 (by decide) h.1 ?_
  replace h := h.2
  refine a_imul (pc := 10) dX12_reckonsTo_10 h.1 ?_
  replace h := h.2
  refine a_istore (pc := 11) dX12_reckonsTo_11 (Nat.le_of_ble_eq_true rfl) ?_
  refine a_iload_n (pc := 13) dX12_reckonsTo_13 rfl ?_
  refine a_istore (pc := 14) dX12_reckonsTo_14 (Nat.le_of_ble_eq_true rfl) ?_
  exact Go.weak h (And.intro rfl (And.intro rfl (And.intro rfl (And.intro rfl (And.intro rfl True.intro)))))
set_option maxRecDepth 20000 in
theorem e_X12_reckonsTo {Q : Int → Me → Prop}  {a b : Int} {M : Me} (h :
    0 ≤ a ∧
    cn (260 * (a / 260)) ∧
    Go (km 1 mX12_reckonsTo Q) 16 [some (.inr 76), none, some (.inl b), some (.inl 0), some (.inl (260 * (a / 260))), some (.inl a), none, none] [] M) : Calls 1 mX12_reckonsTo [.inr 76, .inl a, .inl b] M Q := Calls.of (by decide) (Nat.le_of_ble_eq_true rfl) (s_X12_reckonsTo_0  a b M h)
set_option maxRecDepth 20000 in
theorem s_X12_reckonsTo_16 {Q : Int → Me → Prop}  (x2 x3 x4 x5 : Int) (M : Me) (h :
    ((x2 ≤ x5 →
    Q (M 100 0) M) ∧ (x5 < x2 →
    (0 ≤ x5 ∧ x5 < 260) ∧
    0 ≤ (M 95 x5) ∧
    (0 ≤ x5 ∧ x5 < 260) ∧
    0 ≤ (M 95 x5) ∧
    cn (x5 + 1) ∧
    (((M 95 x5) / 1048576 = 0 →
    (((M 95 x5) / 1048576 ≠ 0 →
    (0 ≤ (M 95 x5) % 1048576 ∧ (M 95 x5) % 1048576 < 11) ∧
    (0 ≤ x3 ∧ x3 < 260) ∧
    cn (x3 + 1) ∧
    Go (km 1 mX12_reckonsTo Q) 16 [some (.inr 76), none, some (.inl x2), some (.inl (x3 + 1)), some (.inl x4), some (.inl (x5 + 1)), none, none] [] (mput M 100 x3 (M 101 ((M 95 x5) % 1048576)))) ∧ ((M 95 x5) / 1048576 = 0 →
    (0 ≤ x3 ∧ x3 < 260) ∧
    cn (x3 + 1) ∧
    Go (km 1 mX12_reckonsTo Q) 16 [some (.inr 76), none, some (.inl x2), some (.inl (x3 + 1)), some (.inl x4), some (.inl (x5 + 1)), none, none] [] (mput M 100 x3 ((M 95 x5) % 1048576))))) ∧ ((M 95 x5) / 1048576 ≠ 0 →
    (((M 95 x5) / 1048576 ≠ 1 →
    (((M 95 x5) / 1048576 ≠ 10 →
    (((M 95 x5) / 1048576 = 11 →
    cn (x3 - 1) ∧
    (0 ≤ x3 - 1 ∧ x3 - 1 < 260) ∧
    (((M 95 x5) / 1048576 ≠ 12 →
    ((M 100 (x3 - 1) ≠ 0 →
    cn (x3 - 1) ∧
    Go (km 1 mX12_reckonsTo Q) 16 [some (.inr 76), none, some (.inl x2), some (.inl (x3 - 1)), some (.inl x4), some (.inl (x5 + 1)), none, none] [] M) ∧ (M 100 (x3 - 1) = 0 →
    cn (x4 + ((M 95 x5) % 1048576)) ∧
    Go (km 1 mX12_reckonsTo Q) 16 [some (.inr 76), none, some (.inl x2), some (.inl x3), some (.inl x4), some (.inl (x4 + ((M 95 x5) % 1048576))), none, none] [] M))) ∧ ((M 95 x5) / 1048576 = 12 →
    ((M 100 (x3 - 1) ≠ 1 →
    cn (x3 - 1) ∧
    Go (km 1 mX12_reckonsTo Q) 16 [some (.inr 76), none, some (.inl x2), some (.inl (x3 - 1)), some (.inl x4), some (.inl (x5 + 1)), none, none] [] M) ∧ (M 100 (x3 - 1) = 1 →
    cn (x4 + ((M 95 x5) % 1048576)) ∧
    Go (km 1 mX12_reckonsTo Q) 16 [some (.inr 76), none, some (.inl x2), some (.inl x3), some (.inl x4), some (.inl (x4 + ((M 95 x5) % 1048576))), none, none] [] M))))) ∧ ((M 95 x5) / 1048576 ≠ 11 →
    (((M 95 x5) / 1048576 ≠ 12 →
    cn (x3 - 1) ∧
    (((M 95 x5) / 1048576 = 5 →
    (0 ≤ x3 - 1 ∧ x3 - 1 < 260) ∧
    ((M 100 (x3 - 1) ≠ 0 →
    cn ((x3 - 1) - 1) ∧
    cn ((x3 - 1) - 1) ∧
    (0 ≤ (x3 - 1) - 1 ∧ (x3 - 1) - 1 < 260) ∧
    (0 ≤ x3 - 1 ∧ x3 - 1 < 260) ∧
    Calls 0 mX12_reckon [.inl ((M 95 x5) / 1048576), .inl (M 100 ((x3 - 1) - 1)), .inl (M 100 (x3 - 1))] M (fun r226 M226 =>
    (0 ≤ (x3 - 1) - 1 ∧ (x3 - 1) - 1 < 260) ∧
    Go (km 1 mX12_reckonsTo Q) 16 [some (.inr 76), none, some (.inl x2), some (.inl (x3 - 1)), some (.inl x4), some (.inl (x5 + 1)), none, none] [] (mput M226 100 ((x3 - 1) - 1) r226))) ∧ (M 100 (x3 - 1) = 0 →
    Q 0 M))) ∧ ((M 95 x5) / 1048576 ≠ 5 →
    (((M 95 x5) / 1048576 ≠ 6 →
    cn ((x3 - 1) - 1) ∧
    cn ((x3 - 1) - 1) ∧
    (0 ≤ (x3 - 1) - 1 ∧ (x3 - 1) - 1 < 260) ∧
    (0 ≤ x3 - 1 ∧ x3 - 1 < 260) ∧
    Calls 0 mX12_reckon [.inl ((M 95 x5) / 1048576), .inl (M 100 ((x3 - 1) - 1)), .inl (M 100 (x3 - 1))] M (fun r226 M226 =>
    (0 ≤ (x3 - 1) - 1 ∧ (x3 - 1) - 1 < 260) ∧
    Go (km 1 mX12_reckonsTo Q) 16 [some (.inr 76), none, some (.inl x2), some (.inl (x3 - 1)), some (.inl x4), some (.inl (x5 + 1)), none, none] [] (mput M226 100 ((x3 - 1) - 1) r226))) ∧ ((M 95 x5) / 1048576 = 6 →
    (0 ≤ x3 - 1 ∧ x3 - 1 < 260) ∧
    ((M 100 (x3 - 1) ≠ 0 →
    cn ((x3 - 1) - 1) ∧
    cn ((x3 - 1) - 1) ∧
    (0 ≤ (x3 - 1) - 1 ∧ (x3 - 1) - 1 < 260) ∧
    (0 ≤ x3 - 1 ∧ x3 - 1 < 260) ∧
    Calls 0 mX12_reckon [.inl ((M 95 x5) / 1048576), .inl (M 100 ((x3 - 1) - 1)), .inl (M 100 (x3 - 1))] M (fun r226 M226 =>
    (0 ≤ (x3 - 1) - 1 ∧ (x3 - 1) - 1 < 260) ∧
    Go (km 1 mX12_reckonsTo Q) 16 [some (.inr 76), none, some (.inl x2), some (.inl (x3 - 1)), some (.inl x4), some (.inl (x5 + 1)), none, none] [] (mput M226 100 ((x3 - 1) - 1) r226))) ∧ (M 100 (x3 - 1) = 0 →
    Q 0 M))))))) ∧ ((M 95 x5) / 1048576 = 12 →
    cn (x3 - 1) ∧
    (0 ≤ x3 - 1 ∧ x3 - 1 < 260) ∧
    (((M 95 x5) / 1048576 ≠ 12 →
    ((M 100 (x3 - 1) ≠ 0 →
    cn (x3 - 1) ∧
    Go (km 1 mX12_reckonsTo Q) 16 [some (.inr 76), none, some (.inl x2), some (.inl (x3 - 1)), some (.inl x4), some (.inl (x5 + 1)), none, none] [] M) ∧ (M 100 (x3 - 1) = 0 →
    cn (x4 + ((M 95 x5) % 1048576)) ∧
    Go (km 1 mX12_reckonsTo Q) 16 [some (.inr 76), none, some (.inl x2), some (.inl x3), some (.inl x4), some (.inl (x4 + ((M 95 x5) % 1048576))), none, none] [] M))) ∧ ((M 95 x5) / 1048576 = 12 →
    ((M 100 (x3 - 1) ≠ 1 →
    cn (x3 - 1) ∧
    Go (km 1 mX12_reckonsTo Q) 16 [some (.inr 76), none, some (.inl x2), some (.inl (x3 - 1)), some (.inl x4), some (.inl (x5 + 1)), none, none] [] M) ∧ (M 100 (x3 - 1) = 1 →
    cn (x4 + ((M 95 x5) % 1048576)) ∧
    Go (km 1 mX12_reckonsTo Q) 16 [some (.inr 76), none, some (.inl x2), some (.inl x3), some (.inl x4), some (.inl (x4 + ((M 95 x5) % 1048576))), none, none] [] M))))))))) ∧ ((M 95 x5) / 1048576 = 10 →
    cn (x3 - 1) ∧
    cn (x3 - 1) ∧
    (0 ≤ x3 - 1 ∧ x3 - 1 < 260) ∧
    cn (1 - (M 100 (x3 - 1))) ∧
    (0 ≤ x3 - 1 ∧ x3 - 1 < 260) ∧
    Go (km 1 mX12_reckonsTo Q) 16 [some (.inr 76), none, some (.inl x2), some (.inl x3), some (.inl x4), some (.inl (x5 + 1)), none, none] [] (mput M 100 (x3 - 1) (1 - (M 100 (x3 - 1))))))) ∧ ((M 95 x5) / 1048576 = 1 →
    (((M 95 x5) / 1048576 ≠ 0 →
    (0 ≤ (M 95 x5) % 1048576 ∧ (M 95 x5) % 1048576 < 11) ∧
    (0 ≤ x3 ∧ x3 < 260) ∧
    cn (x3 + 1) ∧
    Go (km 1 mX12_reckonsTo Q) 16 [some (.inr 76), none, some (.inl x2), some (.inl (x3 + 1)), some (.inl x4), some (.inl (x5 + 1)), none, none] [] (mput M 100 x3 (M 101 ((M 95 x5) % 1048576)))) ∧ ((M 95 x5) / 1048576 = 0 →
    (0 ≤ x3 ∧ x3 < 260) ∧
    cn (x3 + 1) ∧
    Go (km 1 mX12_reckonsTo Q) 16 [some (.inr 76), none, some (.inl x2), some (.inl (x3 + 1)), some (.inl x4), some (.inl (x5 + 1)), none, none] [] (mput M 100 x3 ((M 95 x5) % 1048576))))))))))) :
    Go (km 1 mX12_reckonsTo Q) 16 [some (.inr 76), none, some (.inl x2), some (.inl x3), some (.inl x4), some (.inl x5), none, none] [] M := by
  refine a_iload (pc := 16) dX12_reckonsTo_16 rfl ?_
  refine a_iload_n (pc := 18) dX12_reckonsTo_18 rfl ?_
  refine a_icmp_ge (pc := 19) 233 dX12_reckonsTo_19 rfl ⟨fun hc => ?_, fun hc => ?_⟩
  · replace h := h.1 hc
    refine a_aload_n (pc := 233) dX12_reckonsTo_233 rfl ?_
    refine a_getr (pc := 234) dX12_reckonsTo_234 f_X12_80 rfl ?_
    refine a_iconst (pc := 237) dX12_reckonsTo_237 (cnb rfl) ?_
    refine a_iald (pc := 238) dX12_reckonsTo_238 rfl (by decide) (by decide)  ?_
    exact a_iretI (pc := 239) dX12_reckonsTo_239 rfl h
  · replace h := h.2 hc
    refine a_aload_n (pc := 22) dX12_reckonsTo_22 rfl ?_
    refine a_getr (pc := 23) dX12_reckonsTo_23 f_X12_65 rfl ?_
    refine a_iload (pc := 26) dX12_reckonsTo_26 rfl ?_
    refine a_iald (pc := 28) dX12_reckonsTo_28 rfl h.1.1 h.1.2  ?_
    replace h := h.2
    refine a_ldc (pc := 29) (n := 1048576) dX12_reckonsTo_29 k_X12_202 (by decide) (cnb rfl) ?_
    refine a_idivn (pc := 31) dX12_reckonsTo_31 (by decide) h.1 ?_
    replace h := h.2
    refine a_istore (pc := 32) dX12_reckonsTo_32 (Nat.le_of_ble_eq_true rfl) ?_
    refine a_aload_n (pc := 34) dX12_reckonsTo_34 rfl ?_
    refine a_getr (pc := 35) dX12_reckonsTo_35 f_X12_65 rfl ?_
    refine a_iload (pc := 38) dX12_reckonsTo_38 rfl ?_
    refine a_iald (pc := 40) dX12_reckonsTo_40 rfl h.1.1 h.1.2  ?_
    replace h := h.2
    refine a_ldc (pc := 41) (n := 1048576) dX12_reckonsTo_41 k_X12_202 (by decide) (cnb rfl) ?_
    refine a_iremn (pc := 43) dX12_reckonsTo_43 (by decide) h.1 ?_
    replace h := h.2
    refine a_istore (pc := 44) dX12_reckonsTo_44 (Nat.le_of_ble_eq_true rfl) ?_
    refine a_iload (pc := 46) dX12_reckonsTo_46 rfl ?_
    refine a_iconst (pc := 48) dX12_reckonsTo_48 (cnb rfl) ?_
    refine a_iadd (pc := 49) dX12_reckonsTo_49 h.1 ?_
    replace h := h.2
    refine a_istore (pc := 50) dX12_reckonsTo_50 (Nat.le_of_ble_eq_true rfl) ?_
    refine a_iload (pc := 52) dX12_reckonsTo_52 rfl ?_
    refine a_if_eq (pc := 54) 63 dX12_reckonsTo_54 rfl ⟨fun hc => ?_, fun hc => ?_⟩
    · replace h := h.1 hc
      refine a_aload_n (pc := 63) dX12_reckonsTo_63 rfl ?_
      refine a_getr (pc := 64) dX12_reckonsTo_64 f_X12_80 rfl ?_
      refine a_iload_n (pc := 67) dX12_reckonsTo_67 rfl ?_
      refine a_iload (pc := 68) dX12_reckonsTo_68 rfl ?_
      refine a_if_ne (pc := 70) 78 dX12_reckonsTo_70 rfl ⟨fun hc => ?_, fun hc => ?_⟩
      · replace h := h.1 hc
        refine a_aload_n (pc := 78) dX12_reckonsTo_78 rfl ?_
        refine a_getr (pc := 79) dX12_reckonsTo_79 f_X12_83 rfl ?_
        refine a_iload (pc := 82) dX12_reckonsTo_82 rfl ?_
        refine a_iald (pc := 84) dX12_reckonsTo_84 rfl h.1.1 h.1.2  ?_
        replace h := h.2
        refine a_iast (pc := 85) dX12_reckonsTo_85 rfl h.1.1 h.1.2 ?_
        replace h := h.2
        refine a_iload_n (pc := 86) dX12_reckonsTo_86 rfl ?_
        refine a_iconst (pc := 87) dX12_reckonsTo_87 (cnb rfl) ?_
        refine a_iadd (pc := 88) dX12_reckonsTo_88 h.1 ?_
        replace h := h.2
        refine a_istore_n (pc := 89) dX12_reckonsTo_89 (Nat.le_of_ble_eq_true rfl) ?_
        refine a_goto (pc := 90) 230 dX12_reckonsTo_90 rfl ?_
        refine a_goto (pc := 230) 16 dX12_reckonsTo_230 rfl ?_
        exact Go.weak h (And.intro rfl (And.intro rfl (And.intro rfl (And.intro rfl (And.intro rfl True.intro)))))
      · replace h := h.2 hc
        refine a_iload (pc := 73) dX12_reckonsTo_73 rfl ?_
        refine a_goto (pc := 75) 85 dX12_reckonsTo_75 rfl ?_
        refine a_iast (pc := 85) dX12_reckonsTo_85 rfl h.1.1 h.1.2 ?_
        replace h := h.2
        refine a_iload_n (pc := 86) dX12_reckonsTo_86 rfl ?_
        refine a_iconst (pc := 87) dX12_reckonsTo_87 (cnb rfl) ?_
        refine a_iadd (pc := 88) dX12_reckonsTo_88 h.1 ?_
        replace h := h.2
        refine a_istore_n (pc := 89) dX12_reckonsTo_89 (Nat.le_of_ble_eq_true rfl) ?_
        refine a_goto (pc := 90) 230 dX12_reckonsTo_90 rfl ?_
        refine a_goto (pc := 230) 16 dX12_reckonsTo_230 rfl ?_
        exact Go.weak h (And.intro rfl (And.intro rfl (And.intro rfl (And.intro rfl (And.intro rfl True.intro)))))
    · replace h := h.2 hc
      refine a_iload (pc := 57) dX12_reckonsTo_57 rfl ?_
      refine a_iconst (pc := 59) dX12_reckonsTo_59 (cnb rfl) ?_
      refine a_icmp_ne (pc := 60) 93 dX12_reckonsTo_60 rfl ⟨fun hc => ?_, fun hc => ?_⟩
      · replace h := h.1 hc
        refine a_iload (pc := 93) dX12_reckonsTo_93 rfl ?_
        refine a_bipush (pc := 95) dX12_reckonsTo_95 (by decide) (cnb rfl) ?_
        refine a_icmp_ne (pc := 97) 121 dX12_reckonsTo_97 rfl ⟨fun hc => ?_, fun hc => ?_⟩
        · replace h := h.1 hc
          refine a_iload (pc := 121) dX12_reckonsTo_121 rfl ?_
          refine a_bipush (pc := 123) dX12_reckonsTo_123 (by decide) (cnb rfl) ?_
          refine a_icmp_eq (pc := 125) 135 dX12_reckonsTo_125 rfl ⟨fun hc => ?_, fun hc => ?_⟩
          · replace h := h.1 hc
            refine a_aload_n (pc := 135) dX12_reckonsTo_135 rfl ?_
            refine a_getr (pc := 136) dX12_reckonsTo_136 f_X12_80 rfl ?_
            refine a_iload_n (pc := 139) dX12_reckonsTo_139 rfl ?_
            refine a_iconst (pc := 140) dX12_reckonsTo_140 (cnb rfl) ?_
            refine a_isub (pc := 141) dX12_reckonsTo_141 h.1 ?_
            replace h := h.2
            refine a_iald (pc := 142) dX12_reckonsTo_142 rfl h.1.1 h.1.2  ?_
            replace h := h.2
            refine a_iload (pc := 143) dX12_reckonsTo_143 rfl ?_
            refine a_bipush (pc := 145) dX12_reckonsTo_145 (by decide) (cnb rfl) ?_
            refine a_icmp_ne (pc := 147) 154 dX12_reckonsTo_147 rfl ⟨fun hc => ?_, fun hc => ?_⟩
            · replace h := h.1 hc
              refine a_iconst (pc := 154) dX12_reckonsTo_154 (cnb rfl) ?_
              refine a_icmp_ne (pc := 155) 168 dX12_reckonsTo_155 rfl ⟨fun hc => ?_, fun hc => ?_⟩
              · replace h := h.1 hc
                refine a_iload_n (pc := 168) dX12_reckonsTo_168 rfl ?_
                refine a_iconst (pc := 169) dX12_reckonsTo_169 (cnb rfl) ?_
                refine a_isub (pc := 170) dX12_reckonsTo_170 h.1 ?_
                replace h := h.2
                refine a_istore_n (pc := 171) dX12_reckonsTo_171 (Nat.le_of_ble_eq_true rfl) ?_
                refine a_goto (pc := 172) 230 dX12_reckonsTo_172 rfl ?_
                refine a_goto (pc := 230) 16 dX12_reckonsTo_230 rfl ?_
                exact Go.weak h (And.intro rfl (And.intro rfl (And.intro rfl (And.intro rfl (And.intro rfl True.intro)))))
              · replace h := h.2 hc
                refine a_iload (pc := 158) dX12_reckonsTo_158 rfl ?_
                refine a_iload (pc := 160) dX12_reckonsTo_160 rfl ?_
                refine a_iadd (pc := 162) dX12_reckonsTo_162 h.1 ?_
                replace h := h.2
                refine a_istore (pc := 163) dX12_reckonsTo_163 (Nat.le_of_ble_eq_true rfl) ?_
                refine a_goto (pc := 165) 230 dX12_reckonsTo_165 rfl ?_
                refine a_goto (pc := 230) 16 dX12_reckonsTo_230 rfl ?_
                exact Go.weak h (And.intro rfl (And.intro rfl (And.intro rfl (And.intro rfl (And.intro rfl True.intro)))))
            · replace h := h.2 hc
              refine a_iconst (pc := 150) dX12_reckonsTo_150 (cnb rfl) ?_
              refine a_goto (pc := 151) 155 dX12_reckonsTo_151 rfl ?_
              refine a_icmp_ne (pc := 155) 168 dX12_reckonsTo_155 rfl ⟨fun hc => ?_, fun hc => ?_⟩
              · replace h := h.1 hc
                refine a_iload_n (pc := 168) dX12_reckonsTo_168 rfl ?_
                refine a_iconst (pc := 169) dX12_reckonsTo_169 (cnb rfl) ?_
                refine a_isub (pc := 170) dX12_reckonsTo_170 h.1 ?_
                replace h := h.2
                refine a_istore_n (pc := 171) dX12_reckonsTo_171 (Nat.le_of_ble_eq_true rfl) ?_
                refine a_goto (pc := 172) 230 dX12_reckonsTo_172 rfl ?_
                refine a_goto (pc := 230) 16 dX12_reckonsTo_230 rfl ?_
                exact Go.weak h (And.intro rfl (And.intro rfl (And.intro rfl (And.intro rfl (And.intro rfl True.intro)))))
              · replace h := h.2 hc
                refine a_iload (pc := 158) dX12_reckonsTo_158 rfl ?_
                refine a_iload (pc := 160) dX12_reckonsTo_160 rfl ?_
                refine a_iadd (pc := 162) dX12_reckonsTo_162 h.1 ?_
                replace h := h.2
                refine a_istore (pc := 163) dX12_reckonsTo_163 (Nat.le_of_ble_eq_true rfl) ?_
                refine a_goto (pc := 165) 230 dX12_reckonsTo_165 rfl ?_
                refine a_goto (pc := 230) 16 dX12_reckonsTo_230 rfl ?_
                exact Go.weak h (And.intro rfl (And.intro rfl (And.intro rfl (And.intro rfl (And.intro rfl True.intro)))))
          · replace h := h.2 hc
            refine a_iload (pc := 128) dX12_reckonsTo_128 rfl ?_
            refine a_bipush (pc := 130) dX12_reckonsTo_130 (by decide) (cnb rfl) ?_
            refine a_icmp_ne (pc := 132) 175 dX12_reckonsTo_132 rfl ⟨fun hc => ?_, fun hc => ?_⟩
            · replace h := h.1 hc
              refine a_iload_n (pc := 175) dX12_reckonsTo_175 rfl ?_
              refine a_iconst (pc := 176) dX12_reckonsTo_176 (cnb rfl) ?_
              refine a_isub (pc := 177) dX12_reckonsTo_177 h.1 ?_
              replace h := h.2
              refine a_istore_n (pc := 178) dX12_reckonsTo_178 (Nat.le_of_ble_eq_true rfl) ?_
              refine a_iload (pc := 179) dX12_reckonsTo_179 rfl ?_
              refine a_iconst (pc := 181) dX12_reckonsTo_181 (cnb rfl) ?_
              refine a_icmp_eq (pc := 182) 192 dX12_reckonsTo_182 rfl ⟨fun hc => ?_, fun hc => ?_⟩
              · replace h := h.1 hc
                refine a_aload_n (pc := 192) dX12_reckonsTo_192 rfl ?_
                refine a_getr (pc := 193) dX12_reckonsTo_193 f_X12_80 rfl ?_
                refine a_iload_n (pc := 196) dX12_reckonsTo_196 rfl ?_
                refine a_iald (pc := 197) dX12_reckonsTo_197 rfl h.1.1 h.1.2  ?_
                replace h := h.2
                refine a_if_ne (pc := 198) 203 dX12_reckonsTo_198 rfl ⟨fun hc => ?_, fun hc => ?_⟩
                · replace h := h.1 hc
                  refine a_aload_n (pc := 203) dX12_reckonsTo_203 rfl ?_
                  refine a_getr (pc := 204) dX12_reckonsTo_204 f_X12_80 rfl ?_
                  refine a_iload_n (pc := 207) dX12_reckonsTo_207 rfl ?_
                  refine a_iconst (pc := 208) dX12_reckonsTo_208 (cnb rfl) ?_
                  refine a_isub (pc := 209) dX12_reckonsTo_209 h.1 ?_
                  replace h := h.2
                  refine a_iload (pc := 210) dX12_reckonsTo_210 rfl ?_
                  refine a_aload_n (pc := 212) dX12_reckonsTo_212 rfl ?_
                  refine a_getr (pc := 213) dX12_reckonsTo_213 f_X12_80 rfl ?_
                  refine a_iload_n (pc := 216) dX12_reckonsTo_216 rfl ?_
                  refine a_iconst (pc := 217) dX12_reckonsTo_217 (cnb rfl) ?_
                  refine a_isub (pc := 218) dX12_reckonsTo_218 h.1 ?_
                  replace h := h.2
                  refine a_iald (pc := 219) dX12_reckonsTo_219 rfl h.1.1 h.1.2  ?_
                  replace h := h.2
                  refine a_aload_n (pc := 220) dX12_reckonsTo_220 rfl ?_
                  refine a_getr (pc := 221) dX12_reckonsTo_221 f_X12_80 rfl ?_
                  refine a_iload_n (pc := 224) dX12_reckonsTo_224 rfl ?_
                  refine a_iald (pc := 225) dX12_reckonsTo_225 rfl h.1.1 h.1.2  ?_
                  replace h := h.2
                  refine a_callSi (pc := 226) (d := 0) (st := [.inl ((x3 - 1) - 1), .inr 100]) [.inl ((M 95 x5) / 1048576), .inl (M 100 ((x3 - 1) - 1)), .inl (M 100 (x3 - 1))] dX12_reckonsTo_226 l_X12_271 st_X12_reckon rfl ⟨Nat.le_of_ble_eq_true rfl, Nat.le_of_ble_eq_true rfl⟩ ⟨Nat.le_of_ble_eq_true rfl, Nat.le_of_ble_eq_true rfl⟩ (Nat.le_of_ble_eq_true rfl) ?_
                  refine Calls.mono (fun r226 M226 hr226 hM226 h => ?_) h
                  refine a_iast (pc := 229) dX12_reckonsTo_229 rfl h.1.1 h.1.2 ?_
                  replace h := h.2
                  refine a_goto (pc := 230) 16 dX12_reckonsTo_230 rfl ?_
                  exact Go.weak h (And.intro rfl (And.intro rfl (And.intro rfl (And.intro rfl (And.intro rfl True.intro)))))
                · replace h := h.2 hc
                  refine a_iconst (pc := 201) dX12_reckonsTo_201 (cnb rfl) ?_
                  exact a_iretI (pc := 202) dX12_reckonsTo_202 rfl h
              · replace h := h.2 hc
                refine a_iload (pc := 185) dX12_reckonsTo_185 rfl ?_
                refine a_bipush (pc := 187) dX12_reckonsTo_187 (by decide) (cnb rfl) ?_
                refine a_icmp_ne (pc := 189) 203 dX12_reckonsTo_189 rfl ⟨fun hc => ?_, fun hc => ?_⟩
                · replace h := h.1 hc
                  refine a_aload_n (pc := 203) dX12_reckonsTo_203 rfl ?_
                  refine a_getr (pc := 204) dX12_reckonsTo_204 f_X12_80 rfl ?_
                  refine a_iload_n (pc := 207) dX12_reckonsTo_207 rfl ?_
                  refine a_iconst (pc := 208) dX12_reckonsTo_208 (cnb rfl) ?_
                  refine a_isub (pc := 209) dX12_reckonsTo_209 h.1 ?_
                  replace h := h.2
                  refine a_iload (pc := 210) dX12_reckonsTo_210 rfl ?_
                  refine a_aload_n (pc := 212) dX12_reckonsTo_212 rfl ?_
                  refine a_getr (pc := 213) dX12_reckonsTo_213 f_X12_80 rfl ?_
                  refine a_iload_n (pc := 216) dX12_reckonsTo_216 rfl ?_
                  refine a_iconst (pc := 217) dX12_reckonsTo_217 (cnb rfl) ?_
                  refine a_isub (pc := 218) dX12_reckonsTo_218 h.1 ?_
                  replace h := h.2
                  refine a_iald (pc := 219) dX12_reckonsTo_219 rfl h.1.1 h.1.2  ?_
                  replace h := h.2
                  refine a_aload_n (pc := 220) dX12_reckonsTo_220 rfl ?_
                  refine a_getr (pc := 221) dX12_reckonsTo_221 f_X12_80 rfl ?_
                  refine a_iload_n (pc := 224) dX12_reckonsTo_224 rfl ?_
                  refine a_iald (pc := 225) dX12_reckonsTo_225 rfl h.1.1 h.1.2  ?_
                  replace h := h.2
                  refine a_callSi (pc := 226) (d := 0) (st := [.inl ((x3 - 1) - 1), .inr 100]) [.inl ((M 95 x5) / 1048576), .inl (M 100 ((x3 - 1) - 1)), .inl (M 100 (x3 - 1))] dX12_reckonsTo_226 l_X12_271 st_X12_reckon rfl ⟨Nat.le_of_ble_eq_true rfl, Nat.le_of_ble_eq_true rfl⟩ ⟨Nat.le_of_ble_eq_true rfl, Nat.le_of_ble_eq_true rfl⟩ (Nat.le_of_ble_eq_true rfl) ?_
                  refine Calls.mono (fun r226 M226 hr226 hM226 h => ?_) h
                  refine a_iast (pc := 229) dX12_reckonsTo_229 rfl h.1.1 h.1.2 ?_
                  replace h := h.2
                  refine a_goto (pc := 230) 16 dX12_reckonsTo_230 rfl ?_
                  exact Go.weak h (And.intro rfl (And.intro rfl (And.intro rfl (And.intro rfl (And.intro rfl True.intro)))))
                · replace h := h.2 hc
                  refine a_aload_n (pc := 192) dX12_reckonsTo_192 rfl ?_
                  refine a_getr (pc := 193) dX12_reckonsTo_193 f_X12_80 rfl ?_
                  refine a_iload_n (pc := 196) dX12_reckonsTo_196 rfl ?_
                  refine a_iald (pc := 197) dX12_reckonsTo_197 rfl h.1.1 h.1.2  ?_
                  replace h := h.2
                  refine a_if_ne (pc := 198) 203 dX12_reckonsTo_198 rfl ⟨fun hc => ?_, fun hc => ?_⟩
                  · replace h := h.1 hc
                    refine a_aload_n (pc := 203) dX12_reckonsTo_203 rfl ?_
                    refine a_getr (pc := 204) dX12_reckonsTo_204 f_X12_80 rfl ?_
                    refine a_iload_n (pc := 207) dX12_reckonsTo_207 rfl ?_
                    refine a_iconst (pc := 208) dX12_reckonsTo_208 (cnb rfl) ?_
                    refine a_isub (pc := 209) dX12_reckonsTo_209 h.1 ?_
                    replace h := h.2
                    refine a_iload (pc := 210) dX12_reckonsTo_210 rfl ?_
                    refine a_aload_n (pc := 212) dX12_reckonsTo_212 rfl ?_
                    refine a_getr (pc := 213) dX12_reckonsTo_213 f_X12_80 rfl ?_
                    refine a_iload_n (pc := 216) dX12_reckonsTo_216 rfl ?_
                    refine a_iconst (pc := 217) dX12_reckonsTo_217 (cnb rfl) ?_
                    refine a_isub (pc := 218) dX12_reckonsTo_218 h.1 ?_
                    replace h := h.2
                    refine a_iald (pc := 219) dX12_reckonsTo_219 rfl h.1.1 h.1.2  ?_
                    replace h := h.2
                    refine a_aload_n (pc := 220) dX12_reckonsTo_220 rfl ?_
                    refine a_getr (pc := 221) dX12_reckonsTo_221 f_X12_80 rfl ?_
                    refine a_iload_n (pc := 224) dX12_reckonsTo_224 rfl ?_
                    refine a_iald (pc := 225) dX12_reckonsTo_225 rfl h.1.1 h.1.2  ?_
                    replace h := h.2
                    refine a_callSi (pc := 226) (d := 0) (st := [.inl ((x3 - 1) - 1), .inr 100]) [.inl ((M 95 x5) / 1048576), .inl (M 100 ((x3 - 1) - 1)), .inl (M 100 (x3 - 1))] dX12_reckonsTo_226 l_X12_271 st_X12_reckon rfl ⟨Nat.le_of_ble_eq_true rfl, Nat.le_of_ble_eq_true rfl⟩ ⟨Nat.le_of_ble_eq_true rfl, Nat.le_of_ble_eq_true rfl⟩ (Nat.le_of_ble_eq_true rfl) ?_
                    refine Calls.mono (fun r226 M226 hr226 hM226 h => ?_) h
                    refine a_iast (pc := 229) dX12_reckonsTo_229 rfl h.1.1 h.1.2 ?_
                    replace h := h.2
                    refine a_goto (pc := 230) 16 dX12_reckonsTo_230 rfl ?_
                    exact Go.weak h (And.intro rfl (And.intro rfl (And.intro rfl (And.intro rfl (And.intro rfl True.intro)))))
                  · replace h := h.2 hc
                    refine a_iconst (pc := 201) dX12_reckonsTo_201 (cnb rfl) ?_
                    exact a_iretI (pc := 202) dX12_reckonsTo_202 rfl h
            · replace h := h.2 hc
              refine a_aload_n (pc := 135) dX12_reckonsTo_135 rfl ?_
              refine a_getr (pc := 136) dX12_reckonsTo_136 f_X12_80 rfl ?_
              refine a_iload_n (pc := 139) dX12_reckonsTo_139 rfl ?_
              refine a_iconst (pc := 140) dX12_reckonsTo_140 (cnb rfl) ?_
              refine a_isub (pc := 141) dX12_reckonsTo_141 h.1 ?_
              replace h := h.2
              refine a_iald (pc := 142) dX12_reckonsTo_142 rfl h.1.1 h.1.2  ?_
              replace h := h.2
              refine a_iload (pc := 143) dX12_reckonsTo_143 rfl ?_
              refine a_bipush (pc := 145) dX12_reckonsTo_145 (by decide) (cnb rfl) ?_
              refine a_icmp_ne (pc := 147) 154 dX12_reckonsTo_147 rfl ⟨fun hc => ?_, fun hc => ?_⟩
              · replace h := h.1 hc
                refine a_iconst (pc := 154) dX12_reckonsTo_154 (cnb rfl) ?_
                refine a_icmp_ne (pc := 155) 168 dX12_reckonsTo_155 rfl ⟨fun hc => ?_, fun hc => ?_⟩
                · replace h := h.1 hc
                  refine a_iload_n (pc := 168) dX12_reckonsTo_168 rfl ?_
                  refine a_iconst (pc := 169) dX12_reckonsTo_169 (cnb rfl) ?_
                  refine a_isub (pc := 170) dX12_reckonsTo_170 h.1 ?_
                  replace h := h.2
                  refine a_istore_n (pc := 171) dX12_reckonsTo_171 (Nat.le_of_ble_eq_true rfl) ?_
                  refine a_goto (pc := 172) 230 dX12_reckonsTo_172 rfl ?_
                  refine a_goto (pc := 230) 16 dX12_reckonsTo_230 rfl ?_
                  exact Go.weak h (And.intro rfl (And.intro rfl (And.intro rfl (And.intro rfl (And.intro rfl True.intro)))))
                · replace h := h.2 hc
                  refine a_iload (pc := 158) dX12_reckonsTo_158 rfl ?_
                  refine a_iload (pc := 160) dX12_reckonsTo_160 rfl ?_
                  refine a_iadd (pc := 162) dX12_reckonsTo_162 h.1 ?_
                  replace h := h.2
                  refine a_istore (pc := 163) dX12_reckonsTo_163 (Nat.le_of_ble_eq_true rfl) ?_
                  refine a_goto (pc := 165) 230 dX12_reckonsTo_165 rfl ?_
                  refine a_goto (pc := 230) 16 dX12_reckonsTo_230 rfl ?_
                  exact Go.weak h (And.intro rfl (And.intro rfl (And.intro rfl (And.intro rfl (And.intro rfl True.intro)))))
              · replace h := h.2 hc
                refine a_iconst (pc := 150) dX12_reckonsTo_150 (cnb rfl) ?_
                refine a_goto (pc := 151) 155 dX12_reckonsTo_151 rfl ?_
                refine a_icmp_ne (pc := 155) 168 dX12_reckonsTo_155 rfl ⟨fun hc => ?_, fun hc => ?_⟩
                · replace h := h.1 hc
                  refine a_iload_n (pc := 168) dX12_reckonsTo_168 rfl ?_
                  refine a_iconst (pc := 169) dX12_reckonsTo_169 (cnb rfl) ?_
                  refine a_isub (pc := 170) dX12_reckonsTo_170 h.1 ?_
                  replace h := h.2
                  refine a_istore_n (pc := 171) dX12_reckonsTo_171 (Nat.le_of_ble_eq_true rfl) ?_
                  refine a_goto (pc := 172) 230 dX12_reckonsTo_172 rfl ?_
                  refine a_goto (pc := 230) 16 dX12_reckonsTo_230 rfl ?_
                  exact Go.weak h (And.intro rfl (And.intro rfl (And.intro rfl (And.intro rfl (And.intro rfl True.intro)))))
                · replace h := h.2 hc
                  refine a_iload (pc := 158) dX12_reckonsTo_158 rfl ?_
                  refine a_iload (pc := 160) dX12_reckonsTo_160 rfl ?_
                  refine a_iadd (pc := 162) dX12_reckonsTo_162 h.1 ?_
                  replace h := h.2
                  refine a_istore (pc := 163) dX12_reckonsTo_163 (Nat.le_of_ble_eq_true rfl) ?_
                  refine a_goto (pc := 165) 230 dX12_reckonsTo_165 rfl ?_
                  refine a_goto (pc := 230) 16 dX12_reckonsTo_230 rfl ?_
                  exact Go.weak h (And.intro rfl (And.intro rfl (And.intro rfl (And.intro rfl (And.intro rfl True.intro)))))
        · replace h := h.2 hc
          refine a_aload_n (pc := 100) dX12_reckonsTo_100 rfl ?_
          refine a_getr (pc := 101) dX12_reckonsTo_101 f_X12_80 rfl ?_
          refine a_iload_n (pc := 104) dX12_reckonsTo_104 rfl ?_
          refine a_iconst (pc := 105) dX12_reckonsTo_105 (cnb rfl) ?_
          refine a_isub (pc := 106) dX12_reckonsTo_106 h.1 ?_
          replace h := h.2
          refine a_iconst (pc := 107) dX12_reckonsTo_107 (cnb rfl) ?_
          refine a_aload_n (pc := 108) dX12_reckonsTo_108 rfl ?_
          refine a_getr (pc := 109) dX12_reckonsTo_109 f_X12_80 rfl ?_
          refine a_iload_n (pc := 112) dX12_reckonsTo_112 rfl ?_
          refine a_iconst (pc := 113) dX12_reckonsTo_113 (cnb rfl) ?_
          refine a_isub (pc := 114) dX12_reckonsTo_114 h.1 ?_
          replace h := h.2
          refine a_iald (pc := 115) dX12_reckonsTo_115 rfl h.1.1 h.1.2  ?_
          replace h := h.2
          refine a_isub (pc := 116) dX12_reckonsTo_116 h.1 ?_
          replace h := h.2
          refine a_iast (pc := 117) dX12_reckonsTo_117 rfl h.1.1 h.1.2 ?_
          replace h := h.2
          refine a_goto (pc := 118) 230 dX12_reckonsTo_118 rfl ?_
          refine a_goto (pc := 230) 16 dX12_reckonsTo_230 rfl ?_
          exact Go.weak h (And.intro rfl (And.intro rfl (And.intro rfl (And.intro rfl (And.intro rfl True.intro)))))
      · replace h := h.2 hc
        refine a_aload_n (pc := 63) dX12_reckonsTo_63 rfl ?_
        refine a_getr (pc := 64) dX12_reckonsTo_64 f_X12_80 rfl ?_
        refine a_iload_n (pc := 67) dX12_reckonsTo_67 rfl ?_
        refine a_iload (pc := 68) dX12_reckonsTo_68 rfl ?_
        refine a_if_ne (pc := 70) 78 dX12_reckonsTo_70 rfl ⟨fun hc => ?_, fun hc => ?_⟩
        · replace h := h.1 hc
          refine a_aload_n (pc := 78) dX12_reckonsTo_78 rfl ?_
          refine a_getr (pc := 79) dX12_reckonsTo_79 f_X12_83 rfl ?_
          refine a_iload (pc := 82) dX12_reckonsTo_82 rfl ?_
          refine a_iald (pc := 84) dX12_reckonsTo_84 rfl h.1.1 h.1.2  ?_
          replace h := h.2
          refine a_iast (pc := 85) dX12_reckonsTo_85 rfl h.1.1 h.1.2 ?_
          replace h := h.2
          refine a_iload_n (pc := 86) dX12_reckonsTo_86 rfl ?_
          refine a_iconst (pc := 87) dX12_reckonsTo_87 (cnb rfl) ?_
          refine a_iadd (pc := 88) dX12_reckonsTo_88 h.1 ?_
          replace h := h.2
          refine a_istore_n (pc := 89) dX12_reckonsTo_89 (Nat.le_of_ble_eq_true rfl) ?_
          refine a_goto (pc := 90) 230 dX12_reckonsTo_90 rfl ?_
          refine a_goto (pc := 230) 16 dX12_reckonsTo_230 rfl ?_
          exact Go.weak h (And.intro rfl (And.intro rfl (And.intro rfl (And.intro rfl (And.intro rfl True.intro)))))
        · replace h := h.2 hc
          refine a_iload (pc := 73) dX12_reckonsTo_73 rfl ?_
          refine a_goto (pc := 75) 85 dX12_reckonsTo_75 rfl ?_
          refine a_iast (pc := 85) dX12_reckonsTo_85 rfl h.1.1 h.1.2 ?_
          replace h := h.2
          refine a_iload_n (pc := 86) dX12_reckonsTo_86 rfl ?_
          refine a_iconst (pc := 87) dX12_reckonsTo_87 (cnb rfl) ?_
          refine a_iadd (pc := 88) dX12_reckonsTo_88 h.1 ?_
          replace h := h.2
          refine a_istore_n (pc := 89) dX12_reckonsTo_89 (Nat.le_of_ble_eq_true rfl) ?_
          refine a_goto (pc := 90) 230 dX12_reckonsTo_90 rfl ?_
          refine a_goto (pc := 230) 16 dX12_reckonsTo_230 rfl ?_
          exact Go.weak h (And.intro rfl (And.intro rfl (And.intro rfl (And.intro rfl (And.intro rfl True.intro)))))
set_option maxRecDepth 20000 in
theorem s_X12_byLaw_0 {Q : Int → Me → Prop}  (a b c : Int) (M : Me) (h :
    Go (km 2 mX12_byLaw Q) 3 [some (.inr 76), some (.inl a), some (.inl b), some (.inl c), some (.inl 0), none] [] M) :
    Go (km 2 mX12_byLaw Q) 0 [some (.inr 76), some (.inl a), some (.inl b), some (.inl c), none, none] [] M := by
  refine a_iconst (pc := 0) dX12_byLaw_0 (cnb rfl) ?_
  refine a_istore (pc := 1) dX12_byLaw_1 (Nat.le_of_ble_eq_true rfl) ?_
  exact h
set_option maxRecDepth 20000 in
theorem e_X12_byLaw {Q : Int → Me → Prop}  {a b c : Int} {M : Me} (h :
    Go (km 2 mX12_byLaw Q) 3 [some (.inr 76), some (.inl a), some (.inl b), some (.inl c), some (.inl 0), none] [] M) : Calls 2 mX12_byLaw [.inr 76, .inl a, .inl b, .inl c] M Q := Calls.of (by decide) (Nat.le_of_ble_eq_true rfl) (s_X12_byLaw_0  a b c M h)
set_option maxRecDepth 20000 in
theorem s_X12_byLaw_3 {Q : Int → Me → Prop}  (x1 x2 x3 x4 : Int) (M : Me) (h :
    ((M 76 22 ≤ x4 →
    Q x3 M) ∧ (x4 < M 76 22 →
    (0 ≤ x4 ∧ x4 < 16) ∧
    ((M 96 x4 ≠ x1 →
    cn (x4 + 1) ∧
    Go (km 2 mX12_byLaw Q) 3 [some (.inr 76), some (.inl x1), some (.inl x2), some (.inl x3), some (.inl (x4 + 1)), none] [] M) ∧ (M 96 x4 = x1 →
    (0 ≤ x4 ∧ x4 < 16) ∧
    (0 ≤ x4 ∧ x4 < 16) ∧
    Calls 1 mX12_reckonsTo [.inr 76, .inl (M 98 x4), .inl (M 99 x4)] M (fun r38 M38 =>
    ((r38 = 1 →
    (0 ≤ x4 ∧ x4 < 16) ∧
    (0 ≤ x4 ∧ x4 < 16) ∧
    Calls 1 mX12_reckonsTo [.inr 76, .inl (M38 97 x4), .inl (M38 98 x4)] M38 (fun r63 M63 =>
    ((0 ≤ r63 →
    ((r63 ≤ x2 →
    Q r63 M63) ∧ (x2 < r63 →
    Q x2 M63))) ∧ (r63 < 0 →
    Q 0 M63)))) ∧ (r38 ≠ 1 →
    cn (x4 + 1) ∧
    Go (km 2 mX12_byLaw Q) 3 [some (.inr 76), some (.inl x1), some (.inl x2), some (.inl x3), some (.inl (x4 + 1)), none] [] M38)))))))) :
    Go (km 2 mX12_byLaw Q) 3 [some (.inr 76), some (.inl x1), some (.inl x2), some (.inl x3), some (.inl x4), none] [] M := by
  refine a_iload (pc := 3) dX12_byLaw_3 rfl ?_
  refine a_aload_n (pc := 5) dX12_byLaw_5 rfl ?_
  refine a_geti (pc := 6) 22 dX12_byLaw_6 f_X12_268 rfl rfl ?_
  refine a_icmp_ge (pc := 9) 96 dX12_byLaw_9 rfl ⟨fun hc => ?_, fun hc => ?_⟩
  · replace h := h.1 hc
    refine a_iload_n (pc := 96) dX12_byLaw_96 rfl ?_
    exact a_iretI (pc := 97) dX12_byLaw_97 rfl h
  · replace h := h.2 hc
    refine a_aload_n (pc := 12) dX12_byLaw_12 rfl ?_
    refine a_getr (pc := 13) dX12_byLaw_13 f_X12_68 rfl ?_
    refine a_iload (pc := 16) dX12_byLaw_16 rfl ?_
    refine a_iald (pc := 18) dX12_byLaw_18 rfl h.1.1 h.1.2  ?_
    replace h := h.2
    refine a_iload_n (pc := 19) dX12_byLaw_19 rfl ?_
    refine a_icmp_ne (pc := 20) 90 dX12_byLaw_20 rfl ⟨fun hc => ?_, fun hc => ?_⟩
    · replace h := h.1 hc
      refine a_iinc (pc := 90) dX12_byLaw_90 rfl h.1 (Nat.le_of_ble_eq_true rfl) ?_
      replace h := h.2
      refine a_goto (pc := 93) 3 dX12_byLaw_93 rfl ?_
      exact h
    · replace h := h.2 hc
      refine a_aload_n (pc := 23) dX12_byLaw_23 rfl ?_
      refine a_aload_n (pc := 24) dX12_byLaw_24 rfl ?_
      refine a_getr (pc := 25) dX12_byLaw_25 f_X12_74 rfl ?_
      refine a_iload (pc := 28) dX12_byLaw_28 rfl ?_
      refine a_iald (pc := 30) dX12_byLaw_30 rfl h.1.1 h.1.2  ?_
      replace h := h.2
      refine a_aload_n (pc := 31) dX12_byLaw_31 rfl ?_
      refine a_getr (pc := 32) dX12_byLaw_32 f_X12_77 rfl ?_
      refine a_iload (pc := 35) dX12_byLaw_35 rfl ?_
      refine a_iald (pc := 37) dX12_byLaw_37 rfl h.1.1 h.1.2  ?_
      replace h := h.2
      refine a_callVi (pc := 38) (d := 1) (st := []) (o := 76) [.inl (M 98 x4), .inl (M 99 x4)] dX12_byLaw_38 l_X12_275 in_X12_reckonsTo se_X12_reckonsTo rfl rfl rfl ⟨Nat.le_of_ble_eq_true rfl, Nat.le_of_ble_eq_true rfl⟩ ⟨Nat.le_of_ble_eq_true rfl, Nat.le_of_ble_eq_true rfl⟩ (Nat.le_of_ble_eq_true rfl) ?_
      refine Calls.mono (fun r38 M38 hr38 hM38 h => ?_) h
      refine a_iconst (pc := 41) dX12_byLaw_41 (cnb rfl) ?_
      refine a_icmp_eq (pc := 42) 48 dX12_byLaw_42 rfl ⟨fun hc => ?_, fun hc => ?_⟩
      · replace h := h.1 hc
        refine a_aload_n (pc := 48) dX12_byLaw_48 rfl ?_
        refine a_aload_n (pc := 49) dX12_byLaw_49 rfl ?_
        refine a_getr (pc := 50) dX12_byLaw_50 f_X12_71 rfl ?_
        refine a_iload (pc := 53) dX12_byLaw_53 rfl ?_
        refine a_iald (pc := 55) dX12_byLaw_55 rfl h.1.1 h.1.2  ?_
        replace h := h.2
        refine a_aload_n (pc := 56) dX12_byLaw_56 rfl ?_
        refine a_getr (pc := 57) dX12_byLaw_57 f_X12_74 rfl ?_
        refine a_iload (pc := 60) dX12_byLaw_60 rfl ?_
        refine a_iald (pc := 62) dX12_byLaw_62 rfl h.1.1 h.1.2  ?_
        replace h := h.2
        refine a_callVi (pc := 63) (d := 1) (st := []) (o := 76) [.inl (M38 97 x4), .inl (M38 98 x4)] dX12_byLaw_63 l_X12_275 in_X12_reckonsTo se_X12_reckonsTo rfl rfl rfl ⟨Nat.le_of_ble_eq_true rfl, Nat.le_of_ble_eq_true rfl⟩ ⟨Nat.le_of_ble_eq_true rfl, Nat.le_of_ble_eq_true rfl⟩ (Nat.le_of_ble_eq_true rfl) ?_
        refine Calls.mono (fun r63 M63 hr63 hM63 h => ?_) h
        refine a_istore (pc := 66) dX12_byLaw_66 (Nat.le_of_ble_eq_true rfl) ?_
        refine a_iload (pc := 68) dX12_byLaw_68 rfl ?_
        refine a_if_ge (pc := 70) 77 dX12_byLaw_70 rfl ⟨fun hc => ?_, fun hc => ?_⟩
        · replace h := h.1 hc
          refine a_iload (pc := 77) dX12_byLaw_77 rfl ?_
          refine a_iload_n (pc := 79) dX12_byLaw_79 rfl ?_
          refine a_icmp_le (pc := 80) 87 dX12_byLaw_80 rfl ⟨fun hc => ?_, fun hc => ?_⟩
          · replace h := h.1 hc
            refine a_iload (pc := 87) dX12_byLaw_87 rfl ?_
            exact a_iretI (pc := 89) dX12_byLaw_89 rfl h
          · replace h := h.2 hc
            refine a_iload_n (pc := 83) dX12_byLaw_83 rfl ?_
            refine a_goto (pc := 84) 89 dX12_byLaw_84 rfl ?_
            exact a_iretI (pc := 89) dX12_byLaw_89 rfl h
        · replace h := h.2 hc
          refine a_iconst (pc := 73) dX12_byLaw_73 (cnb rfl) ?_
          refine a_goto (pc := 74) 89 dX12_byLaw_74 rfl ?_
          exact a_iretI (pc := 89) dX12_byLaw_89 rfl h
      · replace h := h.2 hc
        refine a_goto (pc := 45) 90 dX12_byLaw_45 rfl ?_
        refine a_iinc (pc := 90) dX12_byLaw_90 rfl h.1 (Nat.le_of_ble_eq_true rfl) ?_
        replace h := h.2
        refine a_goto (pc := 93) 3 dX12_byLaw_93 rfl ?_
        exact h
set_option maxRecDepth 20000 in
theorem s_X12_holdsAny_0 {Q : Int → Me → Prop}  (a : Int) (M : Me) (h :
    Go (km 2 mX12_holdsAny Q) 2 [some (.inr 76), some (.inl a), some (.inl 0)] [] M) :
    Go (km 2 mX12_holdsAny Q) 0 [some (.inr 76), some (.inl a), none] [] M := by
  refine a_iconst (pc := 0) dX12_holdsAny_0 (cnb rfl) ?_
  refine a_istore_n (pc := 1) dX12_holdsAny_1 (Nat.le_of_ble_eq_true rfl) ?_
  exact h
set_option maxRecDepth 20000 in
theorem e_X12_holdsAny {Q : Int → Me → Prop}  {a : Int} {M : Me} (h :
    Go (km 2 mX12_holdsAny Q) 2 [some (.inr 76), some (.inl a), some (.inl 0)] [] M) : Calls 2 mX12_holdsAny [.inr 76, .inl a] M Q := Calls.of (by decide) (Nat.le_of_ble_eq_true rfl) (s_X12_holdsAny_0  a M h)
set_option maxRecDepth 20000 in
theorem s_X12_holdsAny_2 {Q : Int → Me → Prop}  (x1 x2 : Int) (M : Me) (h :
    ((M 76 22 ≤ x2 →
    Q 0 M) ∧ (x2 < M 76 22 →
    (0 ≤ x2 ∧ x2 < 16) ∧
    ((M 96 x2 ≠ x1 →
    cn (x2 + 1) ∧
    Go (km 2 mX12_holdsAny Q) 2 [some (.inr 76), some (.inl x1), some (.inl (x2 + 1))] [] M) ∧ (M 96 x2 = x1 →
    (0 ≤ x2 ∧ x2 < 16) ∧
    (0 ≤ x2 ∧ x2 < 16) ∧
    Calls 1 mX12_reckonsTo [.inr 76, .inl (M 98 x2), .inl (M 99 x2)] M (fun r33 M33 =>
    ((r33 ≠ 1 →
    cn (x2 + 1) ∧
    Go (km 2 mX12_holdsAny Q) 2 [some (.inr 76), some (.inl x1), some (.inl (x2 + 1))] [] M33) ∧ (r33 = 1 →
    Q 1 M33)))))))) :
    Go (km 2 mX12_holdsAny Q) 2 [some (.inr 76), some (.inl x1), some (.inl x2)] [] M := by
  refine a_iload_n (pc := 2) dX12_holdsAny_2 rfl ?_
  refine a_aload_n (pc := 3) dX12_holdsAny_3 rfl ?_
  refine a_geti (pc := 4) 22 dX12_holdsAny_4 f_X12_268 rfl rfl ?_
  refine a_icmp_ge (pc := 7) 48 dX12_holdsAny_7 rfl ⟨fun hc => ?_, fun hc => ?_⟩
  · replace h := h.1 hc
    refine a_iconst (pc := 48) dX12_holdsAny_48 (cnb rfl) ?_
    exact a_iretZ (pc := 49) dX12_holdsAny_49 rfl (by decide) h
  · replace h := h.2 hc
    refine a_aload_n (pc := 10) dX12_holdsAny_10 rfl ?_
    refine a_getr (pc := 11) dX12_holdsAny_11 f_X12_68 rfl ?_
    refine a_iload_n (pc := 14) dX12_holdsAny_14 rfl ?_
    refine a_iald (pc := 15) dX12_holdsAny_15 rfl h.1.1 h.1.2  ?_
    replace h := h.2
    refine a_iload_n (pc := 16) dX12_holdsAny_16 rfl ?_
    refine a_icmp_ne (pc := 17) 42 dX12_holdsAny_17 rfl ⟨fun hc => ?_, fun hc => ?_⟩
    · replace h := h.1 hc
      refine a_iinc (pc := 42) dX12_holdsAny_42 rfl h.1 (Nat.le_of_ble_eq_true rfl) ?_
      replace h := h.2
      refine a_goto (pc := 45) 2 dX12_holdsAny_45 rfl ?_
      exact h
    · replace h := h.2 hc
      refine a_aload_n (pc := 20) dX12_holdsAny_20 rfl ?_
      refine a_aload_n (pc := 21) dX12_holdsAny_21 rfl ?_
      refine a_getr (pc := 22) dX12_holdsAny_22 f_X12_74 rfl ?_
      refine a_iload_n (pc := 25) dX12_holdsAny_25 rfl ?_
      refine a_iald (pc := 26) dX12_holdsAny_26 rfl h.1.1 h.1.2  ?_
      replace h := h.2
      refine a_aload_n (pc := 27) dX12_holdsAny_27 rfl ?_
      refine a_getr (pc := 28) dX12_holdsAny_28 f_X12_77 rfl ?_
      refine a_iload_n (pc := 31) dX12_holdsAny_31 rfl ?_
      refine a_iald (pc := 32) dX12_holdsAny_32 rfl h.1.1 h.1.2  ?_
      replace h := h.2
      refine a_callVi (pc := 33) (d := 1) (st := []) (o := 76) [.inl (M 98 x2), .inl (M 99 x2)] dX12_holdsAny_33 l_X12_275 in_X12_reckonsTo se_X12_reckonsTo rfl rfl rfl ⟨Nat.le_of_ble_eq_true rfl, Nat.le_of_ble_eq_true rfl⟩ ⟨Nat.le_of_ble_eq_true rfl, Nat.le_of_ble_eq_true rfl⟩ (Nat.le_of_ble_eq_true rfl) ?_
      refine Calls.mono (fun r33 M33 hr33 hM33 h => ?_) h
      refine a_iconst (pc := 36) dX12_holdsAny_36 (cnb rfl) ?_
      refine a_icmp_ne (pc := 37) 42 dX12_holdsAny_37 rfl ⟨fun hc => ?_, fun hc => ?_⟩
      · replace h := h.1 hc
        refine a_iinc (pc := 42) dX12_holdsAny_42 rfl h.1 (Nat.le_of_ble_eq_true rfl) ?_
        replace h := h.2
        refine a_goto (pc := 45) 2 dX12_holdsAny_45 rfl ?_
        exact h
      · replace h := h.2 hc
        refine a_iconst (pc := 40) dX12_holdsAny_40 (cnb rfl) ?_
        exact a_iretZ (pc := 41) dX12_holdsAny_41 rfl (by decide) h
