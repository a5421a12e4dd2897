set_option maxRecDepth 20000 in
theorem s_X2_put_0 {Q : Int → Me → Prop}  (a : Int) (M : Me) (h :
    Go (km 0 mX2_put Q) 4 [some (.inr 57), some (.inl a), some (.inl 0), some (.inl 0), none] [] M) :
    Go (km 0 mX2_put Q) 0 [some (.inr 57), some (.inl a), none, none, none] [] M := by
  refine a_iconst (pc := 0) dX2_put_0 (cnb rfl) ?_
  refine a_istore_n (pc := 1) dX2_put_1 (Nat.le_of_ble_eq_true rfl) ?_
  refine a_iconst (pc := 2) dX2_put_2 (cnb rfl) ?_
  refine a_istore_n (pc := 3) dX2_put_3 (Nat.le_of_ble_eq_true rfl) ?_
  exact h
set_option maxRecDepth 20000 in
theorem e_X2_put {Q : Int → Me → Prop}  {a : Int} {M : Me} (h :
    Go (km 0 mX2_put Q) 4 [some (.inr 57), some (.inl a), some (.inl 0), some (.inl 0), none] [] M) : Calls 0 mX2_put [.inr 57, .inl a] M Q := Calls.of (by decide) (Nat.le_of_ble_eq_true rfl) (s_X2_put_0  a M h)
set_option maxRecDepth 20000 in
theorem s_X2_put_4 {Q : Int → Me → Prop}  (x1 x2 x3 : Int) (M : Me) (h :
    ((M 57 3 ≤ x3 →
    ((M 57 3 ≤ x2 →
    ((M 57 3 < 32 →
    Go (km 0 mX2_put Q) 76 [some (.inr 57), some (.inl x1), some (.inl x2), none, some (.inl (M 57 3))] [] M) ∧ (32 ≤ M 57 3 →
    Q 0 M))) ∧ (x2 < M 57 3 →
    (0 ≤ x2 ∧ x2 < 32) ∧
    ((M 58 x2 ≠ x1 →
    ((M 57 3 < 32 →
    Go (km 0 mX2_put Q) 76 [some (.inr 57), some (.inl x1), some (.inl x2), none, some (.inl (M 57 3))] [] M) ∧ (32 ≤ M 57 3 →
    Q 0 M))) ∧ (M 58 x2 = x1 →
    Q 0 M))))) ∧ (x3 < M 57 3 →
    (0 ≤ x3 ∧ x3 < 32) ∧
    ((x1 ≤ M 58 x3 →
    cn (x3 + 1) ∧
    Go (km 0 mX2_put Q) 4 [some (.inr 57), some (.inl x1), some (.inl x2), some (.inl (x3 + 1)), none] [] M) ∧ (M 58 x3 < x1 →
    cn (x3 + 1) ∧
    cn (x3 + 1) ∧
    Go (km 0 mX2_put Q) 4 [some (.inr 57), some (.inl x1), some (.inl (x3 + 1)), some (.inl (x3 + 1)), none] [] M))))) :
    Go (km 0 mX2_put Q) 4 [some (.inr 57), some (.inl x1), some (.inl x2), some (.inl x3), none] [] M := by
  refine a_iload_n (pc := 4) dX2_put_4 rfl ?_
  refine a_aload_n (pc := 5) dX2_put_5 rfl ?_
  refine a_geti (pc := 6) 3 dX2_put_6 f_X2_21 rfl rfl ?_
  refine a_icmp_ge (pc := 9) 32 dX2_put_9 rfl ⟨fun hc => ?_, fun hc => ?_⟩
  · replace h := h.1 hc
    refine a_iload_n (pc := 32) dX2_put_32 rfl ?_
    refine a_aload_n (pc := 33) dX2_put_33 rfl ?_
    refine a_geti (pc := 34) 3 dX2_put_34 f_X2_21 rfl rfl ?_
    refine a_icmp_ge (pc := 37) 54 dX2_put_37 rfl ⟨fun hc => ?_, fun hc => ?_⟩
    · replace h := h.1 hc
      refine a_iconst (pc := 54) dX2_put_54 (cnb rfl) ?_
      refine a_istore_n (pc := 55) dX2_put_55 (Nat.le_of_ble_eq_true rfl) ?_
      refine a_iload_n (pc := 56) dX2_put_56 rfl ?_
      refine a_if_ne (pc := 57) 69 dX2_put_57 rfl ⟨fun hc => absurd hc (by decide), fun _ => ?_⟩
      refine a_aload_n (pc := 60) dX2_put_60 rfl ?_
      refine a_geti (pc := 61) 3 dX2_put_61 f_X2_21 rfl rfl ?_
      refine a_bipush (pc := 64) dX2_put_64 (by decide) (cnb rfl) ?_
      refine a_icmp_lt (pc := 66) 70 dX2_put_66 rfl ⟨fun hc => ?_, fun hc => ?_⟩
      · replace h := h.1 hc
        refine a_aload_n (pc := 70) dX2_put_70 rfl ?_
        refine a_geti (pc := 71) 3 dX2_put_71 f_X2_21 rfl rfl ?_
        refine a_istore (pc := 74) dX2_put_74 (Nat.le_of_ble_eq_true rfl) ?_
        exact Go.weak h (And.intro rfl (And.intro rfl (And.intro rfl (And.intro rfl True.intro))))
      · replace h := h.2 hc
        exact a_ret (pc := 69) dX2_put_69 rfl h
    · replace h := h.2 hc
      refine a_aload_n (pc := 40) dX2_put_40 rfl ?_
      refine a_getr (pc := 41) dX2_put_41 f_X2_11 rfl ?_
      refine a_iload_n (pc := 44) dX2_put_44 rfl ?_
      refine a_iald (pc := 45) dX2_put_45 rfl h.1.1 h.1.2  ?_
      replace h := h.2
      refine a_iload_n (pc := 46) dX2_put_46 rfl ?_
      refine a_icmp_ne (pc := 47) 54 dX2_put_47 rfl ⟨fun hc => ?_, fun hc => ?_⟩
      · replace h := h.1 hc
        refine a_iconst (pc := 54) dX2_put_54 (cnb rfl) ?_
        refine a_istore_n (pc := 55) dX2_put_55 (Nat.le_of_ble_eq_true rfl) ?_
        refine a_iload_n (pc := 56) dX2_put_56 rfl ?_
        refine a_if_ne (pc := 57) 69 dX2_put_57 rfl ⟨fun hc => absurd hc (by decide), fun _ => ?_⟩
        refine a_aload_n (pc := 60) dX2_put_60 rfl ?_
        refine a_geti (pc := 61) 3 dX2_put_61 f_X2_21 rfl rfl ?_
        refine a_bipush (pc := 64) dX2_put_64 (by decide) (cnb rfl) ?_
        refine a_icmp_lt (pc := 66) 70 dX2_put_66 rfl ⟨fun hc => ?_, fun hc => ?_⟩
        · replace h := h.1 hc
          refine a_aload_n (pc := 70) dX2_put_70 rfl ?_
          refine a_geti (pc := 71) 3 dX2_put_71 f_X2_21 rfl rfl ?_
          refine a_istore (pc := 74) dX2_put_74 (Nat.le_of_ble_eq_true rfl) ?_
          exact Go.weak h (And.intro rfl (And.intro rfl (And.intro rfl (And.intro rfl True.intro))))
        · replace h := h.2 hc
          exact a_ret (pc := 69) dX2_put_69 rfl h
      · replace h := h.2 hc
        refine a_iconst (pc := 50) dX2_put_50 (cnb rfl) ?_
        refine a_goto (pc := 51) 55 dX2_put_51 rfl ?_
        refine a_istore_n (pc := 55) dX2_put_55 (Nat.le_of_ble_eq_true rfl) ?_
        refine a_iload_n (pc := 56) dX2_put_56 rfl ?_
        refine a_if_ne (pc := 57) 69 dX2_put_57 rfl ⟨fun _ => ?_, fun hc => absurd hc (by decide)⟩
        exact a_ret (pc := 69) dX2_put_69 rfl h
  · replace h := h.2 hc
    refine a_aload_n (pc := 12) dX2_put_12 rfl ?_
    refine a_getr (pc := 13) dX2_put_13 f_X2_11 rfl ?_
    refine a_iload_n (pc := 16) dX2_put_16 rfl ?_
    refine a_iald (pc := 17) dX2_put_17 rfl h.1.1 h.1.2  ?_
    replace h := h.2
    refine a_iload_n (pc := 18) dX2_put_18 rfl ?_
    refine a_icmp_ge (pc := 19) 26 dX2_put_19 rfl ⟨fun hc => ?_, fun hc => ?_⟩
    · replace h := h.1 hc
      refine a_iinc (pc := 26) dX2_put_26 rfl h.1 (Nat.le_of_ble_eq_true rfl) ?_
      replace h := h.2
      refine a_goto (pc := 29) 4 dX2_put_29 rfl ?_
      exact h
    · replace h := h.2 hc
      refine a_iload_n (pc := 22) dX2_put_22 rfl ?_
      refine a_iconst (pc := 23) dX2_put_23 (cnb rfl) ?_
      refine a_iadd (pc := 24) dX2_put_24 h.1 ?_
      replace h := h.2
      refine a_istore_n (pc := 25) dX2_put_25 (Nat.le_of_ble_eq_true rfl) ?_
      refine a_iinc (pc := 26) dX2_put_26 rfl h.1 (Nat.le_of_ble_eq_true rfl) ?_
      replace h := h.2
      refine a_goto (pc := 29) 4 dX2_put_29 rfl ?_
      exact h
set_option maxRecDepth 20000 in
theorem s_X2_put_76 {Q : Int → Me → Prop}  (x1 x2 x4 : Int) (M : Me) (h :
    ((x4 ≤ x2 →
    (0 ≤ x2 ∧ x2 < 32) ∧
    cn ((M 57 3) + 1) ∧
    Q 0 (mput (mput M 58 x2 x1) 57 3 ((M 57 3) + 1))) ∧ (x2 < x4 →
    cn (x4 - 1) ∧
    (0 ≤ x4 - 1 ∧ x4 - 1 < 32) ∧
    (0 ≤ x4 ∧ x4 < 32) ∧
    cn (x4 + (-1)) ∧
    Go (km 0 mX2_put Q) 76 [some (.inr 57), some (.inl x1), some (.inl x2), none, some (.inl (x4 + (-1)))] [] (mput M 58 x4 (M 58 (x4 - 1)))))) :
    Go (km 0 mX2_put Q) 76 [some (.inr 57), some (.inl x1), some (.inl x2), none, some (.inl x4)] [] M := by
  refine a_iload (pc := 76) dX2_put_76 rfl ?_
  refine a_iload_n (pc := 78) dX2_put_78 rfl ?_
  refine a_icmp_le (pc := 79) 104 dX2_put_79 rfl ⟨fun hc => ?_, fun hc => ?_⟩
  · replace h := h.1 hc
    refine a_aload_n (pc := 104) dX2_put_104 rfl ?_
    refine a_getr (pc := 105) dX2_put_105 f_X2_11 rfl ?_
    refine a_iload_n (pc := 108) dX2_put_108 rfl ?_
    refine a_iload_n (pc := 109) dX2_put_109 rfl ?_
    refine a_iast (pc := 110) dX2_put_110 rfl h.1.1 h.1.2 ?_
    replace h := h.2
    refine a_aload_n (pc := 111) dX2_put_111 rfl ?_
    refine a_dup (pc := 112) dX2_put_112 ?_
    refine a_getiE (pc := 113) (M 57 3) 3 dX2_put_113 f_X2_21 rfl rfl (mput_ne _ _ _ _ (by decide)) ?_
    refine a_iconst (pc := 116) dX2_put_116 (cnb rfl) ?_
    refine a_iadd (pc := 117) dX2_put_117 h.1 ?_
    replace h := h.2
    refine a_puti (pc := 118) 3 dX2_put_118 f_X2_21 rfl rfl (Or.inl rfl) ?_
    exact a_ret (pc := 121) dX2_put_121 rfl h
  · replace h := h.2 hc
    refine a_aload_n (pc := 82) dX2_put_82 rfl ?_
    refine a_getr (pc := 83) dX2_put_83 f_X2_11 rfl ?_
    refine a_iload (pc := 86) dX2_put_86 rfl ?_
    refine a_aload_n (pc := 88) dX2_put_88 rfl ?_
    refine a_getr (pc := 89) dX2_put_89 f_X2_11 rfl ?_
    refine a_iload (pc := 92) dX2_put_92 rfl ?_
    refine a_iconst (pc := 94) dX2_put_94 (cnb rfl) ?_
    refine a_isub (pc := 95) dX2_put_95 h.1 ?_
    replace h := h.2
    refine a_iald (pc := 96) dX2_put_96 rfl h.1.1 h.1.2  ?_
    replace h := h.2
    refine a_iast (pc := 97) dX2_put_97 rfl h.1.1 h.1.2 ?_
    replace h := h.2
    refine a_iinc (pc := 98) dX2_put_98 rfl h.1 (Nat.le_of_ble_eq_true rfl) ?_
    replace h := h.2
    refine a_goto (pc := 101) 76 dX2_put_101 rfl ?_
    exact h
set_option maxRecDepth 20000 in
theorem s_X2_gather_0 {Q : Int → Me → Prop}  (M : Me) (h :
    Go (km 1 mX2_gather Q) 7 [some (.inr 57), some (.inr 3), some (.inr 37), some (.inl 0)] [] (mput M 57 3 0)) :
    Go (km 1 mX2_gather Q) 0 [some (.inr 57), some (.inr 3), some (.inr 37), none] [] M := by
  refine a_aload_n (pc := 0) dX2_gather_0 rfl ?_
  refine a_iconst (pc := 1) dX2_gather_1 (cnb rfl) ?_
  refine a_puti (pc := 2) 3 dX2_gather_2 f_X2_21 rfl rfl (Or.inl rfl) ?_
  refine a_iconst (pc := 5) dX2_gather_5 (cnb rfl) ?_
  refine a_istore_n (pc := 6) dX2_gather_6 (Nat.le_of_ble_eq_true rfl) ?_
  exact h
set_option maxRecDepth 20000 in
theorem e_X2_gather {Q : Int → Me → Prop}  {M : Me} (h :
    Go (km 1 mX2_gather Q) 7 [some (.inr 57), some (.inr 3), some (.inr 37), some (.inl 0)] [] (mput M 57 3 0)) : Calls 1 mX2_gather [.inr 57, .inr 3, .inr 37] M Q := Calls.of (by decide) (Nat.le_of_ble_eq_true rfl) (s_X2_gather_0   M h)
set_option maxRecDepth 20000 in
theorem s_X2_gather_7 {Q : Int → Me → Prop}  (x3 : Int) (M : Me) (h :
    ((M 3 8 ≤ x3 →
    Q 0 M) ∧ (x3 < M 3 8 →
    (0 ≤ x3 ∧ x3 < 16) ∧
    Calls 0 mX2_put [.inr 57, .inl (M 4 x3)] M (fun r22 M22 =>
    (0 ≤ x3 ∧ x3 < 16) ∧
    ((M22 38 x3 ≠ 3 →
    cn (x3 + 1) ∧
    Go (km 1 mX2_gather Q) 7 [some (.inr 57), some (.inr 3), some (.inr 37), some (.inl (x3 + 1))] [] M22) ∧ (M22 38 x3 = 3 →
    (0 ≤ x3 ∧ x3 < 16) ∧
    Calls 0 mX2_put [.inr 57, .inl (M22 39 x3)] M22 (fun r42 M42 =>
    cn (x3 + 1) ∧
    Go (km 1 mX2_gather Q) 7 [some (.inr 57), some (.inr 3), some (.inr 37), some (.inl (x3 + 1))] [] M42))))))) :
    Go (km 1 mX2_gather Q) 7 [some (.inr 57), some (.inr 3), some (.inr 37), some (.inl x3)] [] M := by
  refine a_iload_n (pc := 7) dX2_gather_7 rfl ?_
  refine a_aload_n (pc := 8) dX2_gather_8 rfl ?_
  refine a_geti (pc := 9) 8 dX2_gather_9 f_X2_28 rfl rfl ?_
  refine a_icmp_ge (pc := 12) 51 dX2_gather_12 rfl ⟨fun hc => ?_, fun hc => ?_⟩
  · replace h := h.1 hc
    exact a_ret (pc := 51) dX2_gather_51 rfl h
  · replace h := h.2 hc
    refine a_aload_n (pc := 15) dX2_gather_15 rfl ?_
    refine a_aload_n (pc := 16) dX2_gather_16 rfl ?_
    refine a_getr (pc := 17) dX2_gather_17 f_X2_31 rfl ?_
    refine a_iload_n (pc := 20) dX2_gather_20 rfl ?_
    refine a_iald (pc := 21) dX2_gather_21 rfl h.1.1 h.1.2  ?_
    replace h := h.2
    refine a_callVv (pc := 22) (d := 0) (st := []) (o := 57) [.inl (M 4 x3)] dX2_gather_22 l_X2_34 in_X2_put se_X2_put rfl rfl rfl ⟨Nat.le_of_ble_eq_true rfl, Nat.le_of_ble_eq_true rfl⟩ ⟨Nat.le_of_ble_eq_true rfl, Nat.le_of_ble_eq_true rfl⟩ (Nat.le_of_ble_eq_true rfl) ?_
    refine Calls.mono (fun r22 M22 hr22 hM22 h => ?_) h
    refine a_aload_n (pc := 25) dX2_gather_25 rfl ?_
    refine a_getr (pc := 26) dX2_gather_26 f_X2_38 rfl ?_
    refine a_iload_n (pc := 29) dX2_gather_29 rfl ?_
    refine a_iald (pc := 30) dX2_gather_30 rfl h.1.1 h.1.2  ?_
    replace h := h.2
    refine a_iconst (pc := 31) dX2_gather_31 (cnb rfl) ?_
    refine a_icmp_ne (pc := 32) 45 dX2_gather_32 rfl ⟨fun hc => ?_, fun hc => ?_⟩
    · replace h := h.1 hc
      refine a_iinc (pc := 45) dX2_gather_45 rfl h.1 (Nat.le_of_ble_eq_true rfl) ?_
      replace h := h.2
      refine a_goto (pc := 48) 7 dX2_gather_48 rfl ?_
      exact h
    · replace h := h.2 hc
      refine a_aload_n (pc := 35) dX2_gather_35 rfl ?_
      refine a_aload_n (pc := 36) dX2_gather_36 rfl ?_
      refine a_getr (pc := 37) dX2_gather_37 f_X2_43 rfl ?_
      refine a_iload_n (pc := 40) dX2_gather_40 rfl ?_
      refine a_iald (pc := 41) dX2_gather_41 rfl h.1.1 h.1.2  ?_
      replace h := h.2
      refine a_callVv (pc := 42) (d := 0) (st := []) (o := 57) [.inl (M22 39 x3)] dX2_gather_42 l_X2_34 in_X2_put se_X2_put rfl rfl rfl ⟨Nat.le_of_ble_eq_true rfl, Nat.le_of_ble_eq_true rfl⟩ ⟨Nat.le_of_ble_eq_true rfl, Nat.le_of_ble_eq_true rfl⟩ (Nat.le_of_ble_eq_true rfl) ?_
      refine Calls.mono (fun r42 M42 hr42 hM42 h => ?_) h
      refine a_iinc (pc := 45) dX2_gather_45 rfl h.1 (Nat.le_of_ble_eq_true rfl) ?_
      replace h := h.2
      refine a_goto (pc := 48) 7 dX2_gather_48 rfl ?_
      exact h
set_option maxRecDepth 20000 in
theorem s_X2_within_0 {Q : Int → Me → Prop}  (a b c d : Int) (M : Me) (h :
    Go (km 0 mX2_within Q) 6 [some (.inr 57), some (.inl a), some (.inl b), some (.inl c), some (.inl d), some (.inl 0), some (.inl 0), none, none] [] M) :
    Go (km 0 mX2_within Q) 0 [some (.inr 57), some (.inl a), some (.inl b), some (.inl c), some (.inl d), none, none, none, none] [] M := by
  refine a_iconst (pc := 0) dX2_within_0 (cnb rfl) ?_
  refine a_istore (pc := 1) dX2_within_1 (Nat.le_of_ble_eq_true rfl) ?_
  refine a_iconst (pc := 3) dX2_within_3 (cnb rfl) ?_
  refine a_istore (pc := 4) dX2_within_4 (Nat.le_of_ble_eq_true rfl) ?_
  exact h
set_option maxRecDepth 20000 in
theorem e_X2_within {Q : Int → Me → Prop}  {a b c d : Int} {M : Me} (h :
    Go (km 0 mX2_within Q) 6 [some (.inr 57), some (.inl a), some (.inl b), some (.inl c), some (.inl d), some (.inl 0), some (.inl 0), none, none] [] M) : Calls 0 mX2_within [.inr 57, .inl a, .inl b, .inl c, .inl d] M Q := Calls.of (by decide) (Nat.le_of_ble_eq_true rfl) (s_X2_within_0  a b c d M h)
set_option maxRecDepth 20000 in
theorem s_X2_within_6 {Q : Int → Me → Prop}  (x1 x2 x3 x4 x5 x6 : Int) (M : Me) (h :
    ((M 57 3 ≤ x6 →
    Q x5 M) ∧ (x6 < M 57 3 →
    (0 ≤ x6 ∧ x6 < 32) ∧
    0 ≤ (M 58 x6) ∧
    (0 ≤ x6 ∧ x6 < 32) ∧
    0 ≤ (M 58 x6) ∧
    (((M 58 x6) % 24 < x1 →
    cn (x6 + 1) ∧
    Go (km 0 mX2_within Q) 6 [some (.inr 57), some (.inl x1), some (.inl x2), some (.inl x3), some (.inl x4), some (.inl x5), some (.inl (x6 + 1)), none, none] [] M) ∧ (x1 ≤ (M 58 x6) % 24 →
    ((x2 < (M 58 x6) % 24 →
    cn (x6 + 1) ∧
    Go (km 0 mX2_within Q) 6 [some (.inr 57), some (.inl x1), some (.inl x2), some (.inl x3), some (.inl x4), some (.inl x5), some (.inl (x6 + 1)), none, none] [] M) ∧ ((M 58 x6) % 24 ≤ x2 →
    (((M 58 x6) / 24 < x3 →
    cn (x6 + 1) ∧
    Go (km 0 mX2_within Q) 6 [some (.inr 57), some (.inl x1), some (.inl x2), some (.inl x3), some (.inl x4), some (.inl x5), some (.inl (x6 + 1)), none, none] [] M) ∧ (x3 ≤ (M 58 x6) / 24 →
    ((x4 < (M 58 x6) / 24 →
    cn (x6 + 1) ∧
    Go (km 0 mX2_within Q) 6 [some (.inr 57), some (.inl x1), some (.inl x2), some (.inl x3), some (.inl x4), some (.inl x5), some (.inl (x6 + 1)), none, none] [] M) ∧ ((M 58 x6) / 24 ≤ x4 →
    cn (x5 + 1) ∧
    cn (x6 + 1) ∧
    Go (km 0 mX2_within Q) 6 [some (.inr 57), some (.inl x1), some (.inl x2), some (.inl x3), some (.inl x4), some (.inl (x5 + 1)), some (.inl (x6 + 1)), none, none] [] M))))))))))) :
    Go (km 0 mX2_within Q) 6 [some (.inr 57), some (.inl x1), some (.inl x2), some (.inl x3), some (.inl x4), some (.inl x5), some (.inl x6), none, none] [] M := by
  refine a_iload (pc := 6) dX2_within_6 rfl ?_
  refine a_aload_n (pc := 8) dX2_within_8 rfl ?_
  refine a_geti (pc := 9) 3 dX2_within_9 f_X2_21 rfl rfl ?_
  refine a_icmp_ge (pc := 12) 73 dX2_within_12 rfl ⟨fun hc => ?_, fun hc => ?_⟩
  · replace h := h.1 hc
    refine a_iload (pc := 73) dX2_within_73 rfl ?_
    exact a_iretI (pc := 75) dX2_within_75 rfl h
  · replace h := h.2 hc
    refine a_aload_n (pc := 15) dX2_within_15 rfl ?_
    refine a_getr (pc := 16) dX2_within_16 f_X2_11 rfl ?_
    refine a_iload (pc := 19) dX2_within_19 rfl ?_
    refine a_iald (pc := 21) dX2_within_21 rfl h.1.1 h.1.2  ?_
    replace h := h.2
    refine a_bipush (pc := 22) dX2_within_22 (by decide) (cnb rfl) ?_
    refine a_iremn (pc := 24) dX2_within_24 (by decide) h.1 ?_
    replace h := h.2
    refine a_istore (pc := 25) dX2_within_25 (Nat.le_of_ble_eq_true rfl) ?_
    refine a_aload_n (pc := 27) dX2_within_27 rfl ?_
    refine a_getr (pc := 28) dX2_within_28 f_X2_11 rfl ?_
    refine a_iload (pc := 31) dX2_within_31 rfl ?_
    refine a_iald (pc := 33) dX2_within_33 rfl h.1.1 h.1.2  ?_
    replace h := h.2
    refine a_bipush (pc := 34) dX2_within_34 (by decide) (cnb rfl) ?_
    refine a_idivn (pc := 36) dX2_within_36 (by decide) h.1 ?_
    replace h := h.2
    refine a_istore (pc := 37) dX2_within_37 (Nat.le_of_ble_eq_true rfl) ?_
    refine a_iload (pc := 39) dX2_within_39 rfl ?_
    refine a_iload_n (pc := 41) dX2_within_41 rfl ?_
    refine a_icmp_lt (pc := 42) 67 dX2_within_42 rfl ⟨fun hc => ?_, fun hc => ?_⟩
    · replace h := h.1 hc
      refine a_iinc (pc := 67) dX2_within_67 rfl h.1 (Nat.le_of_ble_eq_true rfl) ?_
      replace h := h.2
      refine a_goto (pc := 70) 6 dX2_within_70 rfl ?_
      exact Go.weak h (And.intro rfl (And.intro rfl (And.intro rfl (And.intro rfl (And.intro rfl (And.intro rfl (And.intro rfl True.intro)))))))
    · replace h := h.2 hc
      refine a_iload (pc := 45) dX2_within_45 rfl ?_
      refine a_iload_n (pc := 47) dX2_within_47 rfl ?_
      refine a_icmp_gt (pc := 48) 67 dX2_within_48 rfl ⟨fun hc => ?_, fun hc => ?_⟩
      · replace h := h.1 hc
        refine a_iinc (pc := 67) dX2_within_67 rfl h.1 (Nat.le_of_ble_eq_true rfl) ?_
        replace h := h.2
        refine a_goto (pc := 70) 6 dX2_within_70 rfl ?_
        exact Go.weak h (And.intro rfl (And.intro rfl (And.intro rfl (And.intro rfl (And.intro rfl (And.intro rfl (And.intro rfl True.intro)))))))
      · replace h := h.2 hc
        refine a_iload (pc := 51) dX2_within_51 rfl ?_
        refine a_iload_n (pc := 53) dX2_within_53 rfl ?_
        refine a_icmp_lt (pc := 54) 67 dX2_within_54 rfl ⟨fun hc => ?_, fun hc => ?_⟩
        · replace h := h.1 hc
          refine a_iinc (pc := 67) dX2_within_67 rfl h.1 (Nat.le_of_ble_eq_true rfl) ?_
          replace h := h.2
          refine a_goto (pc := 70) 6 dX2_within_70 rfl ?_
          exact Go.weak h (And.intro rfl (And.intro rfl (And.intro rfl (And.intro rfl (And.intro rfl (And.intro rfl (And.intro rfl True.intro)))))))
        · replace h := h.2 hc
          refine a_iload (pc := 57) dX2_within_57 rfl ?_
          refine a_iload (pc := 59) dX2_within_59 rfl ?_
          refine a_icmp_gt (pc := 61) 67 dX2_within_61 rfl ⟨fun hc => ?_, fun hc => ?_⟩
          · replace h := h.1 hc
            refine a_iinc (pc := 67) dX2_within_67 rfl h.1 (Nat.le_of_ble_eq_true rfl) ?_
            replace h := h.2
            refine a_goto (pc := 70) 6 dX2_within_70 rfl ?_
            exact Go.weak h (And.intro rfl (And.intro rfl (And.intro rfl (And.intro rfl (And.intro rfl (And.intro rfl (And.intro rfl True.intro)))))))
          · replace h := h.2 hc
            refine a_iinc (pc := 64) dX2_within_64 rfl h.1 (Nat.le_of_ble_eq_true rfl) ?_
            replace h := h.2
            refine a_iinc (pc := 67) dX2_within_67 rfl h.1 (Nat.le_of_ble_eq_true rfl) ?_
            replace h := h.2
            refine a_goto (pc := 70) 6 dX2_within_70 rfl ?_
            exact Go.weak h (And.intro rfl (And.intro rfl (And.intro rfl (And.intro rfl (And.intro rfl (And.intro rfl (And.intro rfl True.intro)))))))
set_option maxRecDepth 20000 in
theorem s_X11_yard_0 {Q : Int → Me → Prop}  (a b c d : Int) (M : Me) (h :
    ((0 ≤ a ∧ a < 24 →
    ((0 ≤ b ∧ b < 24 →
    ((b < a →
    ((0 ≤ c ∧ c < 16 →
    ((0 ≤ d ∧ d < 16 →
    ((d < c →
    Q (-1) M) ∧ (c ≤ d →
    Q (-1) M))) ∧ (¬ (0 ≤ d ∧ d < 16) →
    Q (-1) M))) ∧ (¬ (0 ≤ c ∧ c < 16) →
    Q (-1) M))) ∧ (a ≤ b →
    ((0 ≤ c ∧ c < 16 →
    ((0 ≤ d ∧ d < 16 →
    ((d < c →
    Q (-1) M) ∧ (c ≤ d →
    Calls 1 mX2_gather [.inr 57, .inr 3, .inr 37] M (fun r78 M78 =>
    Calls 0 mX2_within [.inr 57, .inl a, .inl b, .inl c, .inl d] M78 (fun r90 M90 =>
    Q r90 M90))))) ∧ (¬ (0 ≤ d ∧ d < 16) →
    Q (-1) M))) ∧ (¬ (0 ≤ c ∧ c < 16) →
    Q (-1) M))))) ∧ (¬ (0 ≤ b ∧ b < 24) →
    ((0 ≤ c ∧ c < 16 →
    ((0 ≤ d ∧ d < 16 →
    ((d < c →
    Q (-1) M) ∧ (c ≤ d →
    Q (-1) M))) ∧ (¬ (0 ≤ d ∧ d < 16) →
    Q (-1) M))) ∧ (¬ (0 ≤ c ∧ c < 16) →
    Q (-1) M))))) ∧ (¬ (0 ≤ a ∧ a < 24) →
    ((0 ≤ c ∧ c < 16 →
    ((0 ≤ d ∧ d < 16 →
    ((d < c →
    Q (-1) M) ∧ (c ≤ d →
    Q (-1) M))) ∧ (¬ (0 ≤ d ∧ d < 16) →
    Q (-1) M))) ∧ (¬ (0 ≤ c ∧ c < 16) →
    Q (-1) M))))) :
    Go (km 2 mX11_yard Q) 0 [some (.inr 0), some (.inl a), some (.inl b), some (.inl c), some (.inl d), none, none] [] M := by
  refine a_iload_n (pc := 0) dX11_yard_0 rfl ?_
  refine a_callSi (pc := 1) (d := 0) (st := []) [.inl a] dX11_yard_1 l_X11_108 st_X11_isAcross rfl ⟨Nat.le_of_ble_eq_true rfl, Nat.le_of_ble_eq_true rfl⟩ ⟨Nat.le_of_ble_eq_true rfl, Nat.le_of_ble_eq_true rfl⟩ (Nat.le_of_ble_eq_true rfl) ?_
  refine p_X11_isAcross ⟨fun hc => ?_, fun hc => ?_⟩
  · replace h := h.1 hc
    refine a_if_eq (pc := 4) 23 dX11_yard_4 rfl ⟨fun hc => absurd hc (by decide), fun _ => ?_⟩
    refine a_iload_n (pc := 7) dX11_yard_7 rfl ?_
    refine a_callSi (pc := 8) (d := 0) (st := []) [.inl b] dX11_yard_8 l_X11_108 st_X11_isAcross rfl ⟨Nat.le_of_ble_eq_true rfl, Nat.le_of_ble_eq_true rfl⟩ ⟨Nat.le_of_ble_eq_true rfl, Nat.le_of_ble_eq_true rfl⟩ (Nat.le_of_ble_eq_true rfl) ?_
    refine p_X11_isAcross ⟨fun hc => ?_, fun hc => ?_⟩
    · replace h := h.1 hc
      refine a_if_eq (pc := 11) 23 dX11_yard_11 rfl ⟨fun hc => absurd hc (by decide), fun _ => ?_⟩
      refine a_iload_n (pc := 14) dX11_yard_14 rfl ?_
      refine a_iload_n (pc := 15) dX11_yard_15 rfl ?_
      refine a_icmp_gt (pc := 16) 23 dX11_yard_16 rfl ⟨fun hc => ?_, fun hc => ?_⟩
      · replace h := h.1 hc
        refine a_iconst (pc := 23) dX11_yard_23 (cnb rfl) ?_
        refine a_istore (pc := 24) dX11_yard_24 (Nat.le_of_ble_eq_true rfl) ?_
        refine a_iload_n (pc := 26) dX11_yard_26 rfl ?_
        refine a_callSi (pc := 27) (d := 0) (st := []) [.inl c] dX11_yard_27 l_X11_111 st_X11_isAlong rfl ⟨Nat.le_of_ble_eq_true rfl, Nat.le_of_ble_eq_true rfl⟩ ⟨Nat.le_of_ble_eq_true rfl, Nat.le_of_ble_eq_true rfl⟩ (Nat.le_of_ble_eq_true rfl) ?_
        refine p_X11_isAlong ⟨fun hc => ?_, fun hc => ?_⟩
        · replace h := h.1 hc
          refine a_if_eq (pc := 30) 51 dX11_yard_30 rfl ⟨fun hc => absurd hc (by decide), fun _ => ?_⟩
          refine a_iload (pc := 33) dX11_yard_33 rfl ?_
          refine a_callSi (pc := 35) (d := 0) (st := []) [.inl d] dX11_yard_35 l_X11_111 st_X11_isAlong rfl ⟨Nat.le_of_ble_eq_true rfl, Nat.le_of_ble_eq_true rfl⟩ ⟨Nat.le_of_ble_eq_true rfl, Nat.le_of_ble_eq_true rfl⟩ (Nat.le_of_ble_eq_true rfl) ?_
          refine p_X11_isAlong ⟨fun hc => ?_, fun hc => ?_⟩
          · replace h := h.1 hc
            refine a_if_eq (pc := 38) 51 dX11_yard_38 rfl ⟨fun hc => absurd hc (by decide), fun _ => ?_⟩
            refine a_iload_n (pc := 41) dX11_yard_41 rfl ?_
            refine a_iload (pc := 42) dX11_yard_42 rfl ?_
            refine a_icmp_gt (pc := 44) 51 dX11_yard_44 rfl ⟨fun hc => ?_, fun hc => ?_⟩
            · replace h := h.1 hc
              refine a_iconst (pc := 51) dX11_yard_51 (cnb rfl) ?_
              refine a_istore (pc := 52) dX11_yard_52 (Nat.le_of_ble_eq_true rfl) ?_
              refine a_iload (pc := 54) dX11_yard_54 rfl ?_
              refine a_if_eq (pc := 56) 64 dX11_yard_56 rfl ⟨fun _ => ?_, fun hc => absurd hc (by decide)⟩
              refine a_iconst (pc := 64) dX11_yard_64 (cnb rfl) ?_
              exact a_iretI (pc := 65) dX11_yard_65 rfl h
            · replace h := h.2 hc
              refine a_iconst (pc := 47) dX11_yard_47 (cnb rfl) ?_
              refine a_goto (pc := 48) 52 dX11_yard_48 rfl ?_
              refine a_istore (pc := 52) dX11_yard_52 (Nat.le_of_ble_eq_true rfl) ?_
              refine a_iload (pc := 54) dX11_yard_54 rfl ?_
              refine a_if_eq (pc := 56) 64 dX11_yard_56 rfl ⟨fun _ => ?_, fun hc => absurd hc (by decide)⟩
              refine a_iconst (pc := 64) dX11_yard_64 (cnb rfl) ?_
              exact a_iretI (pc := 65) dX11_yard_65 rfl h
          · replace h := h.2 hc
            refine a_if_eq (pc := 38) 51 dX11_yard_38 rfl ⟨fun _ => ?_, fun hc => absurd hc (by decide)⟩
            refine a_iconst (pc := 51) dX11_yard_51 (cnb rfl) ?_
            refine a_istore (pc := 52) dX11_yard_52 (Nat.le_of_ble_eq_true rfl) ?_
            refine a_iload (pc := 54) dX11_yard_54 rfl ?_
            refine a_if_eq (pc := 56) 64 dX11_yard_56 rfl ⟨fun _ => ?_, fun hc => absurd hc (by decide)⟩
            refine a_iconst (pc := 64) dX11_yard_64 (cnb rfl) ?_
            exact a_iretI (pc := 65) dX11_yard_65 rfl h
        · replace h := h.2 hc
          refine a_if_eq (pc := 30) 51 dX11_yard_30 rfl ⟨fun _ => ?_, fun hc => absurd hc (by decide)⟩
          refine a_iconst (pc := 51) dX11_yard_51 (cnb rfl) ?_
          refine a_istore (pc := 52) dX11_yard_52 (Nat.le_of_ble_eq_true rfl) ?_
          refine a_iload (pc := 54) dX11_yard_54 rfl ?_
          refine a_if_eq (pc := 56) 64 dX11_yard_56 rfl ⟨fun _ => ?_, fun hc => absurd hc (by decide)⟩
          refine a_iconst (pc := 64) dX11_yard_64 (cnb rfl) ?_
          exact a_iretI (pc := 65) dX11_yard_65 rfl h
      · replace h := h.2 hc
        refine a_iconst (pc := 19) dX11_yard_19 (cnb rfl) ?_
        refine a_goto (pc := 20) 24 dX11_yard_20 rfl ?_
        refine a_istore (pc := 24) dX11_yard_24 (Nat.le_of_ble_eq_true rfl) ?_
        refine a_iload_n (pc := 26) dX11_yard_26 rfl ?_
        refine a_callSi (pc := 27) (d := 0) (st := []) [.inl c] dX11_yard_27 l_X11_111 st_X11_isAlong rfl ⟨Nat.le_of_ble_eq_true rfl, Nat.le_of_ble_eq_true rfl⟩ ⟨Nat.le_of_ble_eq_true rfl, Nat.le_of_ble_eq_true rfl⟩ (Nat.le_of_ble_eq_true rfl) ?_
        refine p_X11_isAlong ⟨fun hc => ?_, fun hc => ?_⟩
        · replace h := h.1 hc
          refine a_if_eq (pc := 30) 51 dX11_yard_30 rfl ⟨fun hc => absurd hc (by decide), fun _ => ?_⟩
          refine a_iload (pc := 33) dX11_yard_33 rfl ?_
          refine a_callSi (pc := 35) (d := 0) (st := []) [.inl d] dX11_yard_35 l_X11_111 st_X11_isAlong rfl ⟨Nat.le_of_ble_eq_true rfl, Nat.le_of_ble_eq_true rfl⟩ ⟨Nat.le_of_ble_eq_true rfl, Nat.le_of_ble_eq_true rfl⟩ (Nat.le_of_ble_eq_true rfl) ?_
          refine p_X11_isAlong ⟨fun hc => ?_, fun hc => ?_⟩
          · replace h := h.1 hc
            refine a_if_eq (pc := 38) 51 dX11_yard_38 rfl ⟨fun hc => absurd hc (by decide), fun _ => ?_⟩
            refine a_iload_n (pc := 41) dX11_yard_41 rfl ?_
            refine a_iload (pc := 42) dX11_yard_42 rfl ?_
            refine a_icmp_gt (pc := 44) 51 dX11_yard_44 rfl ⟨fun hc => ?_, fun hc => ?_⟩
            · replace h := h.1 hc
              refine a_iconst (pc := 51) dX11_yard_51 (cnb rfl) ?_
              refine a_istore (pc := 52) dX11_yard_52 (Nat.le_of_ble_eq_true rfl) ?_
              refine a_iload (pc := 54) dX11_yard_54 rfl ?_
              refine a_if_eq (pc := 56) 64 dX11_yard_56 rfl ⟨fun hc => absurd hc (by decide), fun _ => ?_⟩
              refine a_iload (pc := 59) dX11_yard_59 rfl ?_
              refine a_if_ne (pc := 61) 66 dX11_yard_61 rfl ⟨fun hc => absurd hc (by decide), fun _ => ?_⟩
              refine a_iconst (pc := 64) dX11_yard_64 (cnb rfl) ?_
              exact a_iretI (pc := 65) dX11_yard_65 rfl h
            · replace h := h.2 hc
              refine a_iconst (pc := 47) dX11_yard_47 (cnb rfl) ?_
              refine a_goto (pc := 48) 52 dX11_yard_48 rfl ?_
              refine a_istore (pc := 52) dX11_yard_52 (Nat.le_of_ble_eq_true rfl) ?_
              refine a_iload (pc := 54) dX11_yard_54 rfl ?_
              refine a_if_eq (pc := 56) 64 dX11_yard_56 rfl ⟨fun hc => absurd hc (by decide), fun _ => ?_⟩
              refine a_iload (pc := 59) dX11_yard_59 rfl ?_
              refine a_if_ne (pc := 61) 66 dX11_yard_61 rfl ⟨fun _ => ?_, fun hc => absurd hc (by decide)⟩
              refine a_aload_n (pc := 66) dX11_yard_66 rfl ?_
              refine a_getr (pc := 67) dX11_yard_67 f_X11_71 rfl ?_
              refine a_aload_n (pc := 70) dX11_yard_70 rfl ?_
              refine a_getr (pc := 71) dX11_yard_71 f_X11_19 rfl ?_
              refine a_aload_n (pc := 74) dX11_yard_74 rfl ?_
              refine a_getr (pc := 75) dX11_yard_75 f_X11_49 rfl ?_
              refine a_callVv (pc := 78) (d := 1) (st := []) (o := 57) [.inr 3, .inr 37] dX11_yard_78 l_X11_226 in_X2_gather se_X2_gather rfl rfl rfl ⟨Nat.le_of_ble_eq_true rfl, Nat.le_of_ble_eq_true rfl⟩ ⟨Nat.le_of_ble_eq_true rfl, Nat.le_of_ble_eq_true rfl⟩ (Nat.le_of_ble_eq_true rfl) ?_
              refine Calls.mono (fun r78 M78 hr78 hM78 h => ?_) h
              refine a_aload_n (pc := 81) dX11_yard_81 rfl ?_
              refine a_getr (pc := 82) dX11_yard_82 f_X11_71 rfl ?_
              refine a_iload_n (pc := 85) dX11_yard_85 rfl ?_
              refine a_iload_n (pc := 86) dX11_yard_86 rfl ?_
              refine a_iload_n (pc := 87) dX11_yard_87 rfl ?_
              refine a_iload (pc := 88) dX11_yard_88 rfl ?_
              refine a_callVi (pc := 90) (d := 0) (st := []) (o := 57) [.inl a, .inl b, .inl c, .inl d] dX11_yard_90 l_X11_230 in_X2_within se_X2_within rfl rfl rfl ⟨Nat.le_of_ble_eq_true rfl, Nat.le_of_ble_eq_true rfl⟩ ⟨Nat.le_of_ble_eq_true rfl, Nat.le_of_ble_eq_true rfl⟩ (Nat.le_of_ble_eq_true rfl) ?_
              refine Calls.mono (fun r90 M90 hr90 hM90 h => ?_) h
              exact a_iretI (pc := 93) dX11_yard_93 rfl h
          · replace h := h.2 hc
            refine a_if_eq (pc := 38) 51 dX11_yard_38 rfl ⟨fun _ => ?_, fun hc => absurd hc (by decide)⟩
            refine a_iconst (pc := 51) dX11_yard_51 (cnb rfl) ?_
            refine a_istore (pc := 52) dX11_yard_52 (Nat.le_of_ble_eq_true rfl) ?_
            refine a_iload (pc := 54) dX11_yard_54 rfl ?_
            refine a_if_eq (pc := 56) 64 dX11_yard_56 rfl ⟨fun hc => absurd hc (by decide), fun _ => ?_⟩
            refine a_iload (pc := 59) dX11_yard_59 rfl ?_
            refine a_if_ne (pc := 61) 66 dX11_yard_61 rfl ⟨fun hc => absurd hc (by decide), fun _ => ?_⟩
            refine a_iconst (pc := 64) dX11_yard_64 (cnb rfl) ?_
            exact a_iretI (pc := 65) dX11_yard_65 rfl h
        · replace h := h.2 hc
          refine a_if_eq (pc := 30) 51 dX11_yard_30 rfl ⟨fun _ => ?_, fun hc => absurd hc (by decide)⟩
          refine a_iconst (pc := 51) dX11_yard_51 (cnb rfl) ?_
          refine a_istore (pc := 52) dX11_yard_52 (Nat.le_of_ble_eq_true rfl) ?_
          refine a_iload (pc := 54) dX11_yard_54 rfl ?_
          refine a_if_eq (pc := 56) 64 dX11_yard_56 rfl ⟨fun hc => absurd hc (by decide), fun _ => ?_⟩
          refine a_iload (pc := 59) dX11_yard_59 rfl ?_
          refine a_if_ne (pc := 61) 66 dX11_yard_61 rfl ⟨fun hc => absurd hc (by decide), fun _ => ?_⟩
          refine a_iconst (pc := 64) dX11_yard_64 (cnb rfl) ?_
          exact a_iretI (pc := 65) dX11_yard_65 rfl h
    · replace h := h.2 hc
      refine a_if_eq (pc := 11) 23 dX11_yard_11 rfl ⟨fun _ => ?_, fun hc => absurd hc (by decide)⟩
      refine a_iconst (pc := 23) dX11_yard_23 (cnb rfl) ?_
      refine a_istore (pc := 24) dX11_yard_24 (Nat.le_of_ble_eq_true rfl) ?_
      refine a_iload_n (pc := 26) dX11_yard_26 rfl ?_
      refine a_callSi (pc := 27) (d := 0) (st := []) [.inl c] dX11_yard_27 l_X11_111 st_X11_isAlong rfl ⟨Nat.le_of_ble_eq_true rfl, Nat.le_of_ble_eq_true rfl⟩ ⟨Nat.le_of_ble_eq_true rfl, Nat.le_of_ble_eq_true rfl⟩ (Nat.le_of_ble_eq_true rfl) ?_
      refine p_X11_isAlong ⟨fun hc => ?_, fun hc => ?_⟩
      · replace h := h.1 hc
        refine a_if_eq (pc := 30) 51 dX11_yard_30 rfl ⟨fun hc => absurd hc (by decide), fun _ => ?_⟩
        refine a_iload (pc := 33) dX11_yard_33 rfl ?_
        refine a_callSi (pc := 35) (d := 0) (st := []) [.inl d] dX11_yard_35 l_X11_111 st_X11_isAlong rfl ⟨Nat.le_of_ble_eq_true rfl, Nat.le_of_ble_eq_true rfl⟩ ⟨Nat.le_of_ble_eq_true rfl, Nat.le_of_ble_eq_true rfl⟩ (Nat.le_of_ble_eq_true rfl) ?_
        refine p_X11_isAlong ⟨fun hc => ?_, fun hc => ?_⟩
        · replace h := h.1 hc
          refine a_if_eq (pc := 38) 51 dX11_yard_38 rfl ⟨fun hc => absurd hc (by decide), fun _ => ?_⟩
          refine a_iload_n (pc := 41) dX11_yard_41 rfl ?_
          refine a_iload (pc := 42) dX11_yard_42 rfl ?_
          refine a_icmp_gt (pc := 44) 51 dX11_yard_44 rfl ⟨fun hc => ?_, fun hc => ?_⟩
          · replace h := h.1 hc
            refine a_iconst (pc := 51) dX11_yard_51 (cnb rfl) ?_
            refine a_istore (pc := 52) dX11_yard_52 (Nat.le_of_ble_eq_true rfl) ?_
            refine a_iload (pc := 54) dX11_yard_54 rfl ?_
            refine a_if_eq (pc := 56) 64 dX11_yard_56 rfl ⟨fun _ => ?_, fun hc => absurd hc (by decide)⟩
            refine a_iconst (pc := 64) dX11_yard_64 (cnb rfl) ?_
            exact a_iretI (pc := 65) dX11_yard_65 rfl h
          · replace h := h.2 hc
            refine a_iconst (pc := 47) dX11_yard_47 (cnb rfl) ?_
            refine a_goto (pc := 48) 52 dX11_yard_48 rfl ?_
            refine a_istore (pc := 52) dX11_yard_52 (Nat.le_of_ble_eq_true rfl) ?_
            refine a_iload (pc := 54) dX11_yard_54 rfl ?_
            refine a_if_eq (pc := 56) 64 dX11_yard_56 rfl ⟨fun _ => ?_, fun hc => absurd hc (by decide)⟩
            refine a_iconst (pc := 64) dX11_yard_64 (cnb rfl) ?_
            exact a_iretI (pc := 65) dX11_yard_65 rfl h
        · replace h := h.2 hc
          refine a_if_eq (pc := 38) 51 dX11_yard_38 rfl ⟨fun _ => ?_, fun hc => absurd hc (by decide)⟩
          refine a_iconst (pc := 51) dX11_yard_51 (cnb rfl) ?_
          refine a_istore (pc := 52) dX11_yard_52 (Nat.le_of_ble_eq_true rfl) ?_
          refine a_iload (pc := 54) dX11_yard_54 rfl ?_
          refine a_if_eq (pc := 56) 64 dX11_yard_56 rfl ⟨fun _ => ?_, fun hc => absurd hc (by decide)⟩
          refine a_iconst (pc := 64) dX11_yard_64 (cnb rfl) ?_
          exact a_iretI (pc := 65) dX11_yard_65 rfl h
      · replace h := h.2 hc
        refine a_if_eq (pc := 30) 51 dX11_yard_30 rfl ⟨fun _ => ?_, fun hc => absurd hc (by decide)⟩
        refine a_iconst (pc := 51) dX11_yard_51 (cnb rfl) ?_
        refine a_istore (pc := 52) dX11_yard_52 (Nat.le_of_ble_eq_true rfl) ?_
        refine a_iload (pc := 54) dX11_yard_54 rfl ?_
        refine a_if_eq (pc := 56) 64 dX11_yard_56 rfl ⟨fun _ => ?_, fun hc => absurd hc (by decide)⟩
        refine a_iconst (pc := 64) dX11_yard_64 (cnb rfl) ?_
        exact a_iretI (pc := 65) dX11_yard_65 rfl h
  · replace h := h.2 hc
    refine a_if_eq (pc := 4) 23 dX11_yard_4 rfl ⟨fun _ => ?_, fun hc => absurd hc (by decide)⟩
    refine a_iconst (pc := 23) dX11_yard_23 (cnb rfl) ?_
    refine a_istore (pc := 24) dX11_yard_24 (Nat.le_of_ble_eq_true rfl) ?_
    refine a_iload_n (pc := 26) dX11_yard_26 rfl ?_
    refine a_callSi (pc := 27) (d := 0) (st := []) [.inl c] dX11_yard_27 l_X11_111 st_X11_isAlong rfl ⟨Nat.le_of_ble_eq_true rfl, Nat.le_of_ble_eq_true rfl⟩ ⟨Nat.le_of_ble_eq_true rfl, Nat.le_of_ble_eq_true rfl⟩ (Nat.le_of_ble_eq_true rfl) ?_
    refine p_X11_isAlong ⟨fun hc => ?_, fun hc => ?_⟩
    · replace h := h.1 hc
      refine a_if_eq (pc := 30) 51 dX11_yard_30 rfl ⟨fun hc => absurd hc (by decide), fun _ => ?_⟩
      refine a_iload (pc := 33) dX11_yard_33 rfl ?_
      refine a_callSi (pc := 35) (d := 0) (st := []) [.inl d] dX11_yard_35 l_X11_111 st_X11_isAlong rfl ⟨Nat.le_of_ble_eq_true rfl, Nat.le_of_ble_eq_true rfl⟩ ⟨Nat.le_of_ble_eq_true rfl, Nat.le_of_ble_eq_true rfl⟩ (Nat.le_of_ble_eq_true rfl) ?_
      refine p_X11_isAlong ⟨fun hc => ?_, fun hc => ?_⟩
      · replace h := h.1 hc
        refine a_if_eq (pc := 38) 51 dX11_yard_38 rfl ⟨fun hc => absurd hc (by decide), fun _ => ?_⟩
        refine a_iload_n (pc := 41) dX11_yard_41 rfl ?_
        refine a_iload (pc := 42) dX11_yard_42 rfl ?_
        refine a_icmp_gt (pc := 44) 51 dX11_yard_44 rfl ⟨fun hc => ?_, fun hc => ?_⟩
        · replace h := h.1 hc
          refine a_iconst (pc := 51) dX11_yard_51 (cnb rfl) ?_
          refine a_istore (pc := 52) dX11_yard_52 (Nat.le_of_ble_eq_true rfl) ?_
          refine a_iload (pc := 54) dX11_yard_54 rfl ?_
          refine a_if_eq (pc := 56) 64 dX11_yard_56 rfl ⟨fun _ => ?_, fun hc => absurd hc (by decide)⟩
          refine a_iconst (pc := 64) dX11_yard_64 (cnb rfl) ?_
          exact a_iretI (pc := 65) dX11_yard_65 rfl h
        · replace h := h.2 hc
          refine a_iconst (pc := 47) dX11_yard_47 (cnb rfl) ?_
          refine a_goto (pc := 48) 52 dX11_yard_48 rfl ?_
          refine a_istore (pc := 52) dX11_yard_52 (Nat.le_of_ble_eq_true rfl) ?_
          refine a_iload (pc := 54) dX11_yard_54 rfl ?_
          refine a_if_eq (pc := 56) 64 dX11_yard_56 rfl ⟨fun _ => ?_, fun hc => absurd hc (by decide)⟩
          refine a_iconst (pc := 64) dX11_yard_64 (cnb rfl) ?_
          exact a_iretI (pc := 65) dX11_yard_65 rfl h
      · replace h := h.2 hc
        refine a_if_eq (pc := 38) 51 dX11_yard_38 rfl ⟨fun _ => ?_, fun hc => absurd hc (by decide)⟩
        refine a_iconst (pc := 51) dX11_yard_51 (cnb rfl) ?_
        refine a_istore (pc := 52) dX11_yard_52 (Nat.le_of_ble_eq_true rfl) ?_
        refine a_iload (pc := 54) dX11_yard_54 rfl ?_
        refine a_if_eq (pc := 56) 64 dX11_yard_56 rfl ⟨fun _ => ?_, fun hc => absurd hc (by decide)⟩
        refine a_iconst (pc := 64) dX11_yard_64 (cnb rfl) ?_
        exact a_iretI (pc := 65) dX11_yard_65 rfl h
    · replace h := h.2 hc
      refine a_if_eq (pc := 30) 51 dX11_yard_30 rfl ⟨fun _ => ?_, fun hc => absurd hc (by decide)⟩
      refine a_iconst (pc := 51) dX11_yard_51 (cnb rfl) ?_
      refine a_istore (pc := 52) dX11_yard_52 (Nat.le_of_ble_eq_true rfl) ?_
      refine a_iload (pc := 54) dX11_yard_54 rfl ?_
      refine a_if_eq (pc := 56) 64 dX11_yard_56 rfl ⟨fun _ => ?_, fun hc => absurd hc (by decide)⟩
      refine a_iconst (pc := 64) dX11_yard_64 (cnb rfl) ?_
      exact a_iretI (pc := 65) dX11_yard_65 rfl h
set_option maxRecDepth 20000 in
theorem e_X11_yard {Q : Int → Me → Prop}  {a b c d : Int} {M : Me} (h :
    ((0 ≤ a ∧ a < 24 →
    ((0 ≤ b ∧ b < 24 →
    ((b < a →
    ((0 ≤ c ∧ c < 16 →
    ((0 ≤ d ∧ d < 16 →
    ((d < c →
    Q (-1) M) ∧ (c ≤ d →
    Q (-1) M))) ∧ (¬ (0 ≤ d ∧ d < 16) →
    Q (-1) M))) ∧ (¬ (0 ≤ c ∧ c < 16) →
    Q (-1) M))) ∧ (a ≤ b →
    ((0 ≤ c ∧ c < 16 →
    ((0 ≤ d ∧ d < 16 →
    ((d < c →
    Q (-1) M) ∧ (c ≤ d →
    Calls 1 mX2_gather [.inr 57, .inr 3, .inr 37] M (fun r78 M78 =>
    Calls 0 mX2_within [.inr 57, .inl a, .inl b, .inl c, .inl d] M78 (fun r90 M90 =>
    Q r90 M90))))) ∧ (¬ (0 ≤ d ∧ d < 16) →
    Q (-1) M))) ∧ (¬ (0 ≤ c ∧ c < 16) →
    Q (-1) M))))) ∧ (¬ (0 ≤ b ∧ b < 24) →
    ((0 ≤ c ∧ c < 16 →
    ((0 ≤ d ∧ d < 16 →
    ((d < c →
    Q (-1) M) ∧ (c ≤ d →
    Q (-1) M))) ∧ (¬ (0 ≤ d ∧ d < 16) →
    Q (-1) M))) ∧ (¬ (0 ≤ c ∧ c < 16) →
    Q (-1) M))))) ∧ (¬ (0 ≤ a ∧ a < 24) →
    ((0 ≤ c ∧ c < 16 →
    ((0 ≤ d ∧ d < 16 →
    ((d < c →
    Q (-1) M) ∧ (c ≤ d →
    Q (-1) M))) ∧ (¬ (0 ≤ d ∧ d < 16) →
    Q (-1) M))) ∧ (¬ (0 ≤ c ∧ c < 16) →
    Q (-1) M))))) : Calls 2 mX11_yard [.inr 0, .inl a, .inl b, .inl c, .inl d] M Q := Calls.of (by decide) (Nat.le_of_ble_eq_true rfl) (s_X11_yard_0  a b c d M h)
set_option maxRecDepth 20000 in
theorem s_X11_trees_0 {Q : Int → Me → Prop}  (M : Me) (h :
    Calls 1 mX2_gather [.inr 57, .inr 3, .inr 37] M (fun r12 M12 =>
    Q (M12 57 3) M12)) :
    Go (km 2 mX11_trees Q) 0 [some (.inr 0)] [] M := by
  refine a_aload_n (pc := 0) dX11_trees_0 rfl ?_
  refine a_getr (pc := 1) dX11_trees_1 f_X11_71 rfl ?_
  refine a_aload_n (pc := 4) dX11_trees_4 rfl ?_
  refine a_getr (pc := 5) dX11_trees_5 f_X11_19 rfl ?_
  refine a_aload_n (pc := 8) dX11_trees_8 rfl ?_
  refine a_getr (pc := 9) dX11_trees_9 f_X11_49 rfl ?_
  refine a_callVv (pc := 12) (d := 1) (st := []) (o := 57) [.inr 3, .inr 37] dX11_trees_12 l_X11_226 in_X2_gather se_X2_gather rfl rfl rfl ⟨Nat.le_of_ble_eq_true rfl, Nat.le_of_ble_eq_true rfl⟩ ⟨Nat.le_of_ble_eq_true rfl, Nat.le_of_ble_eq_true rfl⟩ (Nat.le_of_ble_eq_true rfl) ?_
  refine Calls.mono (fun r12 M12 hr12 hM12 h => ?_) h
  refine a_aload_n (pc := 15) dX11_trees_15 rfl ?_
  refine a_getr (pc := 16) dX11_trees_16 f_X11_71 rfl ?_
  refine a_geti (pc := 19) 3 dX11_trees_19 f_X11_254 rfl rfl ?_
  exact a_iretI (pc := 22) dX11_trees_22 rfl h
set_option maxRecDepth 20000 in
theorem e_X11_trees {Q : Int → Me → Prop}  {M : Me} (h :
    Calls 1 mX2_gather [.inr 57, .inr 3, .inr 37] M (fun r12 M12 =>
    Q (M12 57 3) M12)) : Calls 2 mX11_trees [.inr 0] M Q := Calls.of (by decide) (Nat.le_of_ble_eq_true rfl) (s_X11_trees_0   M h)
set_option maxRecDepth 20000 in
theorem s_X12_isTree_0 {Q : Int → Me → Prop}  (a : Int) (M : Me) (h :
    Go (km 0 mX12_isTree Q) 2 [some (.inr 76), some (.inl a), some (.inl 0)] [] M) :
    Go (km 0 mX12_isTree Q) 0 [some (.inr 76), some (.inl a), none] [] M := by
  refine a_iconst (pc := 0) dX12_isTree_0 (cnb rfl) ?_
  refine a_istore_n (pc := 1) dX12_isTree_1 (Nat.le_of_ble_eq_true rfl) ?_
  exact h
set_option maxRecDepth 20000 in
theorem e_X12_isTree {Q : Int → Me → Prop}  {a : Int} {M : Me} (h :
    Go (km 0 mX12_isTree Q) 2 [some (.inr 76), some (.inl a), some (.inl 0)] [] M) : Calls 0 mX12_isTree [.inr 76, .inl a] M Q := Calls.of (by decide) (Nat.le_of_ble_eq_true rfl) (s_X12_isTree_0  a M h)
set_option maxRecDepth 20000 in
theorem s_X12_isTree_2 {Q : Int → Me → Prop}  (x1 x2 : Int) (M : Me) (h :
    ((M 76 11 ≤ x2 →
    Q 0 M) ∧ (x2 < M 76 11 →
    (0 ≤ x2 ∧ x2 < 16) ∧
    ((M 80 x2 = x1 →
    Q 1 M) ∧ (M 80 x2 ≠ x1 →
    cn (0 + x2) ∧
    (0 ≤ 0 + x2 ∧ 0 + x2 < 82) ∧
    ((M 77 (0 + x2) ≠ 3 →
    cn (x2 + 1) ∧
    Go (km 0 mX12_isTree Q) 2 [some (.inr 76), some (.inl x1), some (.inl (x2 + 1))] [] M) ∧ (M 77 (0 + x2) = 3 →
    cn (16 + x2) ∧
    (0 ≤ 16 + x2 ∧ 16 + x2 < 82) ∧
    ((M 77 (16 + x2) ≠ x1 →
    cn (x2 + 1) ∧
    Go (km 0 mX12_isTree Q) 2 [some (.inr 76), some (.inl x1), some (.inl (x2 + 1))] [] M) ∧ (M 77 (16 + x2) = x1 →
    Q 1 M))))))))) :
    Go (km 0 mX12_isTree Q) 2 [some (.inr 76), some (.inl x1), some (.inl x2)] [] M := by
  refine a_iload_n (pc := 2) dX12_isTree_2 rfl ?_
  refine a_aload_n (pc := 3) dX12_isTree_3 rfl ?_
  refine a_geti (pc := 4) 11 dX12_isTree_4 f_X12_152 rfl rfl ?_
  refine a_icmp_ge (pc := 7) 53 dX12_isTree_7 rfl ⟨fun hc => ?_, fun hc => ?_⟩
  · replace h := h.1 hc
    refine a_iconst (pc := 53) dX12_isTree_53 (cnb rfl) ?_
    exact a_iretZ (pc := 54) dX12_isTree_54 rfl (by decide) h
  · replace h := h.2 hc
    refine a_aload_n (pc := 10) dX12_isTree_10 rfl ?_
    refine a_getr (pc := 11) dX12_isTree_11 f_X12_19 rfl ?_
    refine a_iload_n (pc := 14) dX12_isTree_14 rfl ?_
    refine a_iald (pc := 15) dX12_isTree_15 rfl h.1.1 h.1.2  ?_
    replace h := h.2
    refine a_iload_n (pc := 16) dX12_isTree_16 rfl ?_
    refine a_icmp_eq (pc := 17) 45 dX12_isTree_17 rfl ⟨fun hc => ?_, fun hc => ?_⟩
    · replace h := h.1 hc
      refine a_iconst (pc := 45) dX12_isTree_45 (cnb rfl) ?_
      exact a_iretZ (pc := 46) dX12_isTree_46 rfl (by decide) h
    · replace h := h.2 hc
      refine a_aload_n (pc := 20) dX12_isTree_20 rfl ?_
      refine a_getr (pc := 21) dX12_isTree_21 f_X12_7 rfl ?_
      refine a_iconst (pc := 24) dX12_isTree_24 (cnb rfl) ?_
      refine a_iload_n (pc := 25) dX12_isTree_25 rfl ?_
      refine a_iadd (pc := 26) dX12_isTree_26 h.1 ?_
      replace h := h.2
      refine a_iald (pc := 27) dX12_isTree_27 rfl h.1.1 h.1.2  ?_
      replace h := h.2
      refine a_iconst (pc := 28) dX12_isTree_28 (cnb rfl) ?_
      refine a_icmp_ne (pc := 29) 47 dX12_isTree_29 rfl ⟨fun hc => ?_, fun hc => ?_⟩
      · replace h := h.1 hc
        refine a_iinc (pc := 47) dX12_isTree_47 rfl h.1 (Nat.le_of_ble_eq_true rfl) ?_
        replace h := h.2
        refine a_goto (pc := 50) 2 dX12_isTree_50 rfl ?_
        exact h
      · replace h := h.2 hc
        refine a_aload_n (pc := 32) dX12_isTree_32 rfl ?_
        refine a_getr (pc := 33) dX12_isTree_33 f_X12_7 rfl ?_
        refine a_bipush (pc := 36) dX12_isTree_36 (by decide) (cnb rfl) ?_
        refine a_iload_n (pc := 38) dX12_isTree_38 rfl ?_
        refine a_iadd (pc := 39) dX12_isTree_39 h.1 ?_
        replace h := h.2
        refine a_iald (pc := 40) dX12_isTree_40 rfl h.1.1 h.1.2  ?_
        replace h := h.2
        refine a_iload_n (pc := 41) dX12_isTree_41 rfl ?_
        refine a_icmp_ne (pc := 42) 47 dX12_isTree_42 rfl ⟨fun hc => ?_, fun hc => ?_⟩
        · replace h := h.1 hc
          refine a_iinc (pc := 47) dX12_isTree_47 rfl h.1 (Nat.le_of_ble_eq_true rfl) ?_
          replace h := h.2
          refine a_goto (pc := 50) 2 dX12_isTree_50 rfl ?_
          exact h
        · replace h := h.2 hc
          refine a_iconst (pc := 45) dX12_isTree_45 (cnb rfl) ?_
          exact a_iretZ (pc := 46) dX12_isTree_46 rfl (by decide) h
set_option maxRecDepth 20000 in
theorem s_X12_laysTrees_0 {Q : Int → Me → Prop}  (M : Me) (h :
    Go (km 1 mX12_laysTrees Q) 7 [some (.inr 76), some (.inl 0), none] [] (mput M 76 47 0)) :
    Go (km 1 mX12_laysTrees Q) 0 [some (.inr 76), none, none] [] M := by
  refine a_aload_n (pc := 0) dX12_laysTrees_0 rfl ?_
  refine a_iconst (pc := 1) dX12_laysTrees_1 (cnb rfl) ?_
  refine a_puti (pc := 2) 47 dX12_laysTrees_2 f_X12_365 rfl rfl (Or.inl rfl) ?_
  refine a_iconst (pc := 5) dX12_laysTrees_5 (cnb rfl) ?_
  refine a_istore_n (pc := 6) dX12_laysTrees_6 (Nat.le_of_ble_eq_true rfl) ?_
  exact h
set_option maxRecDepth 20000 in
theorem e_X12_laysTrees {Q : Int → Me → Prop}  {M : Me} (h :
    Go (km 1 mX12_laysTrees Q) 7 [some (.inr 76), some (.inl 0), none] [] (mput M 76 47 0)) : Calls 1 mX12_laysTrees [.inr 76] M Q := Calls.of (by decide) (Nat.le_of_ble_eq_true rfl) (s_X12_laysTrees_0   M h)
set_option maxRecDepth 20000 in
theorem s_X12_laysTrees_7 {Q : Int → Me → Prop}  (x1 : Int) (M : Me) (h :
    ((24 ≤ x1 →
    Q 0 M) ∧ (x1 < 24 →
    Go (km 1 mX12_laysTrees Q) 15 [some (.inr 76), some (.inl x1), some (.inl 0)] [] M))) :
    Go (km 1 mX12_laysTrees Q) 7 [some (.inr 76), some (.inl x1), none] [] M := by
  refine a_iload_n (pc := 7) dX12_laysTrees_7 rfl ?_
  refine a_bipush (pc := 8) dX12_laysTrees_8 (by decide) (cnb rfl) ?_
  refine a_icmp_ge (pc := 10) 74 dX12_laysTrees_10 rfl ⟨fun hc => ?_, fun hc => ?_⟩
  · replace h := h.1 hc
    exact a_ret (pc := 74) dX12_laysTrees_74 rfl h
  · replace h := h.2 hc
    refine a_iconst (pc := 13) dX12_laysTrees_13 (cnb rfl) ?_
    refine a_istore_n (pc := 14) dX12_laysTrees_14 (Nat.le_of_ble_eq_true rfl) ?_
    exact h
set_option maxRecDepth 20000 in
theorem s_X12_laysTrees_15 {Q : Int → Me → Prop}  (x1 x2 : Int) (M : Me) (h :
    ((16 ≤ x2 →
    cn (x1 + 1) ∧
    Go (km 1 mX12_laysTrees Q) 7 [some (.inr 76), some (.inl (x1 + 1)), none] [] M) ∧ (x2 < 16 →
    cn (24 * x2) ∧
    cn ((24 * x2) + x1) ∧
    Calls 0 mX12_isTree [.inr 76, .inl ((24 * x2) + x1)] M (fun r28 M28 =>
    ((r28 ≠ 0 →
    cn (24 * x2) ∧
    cn ((24 * x2) + x1) ∧
    (0 ≤ M28 76 47 ∧ M28 76 47 < 32) ∧
    cn ((M28 76 47) + 1) ∧
    cn (x2 + 1) ∧
    Go (km 1 mX12_laysTrees Q) 15 [some (.inr 76), some (.inl x1), some (.inl (x2 + 1))] [] (mput (mput M28 109 (M28 76 47) ((24 * x2) + x1)) 76 47 ((M28 76 47) + 1))) ∧ (r28 = 0 →
    cn (x2 + 1) ∧
    Go (km 1 mX12_laysTrees Q) 15 [some (.inr 76), some (.inl x1), some (.inl (x2 + 1))] [] M28)))))) :
    Go (km 1 mX12_laysTrees Q) 15 [some (.inr 76), some (.inl x1), some (.inl x2)] [] M := by
  refine a_iload_n (pc := 15) dX12_laysTrees_15 rfl ?_
  refine a_bipush (pc := 16) dX12_laysTrees_16 (by decide) (cnb rfl) ?_
  refine a_icmp_ge (pc := 18) 68 dX12_laysTrees_18 rfl ⟨fun hc => ?_, fun hc => ?_⟩
  · replace h := h.1 hc
    refine a_iinc (pc := 68) dX12_laysTrees_68 rfl h.1 (Nat.le_of_ble_eq_true rfl) ?_
    replace h := h.2
    refine a_goto (pc := 71) 7 dX12_laysTrees_71 rfl ?_
    exact Go.weak h (And.intro rfl (And.intro rfl True.intro))
  · replace h := h.2 hc
    refine a_aload_n (pc := 21) dX12_laysTrees_21 rfl ?_
    refine a_bipush (pc := 22) dX12_laysTrees_22 (by decide) (cnb rfl) ?_
    refine a_iload_n (pc := 24) dX12_laysTrees_24 rfl ?_
    refine a_imul (pc := 25) dX12_laysTrees_25 h.1 ?_
    replace h := h.2
    refine a_iload_n (pc := 26) dX12_laysTrees_26 rfl ?_
    refine a_iadd (pc := 27) dX12_laysTrees_27 h.1 ?_
    replace h := h.2
    refine a_callVi (pc := 28) (d := 0) (st := []) (o := 76) [.inl ((24 * x2) + x1)] dX12_laysTrees_28 l_X12_368 in_X12_isTree se_X12_isTree rfl rfl rfl ⟨Nat.le_of_ble_eq_true rfl, Nat.le_of_ble_eq_true rfl⟩ ⟨Nat.le_of_ble_eq_true rfl, Nat.le_of_ble_eq_true rfl⟩ (Nat.le_of_ble_eq_true rfl) ?_
    refine Calls.mono (fun r28 M28 hr28 hM28 h => ?_) h
    refine a_if_ne (pc := 31) 37 dX12_laysTrees_31 rfl ⟨fun hc => ?_, fun hc => ?_⟩
    · replace h := h.1 hc
      refine a_aload_n (pc := 37) dX12_laysTrees_37 rfl ?_
      refine a_getr (pc := 38) dX12_laysTrees_38 f_X12_107 rfl ?_
      refine a_aload_n (pc := 41) dX12_laysTrees_41 rfl ?_
      refine a_geti (pc := 42) 47 dX12_laysTrees_42 f_X12_365 rfl rfl ?_
      refine a_bipush (pc := 45) dX12_laysTrees_45 (by decide) (cnb rfl) ?_
      refine a_iload_n (pc := 47) dX12_laysTrees_47 rfl ?_
      refine a_imul (pc := 48) dX12_laysTrees_48 h.1 ?_
      replace h := h.2
      refine a_iload_n (pc := 49) dX12_laysTrees_49 rfl ?_
      refine a_iadd (pc := 50) dX12_laysTrees_50 h.1 ?_
      replace h := h.2
      refine a_iast (pc := 51) dX12_laysTrees_51 rfl h.1.1 h.1.2 ?_
      replace h := h.2
      refine a_aload_n (pc := 52) dX12_laysTrees_52 rfl ?_
      refine a_aload_n (pc := 53) dX12_laysTrees_53 rfl ?_
      refine a_getiE (pc := 54) (M28 76 47) 47 dX12_laysTrees_54 f_X12_365 rfl rfl (mput_ne _ _ _ _ (by decide)) ?_
      refine a_iconst (pc := 57) dX12_laysTrees_57 (cnb rfl) ?_
      refine a_iadd (pc := 58) dX12_laysTrees_58 h.1 ?_
      replace h := h.2
      refine a_puti (pc := 59) 47 dX12_laysTrees_59 f_X12_365 rfl rfl (Or.inl rfl) ?_
      refine a_iinc (pc := 62) dX12_laysTrees_62 rfl h.1 (Nat.le_of_ble_eq_true rfl) ?_
      replace h := h.2
      refine a_goto (pc := 65) 15 dX12_laysTrees_65 rfl ?_
      exact h
    · replace h := h.2 hc
      refine a_goto (pc := 34) 62 dX12_laysTrees_34 rfl ?_
      refine a_iinc (pc := 62) dX12_laysTrees_62 rfl h.1 (Nat.le_of_ble_eq_true rfl) ?_
      replace h := h.2
      refine a_goto (pc := 65) 15 dX12_laysTrees_65 rfl ?_
      exact h
set_option maxRecDepth 20000 in
theorem s_X12_yard_0 {Q : Int → Me → Prop}  (a b c d : Int) (M : Me) (h :
    ((0 ≤ a ∧ a ≤ b →
    ((0 ≤ b ∧ b ≤ 23 →
    ((0 ≤ c ∧ c ≤ d →
    ((0 ≤ d ∧ d ≤ 15 →
    Calls 1 mX12_laysTrees [.inr 76] M (fun r43 M43 =>
    Go (km 2 mX12_yard Q) 52 [some (.inr 76), some (.inl a), some (.inl b), some (.inl c), some (.inl d), some (.inl 0), some (.inl 0)] [] M43)) ∧ (¬ (0 ≤ d ∧ d ≤ 15) →
    Q (-1) M))) ∧ (¬ (0 ≤ c ∧ c ≤ d) →
    Q (-1) M))) ∧ (¬ (0 ≤ b ∧ b ≤ 23) →
    Q (-1) M))) ∧ (¬ (0 ≤ a ∧ a ≤ b) →
    Q (-1) M))) :
    Go (km 2 mX12_yard Q) 0 [some (.inr 76), some (.inl a), some (.inl b), some (.inl c), some (.inl d), none, none] [] M := by
  refine a_iload_n (pc := 0) dX12_yard_0 rfl ?_
  refine a_iconst (pc := 1) dX12_yard_1 (cnb rfl) ?_
  refine a_iload_n (pc := 2) dX12_yard_2 rfl ?_
  refine a_callSi (pc := 3) (d := 0) (st := []) [.inl a, .inl 0, .inl b] dX12_yard_3 l_X12_156 st_X12_in rfl ⟨Nat.le_of_ble_eq_true rfl, Nat.le_of_ble_eq_true rfl⟩ ⟨Nat.le_of_ble_eq_true rfl, Nat.le_of_ble_eq_true rfl⟩ (Nat.le_of_ble_eq_true rfl) ?_
  refine p_X12_in ⟨fun hc => ?_, fun hc => ?_⟩
  · replace h := h.1 hc
    refine a_if_eq (pc := 6) 40 dX12_yard_6 rfl ⟨fun hc => absurd hc (by decide), fun _ => ?_⟩
    refine a_iload_n (pc := 9) dX12_yard_9 rfl ?_
    refine a_iconst (pc := 10) dX12_yard_10 (cnb rfl) ?_
    refine a_bipush (pc := 11) dX12_yard_11 (by decide) (cnb rfl) ?_
    refine a_callSi (pc := 13) (d := 0) (st := []) [.inl b, .inl 0, .inl 23] dX12_yard_13 l_X12_156 st_X12_in rfl ⟨Nat.le_of_ble_eq_true rfl, Nat.le_of_ble_eq_true rfl⟩ ⟨Nat.le_of_ble_eq_true rfl, Nat.le_of_ble_eq_true rfl⟩ (Nat.le_of_ble_eq_true rfl) ?_
    refine p_X12_in ⟨fun hc => ?_, fun hc => ?_⟩
    · replace h := h.1 hc
      refine a_if_eq (pc := 16) 40 dX12_yard_16 rfl ⟨fun hc => absurd hc (by decide), fun _ => ?_⟩
      refine a_iload_n (pc := 19) dX12_yard_19 rfl ?_
      refine a_iconst (pc := 20) dX12_yard_20 (cnb rfl) ?_
      refine a_iload (pc := 21) dX12_yard_21 rfl ?_
      refine a_callSi (pc := 23) (d := 0) (st := []) [.inl c, .inl 0, .inl d] dX12_yard_23 l_X12_156 st_X12_in rfl ⟨Nat.le_of_ble_eq_true rfl, Nat.le_of_ble_eq_true rfl⟩ ⟨Nat.le_of_ble_eq_true rfl, Nat.le_of_ble_eq_true rfl⟩ (Nat.le_of_ble_eq_true rfl) ?_
      refine p_X12_in ⟨fun hc => ?_, fun hc => ?_⟩
      · replace h := h.1 hc
        refine a_if_eq (pc := 26) 40 dX12_yard_26 rfl ⟨fun hc => absurd hc (by decide), fun _ => ?_⟩
        refine a_iload (pc := 29) dX12_yard_29 rfl ?_
        refine a_iconst (pc := 31) dX12_yard_31 (cnb rfl) ?_
        refine a_bipush (pc := 32) dX12_yard_32 (by decide) (cnb rfl) ?_
        refine a_callSi (pc := 34) (d := 0) (st := []) [.inl d, .inl 0, .inl 15] dX12_yard_34 l_X12_156 st_X12_in rfl ⟨Nat.le_of_ble_eq_true rfl, Nat.le_of_ble_eq_true rfl⟩ ⟨Nat.le_of_ble_eq_true rfl, Nat.le_of_ble_eq_true rfl⟩ (Nat.le_of_ble_eq_true rfl) ?_
        refine p_X12_in ⟨fun hc => ?_, fun hc => ?_⟩
        · replace h := h.1 hc
          refine a_if_ne (pc := 37) 42 dX12_yard_37 rfl ⟨fun _ => ?_, fun hc => absurd hc (by decide)⟩
          refine a_aload_n (pc := 42) dX12_yard_42 rfl ?_
          refine a_callVv (pc := 43) (d := 1) (st := []) (o := 76) [] dX12_yard_43 l_X12_371 in_X12_laysTrees se_X12_laysTrees rfl rfl rfl ⟨Nat.le_of_ble_eq_true rfl, Nat.le_of_ble_eq_true rfl⟩ ⟨Nat.le_of_ble_eq_true rfl, Nat.le_of_ble_eq_true rfl⟩ (Nat.le_of_ble_eq_true rfl) ?_
          refine Calls.mono (fun r43 M43 hr43 hM43 h => ?_) h
          refine a_iconst (pc := 46) dX12_yard_46 (cnb rfl) ?_
          refine a_istore (pc := 47) dX12_yard_47 (Nat.le_of_ble_eq_true rfl) ?_
          refine a_iconst (pc := 49) dX12_yard_49 (cnb rfl) ?_
          refine a_istore (pc := 50) dX12_yard_50 (Nat.le_of_ble_eq_true rfl) ?_
          exact h
        · replace h := h.2 hc
          refine a_if_ne (pc := 37) 42 dX12_yard_37 rfl ⟨fun hc => absurd hc (by decide), fun _ => ?_⟩
          refine a_iconst (pc := 40) dX12_yard_40 (cnb rfl) ?_
          exact a_iretI (pc := 41) dX12_yard_41 rfl h
      · replace h := h.2 hc
        refine a_if_eq (pc := 26) 40 dX12_yard_26 rfl ⟨fun _ => ?_, fun hc => absurd hc (by decide)⟩
        refine a_iconst (pc := 40) dX12_yard_40 (cnb rfl) ?_
        exact a_iretI (pc := 41) dX12_yard_41 rfl h
    · replace h := h.2 hc
      refine a_if_eq (pc := 16) 40 dX12_yard_16 rfl ⟨fun _ => ?_, fun hc => absurd hc (by decide)⟩
      refine a_iconst (pc := 40) dX12_yard_40 (cnb rfl) ?_
      exact a_iretI (pc := 41) dX12_yard_41 rfl h
  · replace h := h.2 hc
    refine a_if_eq (pc := 6) 40 dX12_yard_6 rfl ⟨fun _ => ?_, fun hc => absurd hc (by decide)⟩
    refine a_iconst (pc := 40) dX12_yard_40 (cnb rfl) ?_
    exact a_iretI (pc := 41) dX12_yard_41 rfl h
set_option maxRecDepth 20000 in
theorem e_X12_yard {Q : Int → Me → Prop}  {a b c d : Int} {M : Me} (h :
    ((0 ≤ a ∧ a ≤ b →
    ((0 ≤ b ∧ b ≤ 23 →
    ((0 ≤ c ∧ c ≤ d →
    ((0 ≤ d ∧ d ≤ 15 →
    Calls 1 mX12_laysTrees [.inr 76] M (fun r43 M43 =>
    Go (km 2 mX12_yard Q) 52 [some (.inr 76), some (.inl a), some (.inl b), some (.inl c), some (.inl d), some (.inl 0), some (.inl 0)] [] M43)) ∧ (¬ (0 ≤ d ∧ d ≤ 15) →
    Q (-1) M))) ∧ (¬ (0 ≤ c ∧ c ≤ d) →
    Q (-1) M))) ∧ (¬ (0 ≤ b ∧ b ≤ 23) →
    Q (-1) M))) ∧ (¬ (0 ≤ a ∧ a ≤ b) →
    Q (-1) M))) : Calls 2 mX12_yard [.inr 76, .inl a, .inl b, .inl c, .inl d] M Q := Calls.of (by decide) (Nat.le_of_ble_eq_true rfl) (s_X12_yard_0  a b c d M h)
set_option maxRecDepth 20000 in
theorem s_X12_yard_52 {Q : Int → Me → Prop}  (x1 x2 x3 x4 x5 x6 : Int) (M : Me) (h :
    ((M 76 47 ≤ x6 →
    Q x5 M) ∧ (x6 < M 76 47 →
    (0 ≤ x6 ∧ x6 < 32) ∧
    0 ≤ (M 109 x6) ∧
    ((x1 ≤ (M 109 x6) % 24 ∧ (M 109 x6) % 24 ≤ x2 →
    (0 ≤ x6 ∧ x6 < 32) ∧
    0 ≤ (M 109 x6) ∧
    ((x3 ≤ (M 109 x6) / 24 ∧ (M 109 x6) / 24 ≤ x4 →
    cn (x5 + 1) ∧
    cn (x6 + 1) ∧
    Go (km 2 mX12_yard Q) 52 [some (.inr 76), some (.inl x1), some (.inl x2), some (.inl x3), some (.inl x4), some (.inl (x5 + 1)), some (.inl (x6 + 1))] [] M) ∧ (¬ (x3 ≤ (M 109 x6) / 24 ∧ (M 109 x6) / 24 ≤ x4) →
    cn (x6 + 1) ∧
    Go (km 2 mX12_yard Q) 52 [some (.inr 76), some (.inl x1), some (.inl x2), some (.inl x3), some (.inl x4), some (.inl x5), some (.inl (x6 + 1))] [] M))) ∧ (¬ (x1 ≤ (M 109 x6) % 24 ∧ (M 109 x6) % 24 ≤ x2) →
    cn (x6 + 1) ∧
    Go (km 2 mX12_yard Q) 52 [some (.inr 76), some (.inl x1), some (.inl x2), some (.inl x3), some (.inl x4), some (.inl x5), some (.inl (x6 + 1))] [] M))))) :
    Go (km 2 mX12_yard Q) 52 [some (.inr 76), some (.inl x1), some (.inl x2), some (.inl x3), some (.inl x4), some (.inl x5), some (.inl x6)] [] M := by
  refine a_iload (pc := 52) dX12_yard_52 rfl ?_
  refine a_aload_n (pc := 54) dX12_yard_54 rfl ?_
  refine a_geti (pc := 55) 47 dX12_yard_55 f_X12_365 rfl rfl ?_
  refine a_icmp_ge (pc := 58) 110 dX12_yard_58 rfl ⟨fun hc => ?_, fun hc => ?_⟩
  · replace h := h.1 hc
    refine a_iload (pc := 110) dX12_yard_110 rfl ?_
    exact a_iretI (pc := 112) dX12_yard_112 rfl h
  · replace h := h.2 hc
    refine a_aload_n (pc := 61) dX12_yard_61 rfl ?_
    refine a_getr (pc := 62) dX12_yard_62 f_X12_107 rfl ?_
    refine a_iload (pc := 65) dX12_yard_65 rfl ?_
    refine a_iald (pc := 67) dX12_yard_67 rfl h.1.1 h.1.2  ?_
    replace h := h.2
    refine a_bipush (pc := 68) dX12_yard_68 (by decide) (cnb rfl) ?_
    refine a_iremn (pc := 70) dX12_yard_70 (by decide) h.1 ?_
    replace h := h.2
    refine a_iload_n (pc := 71) dX12_yard_71 rfl ?_
    refine a_iload_n (pc := 72) dX12_yard_72 rfl ?_
    refine a_callSi (pc := 73) (d := 0) (st := []) [.inl ((M 109 x6) % 24), .inl x1, .inl x2] dX12_yard_73 l_X12_156 st_X12_in rfl ⟨Nat.le_of_ble_eq_true rfl, Nat.le_of_ble_eq_true rfl⟩ ⟨Nat.le_of_ble_eq_true rfl, Nat.le_of_ble_eq_true rfl⟩ (Nat.le_of_ble_eq_true rfl) ?_
    refine p_X12_in ⟨fun hc => ?_, fun hc => ?_⟩
    · replace h := h.1 hc
      refine a_if_eq (pc := 76) 104 dX12_yard_76 rfl ⟨fun hc => absurd hc (by decide), fun _ => ?_⟩
      refine a_aload_n (pc := 79) dX12_yard_79 rfl ?_
      refine a_getr (pc := 80) dX12_yard_80 f_X12_107 rfl ?_
      refine a_iload (pc := 83) dX12_yard_83 rfl ?_
      refine a_iald (pc := 85) dX12_yard_85 rfl h.1.1 h.1.2  ?_
      replace h := h.2
      refine a_bipush (pc := 86) dX12_yard_86 (by decide) (cnb rfl) ?_
      refine a_idivn (pc := 88) dX12_yard_88 (by decide) h.1 ?_
      replace h := h.2
      refine a_iload_n (pc := 89) dX12_yard_89 rfl ?_
      refine a_iload (pc := 90) dX12_yard_90 rfl ?_
      refine a_callSi (pc := 92) (d := 0) (st := []) [.inl ((M 109 x6) / 24), .inl x3, .inl x4] dX12_yard_92 l_X12_156 st_X12_in rfl ⟨Nat.le_of_ble_eq_true rfl, Nat.le_of_ble_eq_true rfl⟩ ⟨Nat.le_of_ble_eq_true rfl, Nat.le_of_ble_eq_true rfl⟩ (Nat.le_of_ble_eq_true rfl) ?_
      refine p_X12_in ⟨fun hc => ?_, fun hc => ?_⟩
      · replace h := h.1 hc
        refine a_if_eq (pc := 95) 104 dX12_yard_95 rfl ⟨fun hc => absurd hc (by decide), fun _ => ?_⟩
        refine a_iload (pc := 98) dX12_yard_98 rfl ?_
        refine a_iconst (pc := 100) dX12_yard_100 (cnb rfl) ?_
        refine a_iadd (pc := 101) dX12_yard_101 h.1 ?_
        replace h := h.2
        refine a_istore (pc := 102) dX12_yard_102 (Nat.le_of_ble_eq_true rfl) ?_
        refine a_iinc (pc := 104) dX12_yard_104 rfl h.1 (Nat.le_of_ble_eq_true rfl) ?_
        replace h := h.2
        refine a_goto (pc := 107) 52 dX12_yard_107 rfl ?_
        exact h
      · replace h := h.2 hc
        refine a_if_eq (pc := 95) 104 dX12_yard_95 rfl ⟨fun _ => ?_, fun hc => absurd hc (by decide)⟩
        refine a_iinc (pc := 104) dX12_yard_104 rfl h.1 (Nat.le_of_ble_eq_true rfl) ?_
        replace h := h.2
        refine a_goto (pc := 107) 52 dX12_yard_107 rfl ?_
        exact h
    · replace h := h.2 hc
      refine a_if_eq (pc := 76) 104 dX12_yard_76 rfl ⟨fun _ => ?_, fun hc => absurd hc (by decide)⟩
      refine a_iinc (pc := 104) dX12_yard_104 rfl h.1 (Nat.le_of_ble_eq_true rfl) ?_
      replace h := h.2
      refine a_goto (pc := 107) 52 dX12_yard_107 rfl ?_
      exact h
set_option maxRecDepth 20000 in
theorem s_X12_trees_0 {Q : Int → Me → Prop}  (M : Me) (h :
    Calls 1 mX12_laysTrees [.inr 76] M (fun r1 M1 =>
    Q (M1 76 47) M1)) :
    Go (km 2 mX12_trees Q) 0 [some (.inr 76)] [] M := by
  refine a_aload_n (pc := 0) dX12_trees_0 rfl ?_
  refine a_callVv (pc := 1) (d := 1) (st := []) (o := 76) [] dX12_trees_1 l_X12_371 in_X12_laysTrees se_X12_laysTrees rfl rfl rfl ⟨Nat.le_of_ble_eq_true rfl, Nat.le_of_ble_eq_true rfl⟩ ⟨Nat.le_of_ble_eq_true rfl, Nat.le_of_ble_eq_true rfl⟩ (Nat.le_of_ble_eq_true rfl) ?_
  refine Calls.mono (fun r1 M1 hr1 hM1 h => ?_) h
  refine a_aload_n (pc := 4) dX12_trees_4 rfl ?_
  refine a_geti (pc := 5) 47 dX12_trees_5 f_X12_365 rfl rfl ?_
  exact a_iretI (pc := 8) dX12_trees_8 rfl h
set_option maxRecDepth 20000 in
theorem e_X12_trees {Q : Int → Me → Prop}  {M : Me} (h :
    Calls 1 mX12_laysTrees [.inr 76] M (fun r1 M1 =>
    Q (M1 76 47) M1)) : Calls 2 mX12_trees [.inr 76] M Q := Calls.of (by decide) (Nat.le_of_ble_eq_true rfl) (s_X12_trees_0   M h)
