set_option maxRecDepth 20000 in
theorem s_X6_readTwos_0 {Q : Int → Me → Prop}  (a b : Int) (M : Me) (h :
    Go (km 1 mX6_readTwos Q) 3 [some (.inr 61), some (.inr 1), some (.inl a), some (.inl b), some (.inl 0), none, none] [] M) :
    Go (km 1 mX6_readTwos Q) 0 [some (.inr 61), some (.inr 1), some (.inl a), some (.inl b), none, none, none] [] M := by
  refine a_iconst (pc := 0) dX6_readTwos_0 (cnb rfl) ?_
  refine a_istore (pc := 1) dX6_readTwos_1 (Nat.le_of_ble_eq_true rfl) ?_
  exact h
set_option maxRecDepth 20000 in
theorem e_X6_readTwos {Q : Int → Me → Prop}  {a b : Int} {M : Me} (h :
    Go (km 1 mX6_readTwos Q) 3 [some (.inr 61), some (.inr 1), some (.inl a), some (.inl b), some (.inl 0), none, none] [] M) : Calls 1 mX6_readTwos [.inr 61, .inr 1, .inl a, .inl b] M Q := Calls.of (by decide) (Nat.le_of_ble_eq_true rfl) (s_X6_readTwos_0  a b M h)
set_option maxRecDepth 20000 in
theorem s_X6_readTwos_3 {Q : Int → Me → Prop}  (x2 x3 x4 : Int) (M : Me) (h :
    ((10 ≤ x4 →
    Go (km 1 mX6_readTwos Q) 27 [some (.inr 61), some (.inr 1), some (.inl x2), some (.inl x3), some (.inl 0), none, none] [] M) ∧ (x4 < 10 →
    (0 ≤ x4 ∧ x4 < 10) ∧
    cn (x4 + 1) ∧
    Go (km 1 mX6_readTwos Q) 3 [some (.inr 61), some (.inr 1), some (.inl x2), some (.inl x3), some (.inl (x4 + 1)), none, none] [] (mput M 65 x4 0)))) :
    Go (km 1 mX6_readTwos Q) 3 [some (.inr 61), some (.inr 1), some (.inl x2), some (.inl x3), some (.inl x4), none, none] [] M := by
  refine a_iload (pc := 3) dX6_readTwos_3 rfl ?_
  refine a_bipush (pc := 5) dX6_readTwos_5 (by decide) (cnb rfl) ?_
  refine a_icmp_ge (pc := 7) 24 dX6_readTwos_7 rfl ⟨fun hc => ?_, fun hc => ?_⟩
  · replace h := h.1 hc
    refine a_iconst (pc := 24) dX6_readTwos_24 (cnb rfl) ?_
    refine a_istore (pc := 25) dX6_readTwos_25 (Nat.le_of_ble_eq_true rfl) ?_
    exact h
  · replace h := h.2 hc
    refine a_aload_n (pc := 10) dX6_readTwos_10 rfl ?_
    refine a_getr (pc := 11) dX6_readTwos_11 f_X6_21 rfl ?_
    refine a_iload (pc := 14) dX6_readTwos_14 rfl ?_
    refine a_iconst (pc := 16) dX6_readTwos_16 (cnb rfl) ?_
    refine a_iast (pc := 17) dX6_readTwos_17 rfl h.1.1 h.1.2 ?_
    replace h := h.2
    refine a_iinc (pc := 18) dX6_readTwos_18 rfl h.1 (Nat.le_of_ble_eq_true rfl) ?_
    replace h := h.2
    refine a_goto (pc := 21) 3 dX6_readTwos_21 rfl ?_
    exact h
set_option maxRecDepth 20000 in
theorem s_X6_readTwos_27 {Q : Int → Me → Prop}  (x2 x3 x4 : Int) (M : Me) (h :
    ((x3 ≤ x4 →
    Q 1 M) ∧ (x4 < x3 →
    cn (2 * x4) ∧
    M 1 1 ≤ 260 ∧
    ((0 ≤ 2 * x4 ∧ 2 * x4 < M 1 1 →
    cn (2 * x4) ∧
    cn ((2 * x4) + 1) ∧
    M 1 1 ≤ 260 ∧
    ((0 ≤ (2 * x4) + 1 ∧ (2 * x4) + 1 < M 1 1 →
    ((M 2 (2 * x4) < 0 →
    Q 0 M) ∧ (0 ≤ M 2 (2 * x4) →
    ((x2 ≤ M 2 (2 * x4) →
    Q 0 M) ∧ (M 2 (2 * x4) < x2 →
    ((M 2 ((2 * x4) + 1) < 0 →
    Q 0 M) ∧ (0 ≤ M 2 ((2 * x4) + 1) →
    ((x2 ≤ M 2 ((2 * x4) + 1) →
    Q 0 M) ∧ (M 2 ((2 * x4) + 1) < x2 →
    ((M 2 (2 * x4) ≠ M 2 ((2 * x4) + 1) →
    (0 ≤ M 2 ((2 * x4) + 1) ∧ M 2 ((2 * x4) + 1) < 10) ∧
    (0 ≤ M 2 ((2 * x4) + 1) ∧ M 2 ((2 * x4) + 1) < 10) ∧
    cn (x4 + 1) ∧
    Go (km 1 mX6_readTwos Q) 27 [some (.inr 61), some (.inr 1), some (.inl x2), some (.inl x3), some (.inl (x4 + 1)), none, none] [] (mput M 65 (M 2 ((2 * x4) + 1)) (bor (M 65 (M 2 ((2 * x4) + 1))) (bshl 1 (M 2 (2 * x4)))))) ∧ (M 2 (2 * x4) = M 2 ((2 * x4) + 1) →
    Q 0 M))))))))))) ∧ (¬ (0 ≤ (2 * x4) + 1 ∧ (2 * x4) + 1 < M 1 1) →
    ((M 2 (2 * x4) < 0 →
    Q 0 M) ∧ (0 ≤ M 2 (2 * x4) →
    ((x2 ≤ M 2 (2 * x4) →
    Q 0 M) ∧ (M 2 (2 * x4) < x2 →
    Q 0 M))))))) ∧ (¬ (0 ≤ 2 * x4 ∧ 2 * x4 < M 1 1) →
    cn (2 * x4) ∧
    cn ((2 * x4) + 1) ∧
    M 1 1 ≤ 260 ∧
    ((0 ≤ (2 * x4) + 1 ∧ (2 * x4) + 1 < M 1 1 →
    Q 0 M) ∧ (¬ (0 ≤ (2 * x4) + 1 ∧ (2 * x4) + 1 < M 1 1) →
    Q 0 M))))))) :
    Go (km 1 mX6_readTwos Q) 27 [some (.inr 61), some (.inr 1), some (.inl x2), some (.inl x3), some (.inl x4), none, none] [] M := by
  refine a_iload (pc := 27) dX6_readTwos_27 rfl ?_
  refine a_iload_n (pc := 29) dX6_readTwos_29 rfl ?_
  refine a_icmp_ge (pc := 30) 106 dX6_readTwos_30 rfl ⟨fun hc => ?_, fun hc => ?_⟩
  · replace h := h.1 hc
    refine a_iconst (pc := 106) dX6_readTwos_106 (cnb rfl) ?_
    exact a_iretZ (pc := 107) dX6_readTwos_107 rfl (by decide) h
  · replace h := h.2 hc
    refine a_aload_n (pc := 33) dX6_readTwos_33 rfl ?_
    refine a_iconst (pc := 34) dX6_readTwos_34 (cnb rfl) ?_
    refine a_iload (pc := 35) dX6_readTwos_35 rfl ?_
    refine a_imul (pc := 37) dX6_readTwos_37 h.1 ?_
    replace h := h.2
    refine a_callVi (pc := 38) (d := 0) (st := []) (o := 1) [.inl (2 * x4)] dX6_readTwos_38 l_X6_57 in_X9_byteAt se_X9_byteAt rfl rfl rfl ⟨Nat.le_of_ble_eq_true rfl, Nat.le_of_ble_eq_true rfl⟩ ⟨Nat.le_of_ble_eq_true rfl, Nat.le_of_ble_eq_true rfl⟩ (Nat.le_of_ble_eq_true rfl) ?_
    have hp38_2 := h.1
    replace h := h.2
    refine p_X9_byteAt hp38_2 ⟨fun hc => ?_, fun hc => ?_⟩
    · replace h := h.1 hc
      refine a_istore (pc := 41) dX6_readTwos_41 (Nat.le_of_ble_eq_true rfl) ?_
      refine a_aload_n (pc := 43) dX6_readTwos_43 rfl ?_
      refine a_iconst (pc := 44) dX6_readTwos_44 (cnb rfl) ?_
      refine a_iload (pc := 45) dX6_readTwos_45 rfl ?_
      refine a_imul (pc := 47) dX6_readTwos_47 h.1 ?_
      replace h := h.2
      refine a_iconst (pc := 48) dX6_readTwos_48 (cnb rfl) ?_
      refine a_iadd (pc := 49) dX6_readTwos_49 h.1 ?_
      replace h := h.2
      refine a_callVi (pc := 50) (d := 0) (st := []) (o := 1) [.inl ((2 * x4) + 1)] dX6_readTwos_50 l_X6_57 in_X9_byteAt se_X9_byteAt rfl rfl rfl ⟨Nat.le_of_ble_eq_true rfl, Nat.le_of_ble_eq_true rfl⟩ ⟨Nat.le_of_ble_eq_true rfl, Nat.le_of_ble_eq_true rfl⟩ (Nat.le_of_ble_eq_true rfl) ?_
      have hp50_3 := h.1
      replace h := h.2
      refine p_X9_byteAt hp50_3 ⟨fun hc => ?_, fun hc => ?_⟩
      · replace h := h.1 hc
        refine a_istore (pc := 53) dX6_readTwos_53 (Nat.le_of_ble_eq_true rfl) ?_
        refine a_iload (pc := 55) dX6_readTwos_55 rfl ?_
        refine a_if_lt (pc := 57) 84 dX6_readTwos_57 rfl ⟨fun hc => ?_, fun hc => ?_⟩
        · replace h := h.1 hc
          refine a_iconst (pc := 84) dX6_readTwos_84 (cnb rfl) ?_
          exact a_iretZ (pc := 85) dX6_readTwos_85 rfl (by decide) h
        · replace h := h.2 hc
          refine a_iload (pc := 60) dX6_readTwos_60 rfl ?_
          refine a_iload_n (pc := 62) dX6_readTwos_62 rfl ?_
          refine a_icmp_ge (pc := 63) 84 dX6_readTwos_63 rfl ⟨fun hc => ?_, fun hc => ?_⟩
          · replace h := h.1 hc
            refine a_iconst (pc := 84) dX6_readTwos_84 (cnb rfl) ?_
            exact a_iretZ (pc := 85) dX6_readTwos_85 rfl (by decide) h
          · replace h := h.2 hc
            refine a_iload (pc := 66) dX6_readTwos_66 rfl ?_
            refine a_if_lt (pc := 68) 84 dX6_readTwos_68 rfl ⟨fun hc => ?_, fun hc => ?_⟩
            · replace h := h.1 hc
              refine a_iconst (pc := 84) dX6_readTwos_84 (cnb rfl) ?_
              exact a_iretZ (pc := 85) dX6_readTwos_85 rfl (by decide) h
            · replace h := h.2 hc
              refine a_iload (pc := 71) dX6_readTwos_71 rfl ?_
              refine a_iload_n (pc := 73) dX6_readTwos_73 rfl ?_
              refine a_icmp_ge (pc := 74) 84 dX6_readTwos_74 rfl ⟨fun hc => ?_, fun hc => ?_⟩
              · replace h := h.1 hc
                refine a_iconst (pc := 84) dX6_readTwos_84 (cnb rfl) ?_
                exact a_iretZ (pc := 85) dX6_readTwos_85 rfl (by decide) h
              · replace h := h.2 hc
                refine a_iload (pc := 77) dX6_readTwos_77 rfl ?_
                refine a_iload (pc := 79) dX6_readTwos_79 rfl ?_
                refine a_icmp_ne (pc := 81) 86 dX6_readTwos_81 rfl ⟨fun hc => ?_, fun hc => ?_⟩
                · replace h := h.1 hc
                  refine a_aload_n (pc := 86) dX6_readTwos_86 rfl ?_
                  refine a_getr (pc := 87) dX6_readTwos_87 f_X6_21 rfl ?_
                  refine a_iload (pc := 90) dX6_readTwos_90 rfl ?_
                  refine a_dup2 (pc := 92) dX6_readTwos_92 ?_
                  refine a_iald (pc := 93) dX6_readTwos_93 rfl h.1.1 h.1.2  ?_
                  replace h := h.2
                  refine a_iconst (pc := 94) dX6_readTwos_94 (cnb rfl) ?_
                  refine a_iload (pc := 95) dX6_readTwos_95 rfl ?_
                  refine a_ishl (pc := 97) dX6_readTwos_97 ?_
                  refine a_ior (pc := 98) dX6_readTwos_98 ?_
                  refine a_iast (pc := 99) dX6_readTwos_99 rfl h.1.1 h.1.2 ?_
                  replace h := h.2
                  refine a_iinc (pc := 100) dX6_readTwos_100 rfl h.1 (Nat.le_of_ble_eq_true rfl) ?_
                  replace h := h.2
                  refine a_goto (pc := 103) 27 dX6_readTwos_103 rfl ?_
                  exact Go.weak h (And.intro rfl (And.intro rfl (And.intro rfl (And.intro rfl (And.intro rfl True.intro)))))
                · replace h := h.2 hc
                  refine a_iconst (pc := 84) dX6_readTwos_84 (cnb rfl) ?_
                  exact a_iretZ (pc := 85) dX6_readTwos_85 rfl (by decide) h
      · replace h := h.2 hc
        refine a_istore (pc := 53) dX6_readTwos_53 (Nat.le_of_ble_eq_true rfl) ?_
        refine a_iload (pc := 55) dX6_readTwos_55 rfl ?_
        refine a_if_lt (pc := 57) 84 dX6_readTwos_57 rfl ⟨fun hc => ?_, fun hc => ?_⟩
        · replace h := h.1 hc
          refine a_iconst (pc := 84) dX6_readTwos_84 (cnb rfl) ?_
          exact a_iretZ (pc := 85) dX6_readTwos_85 rfl (by decide) h
        · replace h := h.2 hc
          refine a_iload (pc := 60) dX6_readTwos_60 rfl ?_
          refine a_iload_n (pc := 62) dX6_readTwos_62 rfl ?_
          refine a_icmp_ge (pc := 63) 84 dX6_readTwos_63 rfl ⟨fun hc => ?_, fun hc => ?_⟩
          · replace h := h.1 hc
            refine a_iconst (pc := 84) dX6_readTwos_84 (cnb rfl) ?_
            exact a_iretZ (pc := 85) dX6_readTwos_85 rfl (by decide) h
          · replace h := h.2 hc
            refine a_iload (pc := 66) dX6_readTwos_66 rfl ?_
            refine a_if_lt (pc := 68) 84 dX6_readTwos_68 rfl ⟨fun _ => ?_, fun hc => absurd hc (by decide)⟩
            refine a_iconst (pc := 84) dX6_readTwos_84 (cnb rfl) ?_
            exact a_iretZ (pc := 85) dX6_readTwos_85 rfl (by decide) h
    · replace h := h.2 hc
      refine a_istore (pc := 41) dX6_readTwos_41 (Nat.le_of_ble_eq_true rfl) ?_
      refine a_aload_n (pc := 43) dX6_readTwos_43 rfl ?_
      refine a_iconst (pc := 44) dX6_readTwos_44 (cnb rfl) ?_
      refine a_iload (pc := 45) dX6_readTwos_45 rfl ?_
      refine a_imul (pc := 47) dX6_readTwos_47 h.1 ?_
      replace h := h.2
      refine a_iconst (pc := 48) dX6_readTwos_48 (cnb rfl) ?_
      refine a_iadd (pc := 49) dX6_readTwos_49 h.1 ?_
      replace h := h.2
      refine a_callVi (pc := 50) (d := 0) (st := []) (o := 1) [.inl ((2 * x4) + 1)] dX6_readTwos_50 l_X6_57 in_X9_byteAt se_X9_byteAt rfl rfl rfl ⟨Nat.le_of_ble_eq_true rfl, Nat.le_of_ble_eq_true rfl⟩ ⟨Nat.le_of_ble_eq_true rfl, Nat.le_of_ble_eq_true rfl⟩ (Nat.le_of_ble_eq_true rfl) ?_
      have hp50_3 := h.1
      replace h := h.2
      refine p_X9_byteAt hp50_3 ⟨fun hc => ?_, fun hc => ?_⟩
      · replace h := h.1 hc
        refine a_istore (pc := 53) dX6_readTwos_53 (Nat.le_of_ble_eq_true rfl) ?_
        refine a_iload (pc := 55) dX6_readTwos_55 rfl ?_
        refine a_if_lt (pc := 57) 84 dX6_readTwos_57 rfl ⟨fun _ => ?_, fun hc => absurd hc (by decide)⟩
        refine a_iconst (pc := 84) dX6_readTwos_84 (cnb rfl) ?_
        exact a_iretZ (pc := 85) dX6_readTwos_85 rfl (by decide) h
      · replace h := h.2 hc
        refine a_istore (pc := 53) dX6_readTwos_53 (Nat.le_of_ble_eq_true rfl) ?_
        refine a_iload (pc := 55) dX6_readTwos_55 rfl ?_
        refine a_if_lt (pc := 57) 84 dX6_readTwos_57 rfl ⟨fun _ => ?_, fun hc => absurd hc (by decide)⟩
        refine a_iconst (pc := 84) dX6_readTwos_84 (cnb rfl) ?_
        exact a_iretZ (pc := 85) dX6_readTwos_85 rfl (by decide) h
set_option maxRecDepth 20000 in
theorem s_X6_tellOrders_0 {Q : Int → Me → Prop}  (a : Int) (M : Me) (h :
    cn ((bshl 1 a) - 1) ∧
    Go (km 0 mX6_tellOrders Q) 15 [some (.inr 61), some (.inl a), some (.inl ((bshl 1 a) - 1)), some (.inl 1), none, none, none] [] (mput M 62 0 1)) :
    Go (km 0 mX6_tellOrders Q) 0 [some (.inr 61), some (.inl a), none, none, none, none, none] [] M := by
  refine a_iconst (pc := 0) dX6_tellOrders_0 (cnb rfl) ?_
  refine a_iload_n (pc := 1) dX6_tellOrders_1 rfl ?_
  refine a_ishl (pc := 2) dX6_tellOrders_2 ?_
  refine a_iconst (pc := 3) dX6_tellOrders_3 (cnb rfl) ?_
  refine a_isub (pc := 4) dX6_tellOrders_4 h.1 ?_
  replace h := h.2
  refine a_istore_n (pc := 5) dX6_tellOrders_5 (Nat.le_of_ble_eq_true rfl) ?_
  refine a_aload_n (pc := 6) dX6_tellOrders_6 rfl ?_
  refine a_getr (pc := 7) dX6_tellOrders_7 f_X6_11 rfl ?_
  refine a_iconst (pc := 10) dX6_tellOrders_10 (cnb rfl) ?_
  refine a_iconst (pc := 11) dX6_tellOrders_11 (cnb rfl) ?_
  refine a_iast (pc := 12) dX6_tellOrders_12 rfl (by decide) (by decide) ?_
  refine a_iconst (pc := 13) dX6_tellOrders_13 (cnb rfl) ?_
  refine a_istore_n (pc := 14) dX6_tellOrders_14 (Nat.le_of_ble_eq_true rfl) ?_
  exact h
set_option maxRecDepth 20000 in
theorem e_X6_tellOrders {Q : Int → Me → Prop}  {a : Int} {M : Me} (h :
    cn ((bshl 1 a) - 1) ∧
    Go (km 0 mX6_tellOrders Q) 15 [some (.inr 61), some (.inl a), some (.inl ((bshl 1 a) - 1)), some (.inl 1), none, none, none] [] (mput M 62 0 1)) : Calls 0 mX6_tellOrders [.inr 61, .inl a] M Q := Calls.of (by decide) (Nat.le_of_ble_eq_true rfl) (s_X6_tellOrders_0  a M h)
set_option maxRecDepth 20000 in
theorem s_X6_tellOrders_15 {Q : Int → Me → Prop}  (x1 x2 x3 : Int) (M : Me) (h :
    ((x2 < x3 →
    (0 ≤ x2 ∧ x2 < 4608) ∧
    Q (M 62 x2) M) ∧ (x3 ≤ x2 →
    Go (km 0 mX6_tellOrders Q) 26 [some (.inr 61), some (.inl x1), some (.inl x2), some (.inl x3), some (.inl 0), some (.inl 0), none] [] M))) :
    Go (km 0 mX6_tellOrders Q) 15 [some (.inr 61), some (.inl x1), some (.inl x2), some (.inl x3), none, none, none] [] M := by
  refine a_iload_n (pc := 15) dX6_tellOrders_15 rfl ?_
  refine a_iload_n (pc := 16) dX6_tellOrders_16 rfl ?_
  refine a_icmp_gt (pc := 17) 95 dX6_tellOrders_17 rfl ⟨fun hc => ?_, fun hc => ?_⟩
  · replace h := h.1 hc
    refine a_aload_n (pc := 95) dX6_tellOrders_95 rfl ?_
    refine a_getr (pc := 96) dX6_tellOrders_96 f_X6_11 rfl ?_
    refine a_iload_n (pc := 99) dX6_tellOrders_99 rfl ?_
    refine a_iald (pc := 100) dX6_tellOrders_100 rfl h.1.1 h.1.2  ?_
    replace h := h.2
    exact a_iretI (pc := 101) dX6_tellOrders_101 rfl h
  · replace h := h.2 hc
    refine a_iconst (pc := 20) dX6_tellOrders_20 (cnb rfl) ?_
    refine a_istore (pc := 21) dX6_tellOrders_21 (Nat.le_of_ble_eq_true rfl) ?_
    refine a_iconst (pc := 23) dX6_tellOrders_23 (cnb rfl) ?_
    refine a_istore (pc := 24) dX6_tellOrders_24 (Nat.le_of_ble_eq_true rfl) ?_
    exact h
set_option maxRecDepth 20000 in
theorem s_X6_tellOrders_26 {Q : Int → Me → Prop}  (x1 x2 x3 x4 x5 : Int) (M : Me) (h :
    ((x1 ≤ x5 →
    (0 ≤ x3 ∧ x3 < 4608) ∧
    cn (x3 + 1) ∧
    Go (km 0 mX6_tellOrders Q) 15 [some (.inr 61), some (.inl x1), some (.inl x2), some (.inl (x3 + 1)), none, none, none] [] (mput M 62 x3 x4)) ∧ (x5 < x1 →
    ((band x3 (bxor (bshl 1 x5) (-1)) = x3 →
    cn (x5 + 1) ∧
    Go (km 0 mX6_tellOrders Q) 26 [some (.inr 61), some (.inl x1), some (.inl x2), some (.inl x3), some (.inl x4), some (.inl (x5 + 1)), none] [] M) ∧ (band x3 (bxor (bshl 1 x5) (-1)) ≠ x3 →
    (0 ≤ x5 ∧ x5 < 10) ∧
    ((band (M 65 x5) (bxor (band x3 (bxor (bshl 1 x5) (-1))) (-1)) ≠ 0 →
    cn (x5 + 1) ∧
    Go (km 0 mX6_tellOrders Q) 26 [some (.inr 61), some (.inl x1), some (.inl x2), some (.inl x3), some (.inl x4), some (.inl (x5 + 1)), none] [] M) ∧ (band (M 65 x5) (bxor (band x3 (bxor (bshl 1 x5) (-1))) (-1)) = 0 →
    (0 ≤ band x3 (bxor (bshl 1 x5) (-1)) ∧ band x3 (bxor (bshl 1 x5) (-1)) < 4608) ∧
    cn (x4 + (M 62 (band x3 (bxor (bshl 1 x5) (-1))))) ∧
    cn (x5 + 1) ∧
    Go (km 0 mX6_tellOrders Q) 26 [some (.inr 61), some (.inl x1), some (.inl x2), some (.inl x3), some (.inl (x4 + (M 62 (band x3 (bxor (bshl 1 x5) (-1)))))), some (.inl (x5 + 1)), none] [] M))))))) :
    Go (km 0 mX6_tellOrders Q) 26 [some (.inr 61), some (.inl x1), some (.inl x2), some (.inl x3), some (.inl x4), some (.inl x5), none] [] M := by
  refine a_iload (pc := 26) dX6_tellOrders_26 rfl ?_
  refine a_iload_n (pc := 28) dX6_tellOrders_28 rfl ?_
  refine a_icmp_ge (pc := 29) 81 dX6_tellOrders_29 rfl ⟨fun hc => ?_, fun hc => ?_⟩
  · replace h := h.1 hc
    refine a_aload_n (pc := 81) dX6_tellOrders_81 rfl ?_
    refine a_getr (pc := 82) dX6_tellOrders_82 f_X6_11 rfl ?_
    refine a_iload_n (pc := 85) dX6_tellOrders_85 rfl ?_
    refine a_iload (pc := 86) dX6_tellOrders_86 rfl ?_
    refine a_iast (pc := 88) dX6_tellOrders_88 rfl h.1.1 h.1.2 ?_
    replace h := h.2
    refine a_iinc (pc := 89) dX6_tellOrders_89 rfl h.1 (Nat.le_of_ble_eq_true rfl) ?_
    replace h := h.2
    refine a_goto (pc := 92) 15 dX6_tellOrders_92 rfl ?_
    exact Go.weak h (And.intro rfl (And.intro rfl (And.intro rfl (And.intro rfl True.intro))))
  · replace h := h.2 hc
    refine a_iload_n (pc := 32) dX6_tellOrders_32 rfl ?_
    refine a_iconst (pc := 33) dX6_tellOrders_33 (cnb rfl) ?_
    refine a_iload (pc := 34) dX6_tellOrders_34 rfl ?_
    refine a_ishl (pc := 36) dX6_tellOrders_36 ?_
    refine a_iconst (pc := 37) dX6_tellOrders_37 (cnb rfl) ?_
    refine a_ixor (pc := 38) dX6_tellOrders_38 ?_
    refine a_iand (pc := 39) dX6_tellOrders_39 ?_
    refine a_istore (pc := 40) dX6_tellOrders_40 (Nat.le_of_ble_eq_true rfl) ?_
    refine a_iload (pc := 42) dX6_tellOrders_42 rfl ?_
    refine a_iload_n (pc := 44) dX6_tellOrders_44 rfl ?_
    refine a_icmp_eq (pc := 45) 75 dX6_tellOrders_45 rfl ⟨fun hc => ?_, fun hc => ?_⟩
    · replace h := h.1 hc
      refine a_iinc (pc := 75) dX6_tellOrders_75 rfl h.1 (Nat.le_of_ble_eq_true rfl) ?_
      replace h := h.2
      refine a_goto (pc := 78) 26 dX6_tellOrders_78 rfl ?_
      exact Go.weak h (And.intro rfl (And.intro rfl (And.intro rfl (And.intro rfl (And.intro rfl (And.intro rfl True.intro))))))
    · replace h := h.2 hc
      refine a_aload_n (pc := 48) dX6_tellOrders_48 rfl ?_
      refine a_getr (pc := 49) dX6_tellOrders_49 f_X6_21 rfl ?_
      refine a_iload (pc := 52) dX6_tellOrders_52 rfl ?_
      refine a_iald (pc := 54) dX6_tellOrders_54 rfl h.1.1 h.1.2  ?_
      replace h := h.2
      refine a_iload (pc := 55) dX6_tellOrders_55 rfl ?_
      refine a_iconst (pc := 57) dX6_tellOrders_57 (cnb rfl) ?_
      refine a_ixor (pc := 58) dX6_tellOrders_58 ?_
      refine a_iand (pc := 59) dX6_tellOrders_59 ?_
      refine a_if_ne (pc := 60) 75 dX6_tellOrders_60 rfl ⟨fun hc => ?_, fun hc => ?_⟩
      · replace h := h.1 hc
        refine a_iinc (pc := 75) dX6_tellOrders_75 rfl h.1 (Nat.le_of_ble_eq_true rfl) ?_
        replace h := h.2
        refine a_goto (pc := 78) 26 dX6_tellOrders_78 rfl ?_
        exact Go.weak h (And.intro rfl (And.intro rfl (And.intro rfl (And.intro rfl (And.intro rfl (And.intro rfl True.intro))))))
      · replace h := h.2 hc
        refine a_iload (pc := 63) dX6_tellOrders_63 rfl ?_
        refine a_aload_n (pc := 65) dX6_tellOrders_65 rfl ?_
        refine a_getr (pc := 66) dX6_tellOrders_66 f_X6_11 rfl ?_
        refine a_iload (pc := 69) dX6_tellOrders_69 rfl ?_
        refine a_iald (pc := 71) dX6_tellOrders_71 rfl h.1.1 h.1.2  ?_
        replace h := h.2
        refine a_iadd (pc := 72) dX6_tellOrders_72 h.1 ?_
        replace h := h.2
        refine a_istore (pc := 73) dX6_tellOrders_73 (Nat.le_of_ble_eq_true rfl) ?_
        refine a_iinc (pc := 75) dX6_tellOrders_75 rfl h.1 (Nat.le_of_ble_eq_true rfl) ?_
        replace h := h.2
        refine a_goto (pc := 78) 26 dX6_tellOrders_78 rfl ?_
        exact Go.weak h (And.intro rfl (And.intro rfl (And.intro rfl (And.intro rfl (And.intro rfl (And.intro rfl True.intro))))))
set_option maxRecDepth 20000 in
theorem s_X6_earliest_0 {Q : Int → Me → Prop}  (a b : Int) (M : Me) (h :
    cn ((bshl 1 a) - 1) ∧
    (0 ≤ (bshl 1 a) - 1 ∧ (bshl 1 a) - 1 < 4608) ∧
    ((M 62 ((bshl 1 a) - 1) ≠ 0 →
    Go (km 1 mX6_earliest Q) 24 [some (.inr 61), none, some (.inl b), some (.inl ((bshl 1 a) - 1)), some (.inl a), some (.inl 0), none] [] M) ∧ (M 62 ((bshl 1 a) - 1) = 0 →
    Q (-2) M))) :
    Go (km 1 mX6_earliest Q) 0 [some (.inr 61), some (.inl a), some (.inl b), none, none, none, none] [] M := by
  refine a_iconst (pc := 0) dX6_earliest_0 (cnb rfl) ?_
  refine a_iload_n (pc := 1) dX6_earliest_1 rfl ?_
  refine a_ishl (pc := 2) dX6_earliest_2 ?_
  refine a_iconst (pc := 3) dX6_earliest_3 (cnb rfl) ?_
  refine a_isub (pc := 4) dX6_earliest_4 h.1 ?_
  replace h := h.2
  refine a_istore_n (pc := 5) dX6_earliest_5 (Nat.le_of_ble_eq_true rfl) ?_
  refine a_aload_n (pc := 6) dX6_earliest_6 rfl ?_
  refine a_getr (pc := 7) dX6_earliest_7 f_X6_11 rfl ?_
  refine a_iload_n (pc := 10) dX6_earliest_10 rfl ?_
  refine a_iald (pc := 11) dX6_earliest_11 rfl h.1.1 h.1.2  ?_
  replace h := h.2
  refine a_if_ne (pc := 12) 18 dX6_earliest_12 rfl ⟨fun hc => ?_, fun hc => ?_⟩
  · replace h := h.1 hc
    refine a_iload_n (pc := 18) dX6_earliest_18 rfl ?_
    refine a_istore (pc := 19) dX6_earliest_19 (Nat.le_of_ble_eq_true rfl) ?_
    refine a_iconst (pc := 21) dX6_earliest_21 (cnb rfl) ?_
    refine a_istore (pc := 22) dX6_earliest_22 (Nat.le_of_ble_eq_true rfl) ?_
    exact Go.weak h (And.intro rfl (And.intro rfl (And.intro rfl (And.intro rfl (And.intro rfl True.intro)))))
  · replace h := h.2 hc
    refine a_bipush (pc := 15) dX6_earliest_15 (by decide) (cnb rfl) ?_
    exact a_iretI (pc := 17) dX6_earliest_17 rfl h
set_option maxRecDepth 20000 in
theorem e_X6_earliest {Q : Int → Me → Prop}  {a b : Int} {M : Me} (h :
    cn ((bshl 1 a) - 1) ∧
    (0 ≤ (bshl 1 a) - 1 ∧ (bshl 1 a) - 1 < 4608) ∧
    ((M 62 ((bshl 1 a) - 1) ≠ 0 →
    Go (km 1 mX6_earliest Q) 24 [some (.inr 61), none, some (.inl b), some (.inl ((bshl 1 a) - 1)), some (.inl a), some (.inl 0), none] [] M) ∧ (M 62 ((bshl 1 a) - 1) = 0 →
    Q (-2) M))) : Calls 1 mX6_earliest [.inr 61, .inl a, .inl b] M Q := Calls.of (by decide) (Nat.le_of_ble_eq_true rfl) (s_X6_earliest_0  a b M h)
set_option maxRecDepth 20000 in
theorem s_X6_earliest_24 {Q : Int → Me → Prop}  (x2 x3 x4 x5 : Int) (M : Me) (h :
    ((x3 < x5 →
    Q x4 M) ∧ (x5 ≤ x3 →
    ((band (bshr x5 x2) 1 ≠ 0 →
    cn (x5 + 1) ∧
    Go (km 1 mX6_earliest Q) 24 [some (.inr 61), none, some (.inl x2), some (.inl x3), some (.inl x4), some (.inl (x5 + 1)), none] [] M) ∧ (band (bshr x5 x2) 1 = 0 →
    (0 ≤ x2 ∧ x2 < 10) ∧
    ((band (M 65 x2) (bxor x5 (-1)) ≠ 0 →
    cn (x5 + 1) ∧
    Go (km 1 mX6_earliest Q) 24 [some (.inr 61), none, some (.inl x2), some (.inl x3), some (.inl x4), some (.inl (x5 + 1)), none] [] M) ∧ (band (M 65 x2) (bxor x5 (-1)) = 0 →
    (0 ≤ x5 ∧ x5 < 4608) ∧
    ((M 62 x5 ≤ 0 →
    cn (x5 + 1) ∧
    Go (km 1 mX6_earliest Q) 24 [some (.inr 61), none, some (.inl x2), some (.inl x3), some (.inl x4), some (.inl (x5 + 1)), none] [] M) ∧ (0 < M 62 x5 →
    Calls 0 mJ6_bitCount_0f7a4 [.inl x5] M (fun r79 M79 =>
    cn (x5 + 1) ∧
    Go (km 1 mX6_earliest Q) 24 [some (.inr 61), none, some (.inl x2), some (.inl x3), some (.inl (min x4 r79)), some (.inl (x5 + 1)), none] [] M79)))))))))) :
    Go (km 1 mX6_earliest Q) 24 [some (.inr 61), none, some (.inl x2), some (.inl x3), some (.inl x4), some (.inl x5), none] [] M := by
  refine a_iload (pc := 24) dX6_earliest_24 rfl ?_
  refine a_iload_n (pc := 26) dX6_earliest_26 rfl ?_
  refine a_icmp_gt (pc := 27) 93 dX6_earliest_27 rfl ⟨fun hc => ?_, fun hc => ?_⟩
  · replace h := h.1 hc
    refine a_iload (pc := 93) dX6_earliest_93 rfl ?_
    exact a_iretI (pc := 95) dX6_earliest_95 rfl h
  · replace h := h.2 hc
    refine a_iload (pc := 30) dX6_earliest_30 rfl ?_
    refine a_iload_n (pc := 32) dX6_earliest_32 rfl ?_
    refine a_ishr (pc := 33) dX6_earliest_33 ?_
    refine a_iconst (pc := 34) dX6_earliest_34 (cnb rfl) ?_
    refine a_iand (pc := 35) dX6_earliest_35 ?_
    refine a_if_ne (pc := 36) 57 dX6_earliest_36 rfl ⟨fun hc => ?_, fun hc => ?_⟩
    · replace h := h.1 hc
      refine a_iconst (pc := 57) dX6_earliest_57 (cnb rfl) ?_
      refine a_istore (pc := 58) dX6_earliest_58 (Nat.le_of_ble_eq_true rfl) ?_
      refine a_iload (pc := 60) dX6_earliest_60 rfl ?_
      refine a_if_eq (pc := 62) 87 dX6_earliest_62 rfl ⟨fun _ => ?_, fun hc => absurd hc (by decide)⟩
      refine a_iinc (pc := 87) dX6_earliest_87 rfl h.1 (Nat.le_of_ble_eq_true rfl) ?_
      replace h := h.2
      refine a_goto (pc := 90) 24 dX6_earliest_90 rfl ?_
      exact Go.weak h (And.intro rfl (And.intro rfl (And.intro rfl (And.intro rfl (And.intro rfl True.intro)))))
    · replace h := h.2 hc
      refine a_aload_n (pc := 39) dX6_earliest_39 rfl ?_
      refine a_getr (pc := 40) dX6_earliest_40 f_X6_21 rfl ?_
      refine a_iload_n (pc := 43) dX6_earliest_43 rfl ?_
      refine a_iald (pc := 44) dX6_earliest_44 rfl h.1.1 h.1.2  ?_
      replace h := h.2
      refine a_iload (pc := 45) dX6_earliest_45 rfl ?_
      refine a_iconst (pc := 47) dX6_earliest_47 (cnb rfl) ?_
      refine a_ixor (pc := 48) dX6_earliest_48 ?_
      refine a_iand (pc := 49) dX6_earliest_49 ?_
      refine a_if_ne (pc := 50) 57 dX6_earliest_50 rfl ⟨fun hc => ?_, fun hc => ?_⟩
      · replace h := h.1 hc
        refine a_iconst (pc := 57) dX6_earliest_57 (cnb rfl) ?_
        refine a_istore (pc := 58) dX6_earliest_58 (Nat.le_of_ble_eq_true rfl) ?_
        refine a_iload (pc := 60) dX6_earliest_60 rfl ?_
        refine a_if_eq (pc := 62) 87 dX6_earliest_62 rfl ⟨fun _ => ?_, fun hc => absurd hc (by decide)⟩
        refine a_iinc (pc := 87) dX6_earliest_87 rfl h.1 (Nat.le_of_ble_eq_true rfl) ?_
        replace h := h.2
        refine a_goto (pc := 90) 24 dX6_earliest_90 rfl ?_
        exact Go.weak h (And.intro rfl (And.intro rfl (And.intro rfl (And.intro rfl (And.intro rfl True.intro)))))
      · replace h := h.2 hc
        refine a_iconst (pc := 53) dX6_earliest_53 (cnb rfl) ?_
        refine a_goto (pc := 54) 58 dX6_earliest_54 rfl ?_
        refine a_istore (pc := 58) dX6_earliest_58 (Nat.le_of_ble_eq_true rfl) ?_
        refine a_iload (pc := 60) dX6_earliest_60 rfl ?_
        refine a_if_eq (pc := 62) 87 dX6_earliest_62 rfl ⟨fun hc => absurd hc (by decide), fun _ => ?_⟩
        refine a_aload_n (pc := 65) dX6_earliest_65 rfl ?_
        refine a_getr (pc := 66) dX6_earliest_66 f_X6_11 rfl ?_
        refine a_iload (pc := 69) dX6_earliest_69 rfl ?_
        refine a_iald (pc := 71) dX6_earliest_71 rfl h.1.1 h.1.2  ?_
        replace h := h.2
        refine a_if_le (pc := 72) 87 dX6_earliest_72 rfl ⟨fun hc => ?_, fun hc => ?_⟩
        · replace h := h.1 hc
          refine a_iinc (pc := 87) dX6_earliest_87 rfl h.1 (Nat.le_of_ble_eq_true rfl) ?_
          replace h := h.2
          refine a_goto (pc := 90) 24 dX6_earliest_90 rfl ?_
          exact Go.weak h (And.intro rfl (And.intro rfl (And.intro rfl (And.intro rfl (And.intro rfl True.intro)))))
        · replace h := h.2 hc
          refine a_iload (pc := 75) dX6_earliest_75 rfl ?_
          refine a_iload (pc := 77) dX6_earliest_77 rfl ?_
          refine a_callSi (pc := 79) (d := 0) (st := [.inl x4]) [.inl x5] dX6_earliest_79 l_X6_63 st_J6_bitCount_0f7a4 rfl ⟨Nat.le_of_ble_eq_true rfl, Nat.le_of_ble_eq_true rfl⟩ ⟨Nat.le_of_ble_eq_true rfl, Nat.le_of_ble_eq_true rfl⟩ (Nat.le_of_ble_eq_true rfl) ?_
          refine Calls.mono (fun r79 M79 hr79 hM79 h => ?_) h
          refine a_mmin (pc := 82) dX6_earliest_82 ml_X6_52 mt_st_min mt_ini mt_cd_min ⟨Nat.le_of_ble_eq_true rfl, Nat.le_of_ble_eq_true rfl⟩ ⟨Nat.le_of_ble_eq_true rfl, Nat.le_of_ble_eq_true rfl⟩ (Nat.le_of_ble_eq_true rfl) ?_
          refine a_istore (pc := 85) dX6_earliest_85 (Nat.le_of_ble_eq_true rfl) ?_
          refine a_iinc (pc := 87) dX6_earliest_87 rfl h.1 (Nat.le_of_ble_eq_true rfl) ?_
          replace h := h.2
          refine a_goto (pc := 90) 24 dX6_earliest_90 rfl ?_
          exact Go.weak h (And.intro rfl (And.intro rfl (And.intro rfl (And.intro rfl (And.intro rfl True.intro)))))
set_option maxRecDepth 20000 in
theorem s_X11_orders_0 {Q : Int → Me → Prop}  (a b c : Int) (M : Me) (h :
    ((a < 2 →
    Q (-1) M) ∧ (2 ≤ a →
    ((10 < a →
    Q (-1) M) ∧ (a ≤ 10 →
    ((b < 1 →
    Q (-1) M) ∧ (1 ≤ b →
    ((20 < b →
    Q (-1) M) ∧ (b ≤ 20 →
    cn (2 * b) ∧
    ((2 * b ≤ M 1 1 →
    ((c = 100 →
    Calls 1 mX6_readTwos [.inr 61, .inr 1, .inl a, .inl b] M (fun r64 M64 =>
    ((r64 ≠ 0 →
    Calls 0 mX6_tellOrders [.inr 61, .inl a] (mput M64 1 1 0) (fun r89 M89 =>
    ((c ≠ 100 →
    Calls 1 mX6_earliest [.inr 61, .inl a, .inl c] M89 (fun r111 M111 =>
    Q r111 M111)) ∧ (c = 100 →
    Q r89 M89)))) ∧ (r64 = 0 →
    Q (-3) (mput M64 1 1 0))))) ∧ (c ≠ 100 →
    ((c < 0 →
    Q (-1) M) ∧ (0 ≤ c →
    ((c < a →
    Calls 1 mX6_readTwos [.inr 61, .inr 1, .inl a, .inl b] M (fun r64 M64 =>
    ((r64 ≠ 0 →
    Calls 0 mX6_tellOrders [.inr 61, .inl a] (mput M64 1 1 0) (fun r89 M89 =>
    ((c ≠ 100 →
    Calls 1 mX6_earliest [.inr 61, .inl a, .inl c] M89 (fun r111 M111 =>
    Q r111 M111)) ∧ (c = 100 →
    Q r89 M89)))) ∧ (r64 = 0 →
    Q (-3) (mput M64 1 1 0))))) ∧ (a ≤ c →
    Q (-1) M))))))) ∧ (M 1 1 < 2 * b →
    Q (-1) M))))))))))) :
    Go (km 2 mX11_orders Q) 0 [some (.inr 0), some (.inl a), some (.inl b), some (.inl c), none, none] [] M := by
  refine a_iload_n (pc := 0) dX11_orders_0 rfl ?_
  refine a_iconst (pc := 1) dX11_orders_1 (cnb rfl) ?_
  refine a_icmp_lt (pc := 2) 35 dX11_orders_2 rfl ⟨fun hc => ?_, fun hc => ?_⟩
  · replace h := h.1 hc
    refine a_iconst (pc := 35) dX11_orders_35 (cnb rfl) ?_
    exact a_iretI (pc := 36) dX11_orders_36 rfl h
  · replace h := h.2 hc
    refine a_iload_n (pc := 5) dX11_orders_5 rfl ?_
    refine a_bipush (pc := 6) dX11_orders_6 (by decide) (cnb rfl) ?_
    refine a_icmp_gt (pc := 8) 35 dX11_orders_8 rfl ⟨fun hc => ?_, fun hc => ?_⟩
    · replace h := h.1 hc
      refine a_iconst (pc := 35) dX11_orders_35 (cnb rfl) ?_
      exact a_iretI (pc := 36) dX11_orders_36 rfl h
    · replace h := h.2 hc
      refine a_iload_n (pc := 11) dX11_orders_11 rfl ?_
      refine a_iconst (pc := 12) dX11_orders_12 (cnb rfl) ?_
      refine a_icmp_lt (pc := 13) 35 dX11_orders_13 rfl ⟨fun hc => ?_, fun hc => ?_⟩
      · replace h := h.1 hc
        refine a_iconst (pc := 35) dX11_orders_35 (cnb rfl) ?_
        exact a_iretI (pc := 36) dX11_orders_36 rfl h
      · replace h := h.2 hc
        refine a_iload_n (pc := 16) dX11_orders_16 rfl ?_
        refine a_bipush (pc := 17) dX11_orders_17 (by decide) (cnb rfl) ?_
        refine a_icmp_gt (pc := 19) 35 dX11_orders_19 rfl ⟨fun hc => ?_, fun hc => ?_⟩
        · replace h := h.1 hc
          refine a_iconst (pc := 35) dX11_orders_35 (cnb rfl) ?_
          exact a_iretI (pc := 36) dX11_orders_36 rfl h
        · replace h := h.2 hc
          refine a_iconst (pc := 22) dX11_orders_22 (cnb rfl) ?_
          refine a_iload_n (pc := 23) dX11_orders_23 rfl ?_
          refine a_imul (pc := 24) dX11_orders_24 h.1 ?_
          replace h := h.2
          refine a_aload_n (pc := 25) dX11_orders_25 rfl ?_
          refine a_getr (pc := 26) dX11_orders_26 f_X11_10 rfl ?_
          refine a_geti (pc := 29) 1 dX11_orders_29 f_X11_118 rfl rfl ?_
          refine a_icmp_le (pc := 32) 37 dX11_orders_32 rfl ⟨fun hc => ?_, fun hc => ?_⟩
          · replace h := h.1 hc
            refine a_iload_n (pc := 37) dX11_orders_37 rfl ?_
            refine a_bipush (pc := 38) dX11_orders_38 (by decide) (cnb rfl) ?_
            refine a_icmp_eq (pc := 40) 54 dX11_orders_40 rfl ⟨fun hc => ?_, fun hc => ?_⟩
            · replace h := h.1 hc
              refine a_aload_n (pc := 54) dX11_orders_54 rfl ?_
              refine a_getr (pc := 55) dX11_orders_55 f_X11_78 rfl ?_
              refine a_aload_n (pc := 58) dX11_orders_58 rfl ?_
              refine a_getr (pc := 59) dX11_orders_59 f_X11_10 rfl ?_
              refine a_iload_n (pc := 62) dX11_orders_62 rfl ?_
              refine a_iload_n (pc := 63) dX11_orders_63 rfl ?_
              refine a_callVi (pc := 64) (d := 1) (st := []) (o := 61) [.inr 1, .inl a, .inl b] dX11_orders_64 l_X11_286 in_X6_readTwos se_X6_readTwos rfl rfl rfl ⟨Nat.le_of_ble_eq_true rfl, Nat.le_of_ble_eq_true rfl⟩ ⟨Nat.le_of_ble_eq_true rfl, Nat.le_of_ble_eq_true rfl⟩ (Nat.le_of_ble_eq_true rfl) ?_
              refine Calls.mono (fun r64 M64 hr64 hM64 h => ?_) h
              refine a_istore (pc := 67) dX11_orders_67 (Nat.le_of_ble_eq_true rfl) ?_
              refine a_aload_n (pc := 69) dX11_orders_69 rfl ?_
              refine a_getr (pc := 70) dX11_orders_70 f_X11_10 rfl ?_
              refine a_callVv (pc := 73) (d := 0) (st := []) (o := 1) [] dX11_orders_73 l_X11_129 in_X9_clear se_X9_clear rfl rfl rfl ⟨Nat.le_of_ble_eq_true rfl, Nat.le_of_ble_eq_true rfl⟩ ⟨Nat.le_of_ble_eq_true rfl, Nat.le_of_ble_eq_true rfl⟩ (Nat.le_of_ble_eq_true rfl) ?_
              refine p_X9_clear ?_
              refine a_iload (pc := 76) dX11_orders_76 rfl ?_
              refine a_if_ne (pc := 78) 84 dX11_orders_78 rfl ⟨fun hc => ?_, fun hc => ?_⟩
              · replace h := h.1 hc
                refine a_aload_n (pc := 84) dX11_orders_84 rfl ?_
                refine a_getr (pc := 85) dX11_orders_85 f_X11_78 rfl ?_
                refine a_iload_n (pc := 88) dX11_orders_88 rfl ?_
                refine a_callVi (pc := 89) (d := 0) (st := []) (o := 61) [.inl a] dX11_orders_89 l_X11_290 in_X6_tellOrders se_X6_tellOrders rfl rfl rfl ⟨Nat.le_of_ble_eq_true rfl, Nat.le_of_ble_eq_true rfl⟩ ⟨Nat.le_of_ble_eq_true rfl, Nat.le_of_ble_eq_true rfl⟩ (Nat.le_of_ble_eq_true rfl) ?_
                refine Calls.mono (fun r89 M89 hr89 hM89 h => ?_) h
                refine a_istore (pc := 92) dX11_orders_92 (Nat.le_of_ble_eq_true rfl) ?_
                refine a_iload_n (pc := 94) dX11_orders_94 rfl ?_
                refine a_bipush (pc := 95) dX11_orders_95 (by decide) (cnb rfl) ?_
                refine a_icmp_ne (pc := 97) 105 dX11_orders_97 rfl ⟨fun hc => ?_, fun hc => ?_⟩
                · replace h := h.1 hc
                  refine a_aload_n (pc := 105) dX11_orders_105 rfl ?_
                  refine a_getr (pc := 106) dX11_orders_106 f_X11_78 rfl ?_
                  refine a_iload_n (pc := 109) dX11_orders_109 rfl ?_
                  refine a_iload_n (pc := 110) dX11_orders_110 rfl ?_
                  refine a_callVi (pc := 111) (d := 1) (st := []) (o := 61) [.inl a, .inl c] dX11_orders_111 l_X11_293 in_X6_earliest se_X6_earliest rfl rfl rfl ⟨Nat.le_of_ble_eq_true rfl, Nat.le_of_ble_eq_true rfl⟩ ⟨Nat.le_of_ble_eq_true rfl, Nat.le_of_ble_eq_true rfl⟩ (Nat.le_of_ble_eq_true rfl) ?_
                  refine Calls.mono (fun r111 M111 hr111 hM111 h => ?_) h
                  exact a_iretI (pc := 114) dX11_orders_114 rfl h
                · replace h := h.2 hc
                  refine a_iload (pc := 100) dX11_orders_100 rfl ?_
                  refine a_goto (pc := 102) 114 dX11_orders_102 rfl ?_
                  exact a_iretI (pc := 114) dX11_orders_114 rfl h
              · replace h := h.2 hc
                refine a_bipush (pc := 81) dX11_orders_81 (by decide) (cnb rfl) ?_
                exact a_iretI (pc := 83) dX11_orders_83 rfl h
            · replace h := h.2 hc
              refine a_iload_n (pc := 43) dX11_orders_43 rfl ?_
              refine a_if_lt (pc := 44) 52 dX11_orders_44 rfl ⟨fun hc => ?_, fun hc => ?_⟩
              · replace h := h.1 hc
                refine a_iconst (pc := 52) dX11_orders_52 (cnb rfl) ?_
                exact a_iretI (pc := 53) dX11_orders_53 rfl h
              · replace h := h.2 hc
                refine a_iload_n (pc := 47) dX11_orders_47 rfl ?_
                refine a_iload_n (pc := 48) dX11_orders_48 rfl ?_
                refine a_icmp_lt (pc := 49) 54 dX11_orders_49 rfl ⟨fun hc => ?_, fun hc => ?_⟩
                · replace h := h.1 hc
                  refine a_aload_n (pc := 54) dX11_orders_54 rfl ?_
                  refine a_getr (pc := 55) dX11_orders_55 f_X11_78 rfl ?_
                  refine a_aload_n (pc := 58) dX11_orders_58 rfl ?_
                  refine a_getr (pc := 59) dX11_orders_59 f_X11_10 rfl ?_
                  refine a_iload_n (pc := 62) dX11_orders_62 rfl ?_
                  refine a_iload_n (pc := 63) dX11_orders_63 rfl ?_
                  refine a_callVi (pc := 64) (d := 1) (st := []) (o := 61) [.inr 1, .inl a, .inl b] dX11_orders_64 l_X11_286 in_X6_readTwos se_X6_readTwos rfl rfl rfl ⟨Nat.le_of_ble_eq_true rfl, Nat.le_of_ble_eq_true rfl⟩ ⟨Nat.le_of_ble_eq_true rfl, Nat.le_of_ble_eq_true rfl⟩ (Nat.le_of_ble_eq_true rfl) ?_
                  refine Calls.mono (fun r64 M64 hr64 hM64 h => ?_) h
                  refine a_istore (pc := 67) dX11_orders_67 (Nat.le_of_ble_eq_true rfl) ?_
                  refine a_aload_n (pc := 69) dX11_orders_69 rfl ?_
                  refine a_getr (pc := 70) dX11_orders_70 f_X11_10 rfl ?_
                  refine a_callVv (pc := 73) (d := 0) (st := []) (o := 1) [] dX11_orders_73 l_X11_129 in_X9_clear se_X9_clear rfl rfl rfl ⟨Nat.le_of_ble_eq_true rfl, Nat.le_of_ble_eq_true rfl⟩ ⟨Nat.le_of_ble_eq_true rfl, Nat.le_of_ble_eq_true rfl⟩ (Nat.le_of_ble_eq_true rfl) ?_
                  refine p_X9_clear ?_
                  refine a_iload (pc := 76) dX11_orders_76 rfl ?_
                  refine a_if_ne (pc := 78) 84 dX11_orders_78 rfl ⟨fun hc => ?_, fun hc => ?_⟩
                  · replace h := h.1 hc
                    refine a_aload_n (pc := 84) dX11_orders_84 rfl ?_
                    refine a_getr (pc := 85) dX11_orders_85 f_X11_78 rfl ?_
                    refine a_iload_n (pc := 88) dX11_orders_88 rfl ?_
                    refine a_callVi (pc := 89) (d := 0) (st := []) (o := 61) [.inl a] dX11_orders_89 l_X11_290 in_X6_tellOrders se_X6_tellOrders rfl rfl rfl ⟨Nat.le_of_ble_eq_true rfl, Nat.le_of_ble_eq_true rfl⟩ ⟨Nat.le_of_ble_eq_true rfl, Nat.le_of_ble_eq_true rfl⟩ (Nat.le_of_ble_eq_true rfl) ?_
                    refine Calls.mono (fun r89 M89 hr89 hM89 h => ?_) h
                    refine a_istore (pc := 92) dX11_orders_92 (Nat.le_of_ble_eq_true rfl) ?_
                    refine a_iload_n (pc := 94) dX11_orders_94 rfl ?_
                    refine a_bipush (pc := 95) dX11_orders_95 (by decide) (cnb rfl) ?_
                    refine a_icmp_ne (pc := 97) 105 dX11_orders_97 rfl ⟨fun hc => ?_, fun hc => ?_⟩
                    · replace h := h.1 hc
                      refine a_aload_n (pc := 105) dX11_orders_105 rfl ?_
                      refine a_getr (pc := 106) dX11_orders_106 f_X11_78 rfl ?_
                      refine a_iload_n (pc := 109) dX11_orders_109 rfl ?_
                      refine a_iload_n (pc := 110) dX11_orders_110 rfl ?_
                      refine a_callVi (pc := 111) (d := 1) (st := []) (o := 61) [.inl a, .inl c] dX11_orders_111 l_X11_293 in_X6_earliest se_X6_earliest rfl rfl rfl ⟨Nat.le_of_ble_eq_true rfl, Nat.le_of_ble_eq_true rfl⟩ ⟨Nat.le_of_ble_eq_true rfl, Nat.le_of_ble_eq_true rfl⟩ (Nat.le_of_ble_eq_true rfl) ?_
                      refine Calls.mono (fun r111 M111 hr111 hM111 h => ?_) h
                      exact a_iretI (pc := 114) dX11_orders_114 rfl h
                    · replace h := h.2 hc
                      refine a_iload (pc := 100) dX11_orders_100 rfl ?_
                      refine a_goto (pc := 102) 114 dX11_orders_102 rfl ?_
                      exact a_iretI (pc := 114) dX11_orders_114 rfl h
                  · replace h := h.2 hc
                    refine a_bipush (pc := 81) dX11_orders_81 (by decide) (cnb rfl) ?_
                    exact a_iretI (pc := 83) dX11_orders_83 rfl h
                · replace h := h.2 hc
                  refine a_iconst (pc := 52) dX11_orders_52 (cnb rfl) ?_
                  exact a_iretI (pc := 53) dX11_orders_53 rfl h
          · replace h := h.2 hc
            refine a_iconst (pc := 35) dX11_orders_35 (cnb rfl) ?_
            exact a_iretI (pc := 36) dX11_orders_36 rfl h
set_option maxRecDepth 20000 in
theorem e_X11_orders {Q : Int → Me → Prop}  {a b c : Int} {M : Me} (h :
    ((a < 2 →
    Q (-1) M) ∧ (2 ≤ a →
    ((10 < a →
    Q (-1) M) ∧ (a ≤ 10 →
    ((b < 1 →
    Q (-1) M) ∧ (1 ≤ b →
    ((20 < b →
    Q (-1) M) ∧ (b ≤ 20 →
    cn (2 * b) ∧
    ((2 * b ≤ M 1 1 →
    ((c = 100 →
    Calls 1 mX6_readTwos [.inr 61, .inr 1, .inl a, .inl b] M (fun r64 M64 =>
    ((r64 ≠ 0 →
    Calls 0 mX6_tellOrders [.inr 61, .inl a] (mput M64 1 1 0) (fun r89 M89 =>
    ((c ≠ 100 →
    Calls 1 mX6_earliest [.inr 61, .inl a, .inl c] M89 (fun r111 M111 =>
    Q r111 M111)) ∧ (c = 100 →
    Q r89 M89)))) ∧ (r64 = 0 →
    Q (-3) (mput M64 1 1 0))))) ∧ (c ≠ 100 →
    ((c < 0 →
    Q (-1) M) ∧ (0 ≤ c →
    ((c < a →
    Calls 1 mX6_readTwos [.inr 61, .inr 1, .inl a, .inl b] M (fun r64 M64 =>
    ((r64 ≠ 0 →
    Calls 0 mX6_tellOrders [.inr 61, .inl a] (mput M64 1 1 0) (fun r89 M89 =>
    ((c ≠ 100 →
    Calls 1 mX6_earliest [.inr 61, .inl a, .inl c] M89 (fun r111 M111 =>
    Q r111 M111)) ∧ (c = 100 →
    Q r89 M89)))) ∧ (r64 = 0 →
    Q (-3) (mput M64 1 1 0))))) ∧ (a ≤ c →
    Q (-1) M))))))) ∧ (M 1 1 < 2 * b →
    Q (-1) M))))))))))) : Calls 2 mX11_orders [.inr 0, .inl a, .inl b, .inl c] M Q := Calls.of (by decide) (Nat.le_of_ble_eq_true rfl) (s_X11_orders_0  a b c M h)
set_option maxRecDepth 20000 in
theorem s_X12_closes_0 {Q : Int → Me → Prop}  (a : Int) (M : Me) (h :
    Go (km 1 mX12_closes Q) 2 [some (.inr 76), some (.inl a), some (.inl 0), none] [] M) :
    Go (km 1 mX12_closes Q) 0 [some (.inr 76), some (.inl a), none, none] [] M := by
  refine a_iconst (pc := 0) dX12_closes_0 (cnb rfl) ?_
  refine a_istore_n (pc := 1) dX12_closes_1 (Nat.le_of_ble_eq_true rfl) ?_
  exact h
set_option maxRecDepth 20000 in
theorem e_X12_closes {Q : Int → Me → Prop}  {a : Int} {M : Me} (h :
    Go (km 1 mX12_closes Q) 2 [some (.inr 76), some (.inl a), some (.inl 0), none] [] M) : Calls 1 mX12_closes [.inr 76, .inl a] M Q := Calls.of (by decide) (Nat.le_of_ble_eq_true rfl) (s_X12_closes_0  a M h)
set_option maxRecDepth 20000 in
theorem s_X12_closes_2 {Q : Int → Me → Prop}  (x1 x2 : Int) (M : Me) (h :
    ((x1 ≤ x2 →
    Q 0 M) ∧ (x2 < x1 →
    Go (km 1 mX12_closes Q) 9 [some (.inr 76), some (.inl x1), some (.inl x2), some (.inl 0)] [] M))) :
    Go (km 1 mX12_closes Q) 2 [some (.inr 76), some (.inl x1), some (.inl x2), none] [] M := by
  refine a_iload_n (pc := 2) dX12_closes_2 rfl ?_
  refine a_iload_n (pc := 3) dX12_closes_3 rfl ?_
  refine a_icmp_ge (pc := 4) 58 dX12_closes_4 rfl ⟨fun hc => ?_, fun hc => ?_⟩
  · replace h := h.1 hc
    exact a_ret (pc := 58) dX12_closes_58 rfl h
  · replace h := h.2 hc
    refine a_iconst (pc := 7) dX12_closes_7 (cnb rfl) ?_
    refine a_istore_n (pc := 8) dX12_closes_8 (Nat.le_of_ble_eq_true rfl) ?_
    exact h
set_option maxRecDepth 20000 in
theorem s_X12_closes_9 {Q : Int → Me → Prop}  (x1 x2 x3 : Int) (M : Me) (h :
    ((x1 ≤ x3 →
    cn (x2 + 1) ∧
    Go (km 1 mX12_closes Q) 2 [some (.inr 76), some (.inl x1), some (.inl (x2 + 1)), none] [] M) ∧ (x3 < x1 →
    (0 ≤ x3 ∧ x3 < 10) ∧
    ((band (bshr (M 122 x3) x2) 1 = 1 →
    (0 ≤ x3 ∧ x3 < 10) ∧
    (0 ≤ x2 ∧ x2 < 10) ∧
    (0 ≤ x3 ∧ x3 < 10) ∧
    cn (x3 + 1) ∧
    Go (km 1 mX12_closes Q) 9 [some (.inr 76), some (.inl x1), some (.inl x2), some (.inl (x3 + 1))] [] (mput M 122 x3 (bor (M 122 x3) (M 122 x2)))) ∧ (¬ (band (bshr (M 122 x3) x2) 1 = 1) →
    cn (x3 + 1) ∧
    Go (km 1 mX12_closes Q) 9 [some (.inr 76), some (.inl x1), some (.inl x2), some (.inl (x3 + 1))] [] M))))) :
    Go (km 1 mX12_closes Q) 9 [some (.inr 76), some (.inl x1), some (.inl x2), some (.inl x3)] [] M := by
  refine a_iload_n (pc := 9) dX12_closes_9 rfl ?_
  refine a_iload_n (pc := 10) dX12_closes_10 rfl ?_
  refine a_icmp_ge (pc := 11) 52 dX12_closes_11 rfl ⟨fun hc => ?_, fun hc => ?_⟩
  · replace h := h.1 hc
    refine a_iinc (pc := 52) dX12_closes_52 rfl h.1 (Nat.le_of_ble_eq_true rfl) ?_
    replace h := h.2
    refine a_goto (pc := 55) 2 dX12_closes_55 rfl ?_
    exact Go.weak h (And.intro rfl (And.intro rfl (And.intro rfl True.intro)))
  · replace h := h.2 hc
    refine a_aload_n (pc := 14) dX12_closes_14 rfl ?_
    refine a_getr (pc := 15) dX12_closes_15 f_X12_146 rfl ?_
    refine a_iload_n (pc := 18) dX12_closes_18 rfl ?_
    refine a_iald (pc := 19) dX12_closes_19 rfl h.1.1 h.1.2  ?_
    replace h := h.2
    refine a_iload_n (pc := 20) dX12_closes_20 rfl ?_
    refine a_callSi (pc := 21) (d := 0) (st := []) [.inl (M 122 x3), .inl x2] dX12_closes_21 l_X12_359 st_X12_has rfl ⟨Nat.le_of_ble_eq_true rfl, Nat.le_of_ble_eq_true rfl⟩ ⟨Nat.le_of_ble_eq_true rfl, Nat.le_of_ble_eq_true rfl⟩ (Nat.le_of_ble_eq_true rfl) ?_
    refine p_X12_has ⟨fun hc => ?_, fun hc => ?_⟩
    · replace h := h.1 hc
      refine a_if_eq (pc := 24) 46 dX12_closes_24 rfl ⟨fun hc => absurd hc (by decide), fun _ => ?_⟩
      refine a_aload_n (pc := 27) dX12_closes_27 rfl ?_
      refine a_getr (pc := 28) dX12_closes_28 f_X12_146 rfl ?_
      refine a_iload_n (pc := 31) dX12_closes_31 rfl ?_
      refine a_aload_n (pc := 32) dX12_closes_32 rfl ?_
      refine a_getr (pc := 33) dX12_closes_33 f_X12_146 rfl ?_
      refine a_iload_n (pc := 36) dX12_closes_36 rfl ?_
      refine a_iald (pc := 37) dX12_closes_37 rfl h.1.1 h.1.2  ?_
      replace h := h.2
      refine a_aload_n (pc := 38) dX12_closes_38 rfl ?_
      refine a_getr (pc := 39) dX12_closes_39 f_X12_146 rfl ?_
      refine a_iload_n (pc := 42) dX12_closes_42 rfl ?_
      refine a_iald (pc := 43) dX12_closes_43 rfl h.1.1 h.1.2  ?_
      replace h := h.2
      refine a_ior (pc := 44) dX12_closes_44 ?_
      refine a_iast (pc := 45) dX12_closes_45 rfl h.1.1 h.1.2 ?_
      replace h := h.2
      refine a_iinc (pc := 46) dX12_closes_46 rfl h.1 (Nat.le_of_ble_eq_true rfl) ?_
      replace h := h.2
      refine a_goto (pc := 49) 9 dX12_closes_49 rfl ?_
      exact h
    · replace h := h.2 hc
      refine a_if_eq (pc := 24) 46 dX12_closes_24 rfl ⟨fun _ => ?_, fun hc => absurd hc (by decide)⟩
      refine a_iinc (pc := 46) dX12_closes_46 rfl h.1 (Nat.le_of_ble_eq_true rfl) ?_
      replace h := h.2
      refine a_goto (pc := 49) 9 dX12_closes_49 rfl ?_
      exact h
set_option maxRecDepth 20000 in
theorem s_X12_waysOf_0 {Q : Int → Me → Prop}  (a : Int) (M : Me) (h :
    Go (km 1 mX12_waysOf Q) 2 [some (.inr 76), some (.inl a), some (.inl 0), none] [] M) :
    Go (km 1 mX12_waysOf Q) 0 [some (.inr 76), some (.inl a), none, none] [] M := by
  refine a_iconst (pc := 0) dX12_waysOf_0 (cnb rfl) ?_
  refine a_istore_n (pc := 1) dX12_waysOf_1 (Nat.le_of_ble_eq_true rfl) ?_
  exact h
set_option maxRecDepth 20000 in
theorem e_X12_waysOf {Q : Int → Me → Prop}  {a : Int} {M : Me} (h :
    Go (km 1 mX12_waysOf Q) 2 [some (.inr 76), some (.inl a), some (.inl 0), none] [] M) : Calls 1 mX12_waysOf [.inr 76, .inl a] M Q := Calls.of (by decide) (Nat.le_of_ble_eq_true rfl) (s_X12_waysOf_0  a M h)
set_option maxRecDepth 20000 in
theorem s_X12_waysOf_2 {Q : Int → Me → Prop}  (x1 x2 : Int) (M : Me) (h :
    ((bshl 1 x1 ≤ x2 →
    cn ((bshl 1 x1) - 1) ∧
    (0 ≤ (bshl 1 x1) - 1 ∧ (bshl 1 x1) - 1 < 1024) ∧
    Q (M 123 ((bshl 1 x1) - 1)) M) ∧ (x2 < bshl 1 x1 →
    ((x2 ≠ 0 →
    (0 ≤ x2 ∧ x2 < 1024) ∧
    Go (km 1 mX12_waysOf Q) 26 [some (.inr 76), some (.inl x1), some (.inl x2), some (.inl 0)] [] (mput M 123 x2 0)) ∧ (x2 = 0 →
    (0 ≤ x2 ∧ x2 < 1024) ∧
    Go (km 1 mX12_waysOf Q) 26 [some (.inr 76), some (.inl x1), some (.inl x2), some (.inl 0)] [] (mput M 123 x2 1)))))) :
    Go (km 1 mX12_waysOf Q) 2 [some (.inr 76), some (.inl x1), some (.inl x2), none] [] M := by
  refine a_iload_n (pc := 2) dX12_waysOf_2 rfl ?_
  refine a_iconst (pc := 3) dX12_waysOf_3 (cnb rfl) ?_
  refine a_iload_n (pc := 4) dX12_waysOf_4 rfl ?_
  refine a_ishl (pc := 5) dX12_waysOf_5 ?_
  refine a_icmp_ge (pc := 6) 95 dX12_waysOf_6 rfl ⟨fun hc => ?_, fun hc => ?_⟩
  · replace h := h.1 hc
    refine a_aload_n (pc := 95) dX12_waysOf_95 rfl ?_
    refine a_getr (pc := 96) dX12_waysOf_96 f_X12_149 rfl ?_
    refine a_iconst (pc := 99) dX12_waysOf_99 (cnb rfl) ?_
    refine a_iload_n (pc := 100) dX12_waysOf_100 rfl ?_
    refine a_ishl (pc := 101) dX12_waysOf_101 ?_
    refine a_iconst (pc := 102) dX12_waysOf_102 (cnb rfl) ?_
    refine a_isub (pc := 103) dX12_waysOf_103 h.1 ?_
    replace h := h.2
    refine a_iald (pc := 104) dX12_waysOf_104 rfl h.1.1 h.1.2  ?_
    replace h := h.2
    exact a_iretI (pc := 105) dX12_waysOf_105 rfl h
  · replace h := h.2 hc
    refine a_aload_n (pc := 9) dX12_waysOf_9 rfl ?_
    refine a_getr (pc := 10) dX12_waysOf_10 f_X12_149 rfl ?_
    refine a_iload_n (pc := 13) dX12_waysOf_13 rfl ?_
    refine a_iload_n (pc := 14) dX12_waysOf_14 rfl ?_
    refine a_if_ne (pc := 15) 22 dX12_waysOf_15 rfl ⟨fun hc => ?_, fun hc => ?_⟩
    · replace h := h.1 hc
      refine a_iconst (pc := 22) dX12_waysOf_22 (cnb rfl) ?_
      refine a_iast (pc := 23) dX12_waysOf_23 rfl h.1.1 h.1.2 ?_
      replace h := h.2
      refine a_iconst (pc := 24) dX12_waysOf_24 (cnb rfl) ?_
      refine a_istore_n (pc := 25) dX12_waysOf_25 (Nat.le_of_ble_eq_true rfl) ?_
      exact h
    · replace h := h.2 hc
      refine a_iconst (pc := 18) dX12_waysOf_18 (cnb rfl) ?_
      refine a_goto (pc := 19) 23 dX12_waysOf_19 rfl ?_
      refine a_iast (pc := 23) dX12_waysOf_23 rfl h.1.1 h.1.2 ?_
      replace h := h.2
      refine a_iconst (pc := 24) dX12_waysOf_24 (cnb rfl) ?_
      refine a_istore_n (pc := 25) dX12_waysOf_25 (Nat.le_of_ble_eq_true rfl) ?_
      exact h
set_option maxRecDepth 20000 in
theorem s_X12_waysOf_26 {Q : Int → Me → Prop}  (x1 x2 x3 : Int) (M : Me) (h :
    ((x1 ≤ x3 →
    cn (x2 + 1) ∧
    Go (km 1 mX12_waysOf Q) 2 [some (.inr 76), some (.inl x1), some (.inl (x2 + 1)), none] [] M) ∧ (x3 < x1 →
    ((band (bshr x2 x3) 1 = 1 →
    (0 ≤ x3 ∧ x3 < 10) ∧
    ((band (M 122 x3) (bxor (band x2 (bxor (bshl 1 x3) (-1))) (-1)) ≠ 0 →
    cn (x3 + 1) ∧
    Go (km 1 mX12_waysOf Q) 26 [some (.inr 76), some (.inl x1), some (.inl x2), some (.inl (x3 + 1))] [] M) ∧ (band (M 122 x3) (bxor (band x2 (bxor (bshl 1 x3) (-1))) (-1)) = 0 →
    (0 ≤ x2 ∧ x2 < 1024) ∧
    (0 ≤ band x2 (bxor (bshl 1 x3) (-1)) ∧ band x2 (bxor (bshl 1 x3) (-1)) < 1024) ∧
    cn ((M 123 x2) + (M 123 (band x2 (bxor (bshl 1 x3) (-1))))) ∧
    (0 ≤ x2 ∧ x2 < 1024) ∧
    cn (x3 + 1) ∧
    Go (km 1 mX12_waysOf Q) 26 [some (.inr 76), some (.inl x1), some (.inl x2), some (.inl (x3 + 1))] [] (mput M 123 x2 ((M 123 x2) + (M 123 (band x2 (bxor (bshl 1 x3) (-1))))))))) ∧ (¬ (band (bshr x2 x3) 1 = 1) →
    cn (x3 + 1) ∧
    Go (km 1 mX12_waysOf Q) 26 [some (.inr 76), some (.inl x1), some (.inl x2), some (.inl (x3 + 1))] [] M))))) :
    Go (km 1 mX12_waysOf Q) 26 [some (.inr 76), some (.inl x1), some (.inl x2), some (.inl x3)] [] M := by
  refine a_iload_n (pc := 26) dX12_waysOf_26 rfl ?_
  refine a_iload_n (pc := 27) dX12_waysOf_27 rfl ?_
  refine a_icmp_ge (pc := 28) 89 dX12_waysOf_28 rfl ⟨fun hc => ?_, fun hc => ?_⟩
  · replace h := h.1 hc
    refine a_iinc (pc := 89) dX12_waysOf_89 rfl h.1 (Nat.le_of_ble_eq_true rfl) ?_
    replace h := h.2
    refine a_goto (pc := 92) 2 dX12_waysOf_92 rfl ?_
    exact Go.weak h (And.intro rfl (And.intro rfl (And.intro rfl True.intro)))
  · replace h := h.2 hc
    refine a_iload_n (pc := 31) dX12_waysOf_31 rfl ?_
    refine a_iload_n (pc := 32) dX12_waysOf_32 rfl ?_
    refine a_callSi (pc := 33) (d := 0) (st := []) [.inl x2, .inl x3] dX12_waysOf_33 l_X12_359 st_X12_has rfl ⟨Nat.le_of_ble_eq_true rfl, Nat.le_of_ble_eq_true rfl⟩ ⟨Nat.le_of_ble_eq_true rfl, Nat.le_of_ble_eq_true rfl⟩ (Nat.le_of_ble_eq_true rfl) ?_
    refine p_X12_has ⟨fun hc => ?_, fun hc => ?_⟩
    · replace h := h.1 hc
      refine a_if_eq (pc := 36) 83 dX12_waysOf_36 rfl ⟨fun hc => absurd hc (by decide), fun _ => ?_⟩
      refine a_aload_n (pc := 39) dX12_waysOf_39 rfl ?_
      refine a_getr (pc := 40) dX12_waysOf_40 f_X12_146 rfl ?_
      refine a_iload_n (pc := 43) dX12_waysOf_43 rfl ?_
      refine a_iald (pc := 44) dX12_waysOf_44 rfl h.1.1 h.1.2  ?_
      replace h := h.2
      refine a_iload_n (pc := 45) dX12_waysOf_45 rfl ?_
      refine a_iconst (pc := 46) dX12_waysOf_46 (cnb rfl) ?_
      refine a_iload_n (pc := 47) dX12_waysOf_47 rfl ?_
      refine a_ishl (pc := 48) dX12_waysOf_48 ?_
      refine a_iconst (pc := 49) dX12_waysOf_49 (cnb rfl) ?_
      refine a_ixor (pc := 50) dX12_waysOf_50 ?_
      refine a_iand (pc := 51) dX12_waysOf_51 ?_
      refine a_iconst (pc := 52) dX12_waysOf_52 (cnb rfl) ?_
      refine a_ixor (pc := 53) dX12_waysOf_53 ?_
      refine a_iand (pc := 54) dX12_waysOf_54 ?_
      refine a_if_ne (pc := 55) 83 dX12_waysOf_55 rfl ⟨fun hc => ?_, fun hc => ?_⟩
      · replace h := h.1 hc
        refine a_iinc (pc := 83) dX12_waysOf_83 rfl h.1 (Nat.le_of_ble_eq_true rfl) ?_
        replace h := h.2
        refine a_goto (pc := 86) 26 dX12_waysOf_86 rfl ?_
        exact h
      · replace h := h.2 hc
        refine a_aload_n (pc := 58) dX12_waysOf_58 rfl ?_
        refine a_getr (pc := 59) dX12_waysOf_59 f_X12_149 rfl ?_
        refine a_iload_n (pc := 62) dX12_waysOf_62 rfl ?_
        refine a_aload_n (pc := 63) dX12_waysOf_63 rfl ?_
        refine a_getr (pc := 64) dX12_waysOf_64 f_X12_149 rfl ?_
        refine a_iload_n (pc := 67) dX12_waysOf_67 rfl ?_
        refine a_iald (pc := 68) dX12_waysOf_68 rfl h.1.1 h.1.2  ?_
        replace h := h.2
        refine a_aload_n (pc := 69) dX12_waysOf_69 rfl ?_
        refine a_getr (pc := 70) dX12_waysOf_70 f_X12_149 rfl ?_
        refine a_iload_n (pc := 73) dX12_waysOf_73 rfl ?_
        refine a_iconst (pc := 74) dX12_waysOf_74 (cnb rfl) ?_
        refine a_iload_n (pc := 75) dX12_waysOf_75 rfl ?_
        refine a_ishl (pc := 76) dX12_waysOf_76 ?_
        refine a_iconst (pc := 77) dX12_waysOf_77 (cnb rfl) ?_
        refine a_ixor (pc := 78) dX12_waysOf_78 ?_
        refine a_iand (pc := 79) dX12_waysOf_79 ?_
        refine a_iald (pc := 80) dX12_waysOf_80 rfl h.1.1 h.1.2  ?_
        replace h := h.2
        refine a_iadd (pc := 81) dX12_waysOf_81 h.1 ?_
        replace h := h.2
        refine a_iast (pc := 82) dX12_waysOf_82 rfl h.1.1 h.1.2 ?_
        replace h := h.2
        refine a_iinc (pc := 83) dX12_waysOf_83 rfl h.1 (Nat.le_of_ble_eq_true rfl) ?_
        replace h := h.2
        refine a_goto (pc := 86) 26 dX12_waysOf_86 rfl ?_
        exact h
    · replace h := h.2 hc
      refine a_if_eq (pc := 36) 83 dX12_waysOf_36 rfl ⟨fun _ => ?_, fun hc => absurd hc (by decide)⟩
      refine a_iinc (pc := 83) dX12_waysOf_83 rfl h.1 (Nat.le_of_ble_eq_true rfl) ?_
      replace h := h.2
      refine a_goto (pc := 86) 26 dX12_waysOf_86 rfl ?_
      exact h
set_option maxRecDepth 20000 in
theorem s_X12_orders_0 {Q : Int → Me → Prop}  (a b c : Int) (M : Me) (h :
    ((2 ≤ a ∧ a ≤ 10 →
    ((1 ≤ b ∧ b ≤ 20 →
    cn (a - 1) ∧
    ((0 ≤ c ∧ c ≤ a - 1 →
    cn (2 * b) ∧
    ((2 * b ≤ M 76 13 →
    Go (km 2 mX12_orders Q) 57 [some (.inr 76), some (.inl a), some (.inl b), some (.inl c), some (.inl 0), none, none] [] (mput M 76 13 0)) ∧ (M 76 13 < 2 * b →
    Q (-1) M))) ∧ (¬ (0 ≤ c ∧ c ≤ a - 1) →
    ((c ≠ 100 →
    Q (-1) M) ∧ (c = 100 →
    cn (2 * b) ∧
    ((2 * b ≤ M 76 13 →
    Go (km 2 mX12_orders Q) 57 [some (.inr 76), some (.inl a), some (.inl b), some (.inl c), some (.inl 0), none, none] [] (mput M 76 13 0)) ∧ (M 76 13 < 2 * b →
    Q (-1) M))))))) ∧ (¬ (1 ≤ b ∧ b ≤ 20) →
    Q (-1) M))) ∧ (¬ (2 ≤ a ∧ a ≤ 10) →
    Q (-1) M))) :
    Go (km 2 mX12_orders Q) 0 [some (.inr 76), some (.inl a), some (.inl b), some (.inl c), none, none, none] [] M := by
  refine a_iload_n (pc := 0) dX12_orders_0 rfl ?_
  refine a_iconst (pc := 1) dX12_orders_1 (cnb rfl) ?_
  refine a_bipush (pc := 2) dX12_orders_2 (by decide) (cnb rfl) ?_
  refine a_callSi (pc := 4) (d := 0) (st := []) [.inl a, .inl 2, .inl 10] dX12_orders_4 l_X12_156 st_X12_in rfl ⟨Nat.le_of_ble_eq_true rfl, Nat.le_of_ble_eq_true rfl⟩ ⟨Nat.le_of_ble_eq_true rfl, Nat.le_of_ble_eq_true rfl⟩ (Nat.le_of_ble_eq_true rfl) ?_
  refine p_X12_in ⟨fun hc => ?_, fun hc => ?_⟩
  · replace h := h.1 hc
    refine a_if_eq (pc := 7) 47 dX12_orders_7 rfl ⟨fun hc => absurd hc (by decide), fun _ => ?_⟩
    refine a_iload_n (pc := 10) dX12_orders_10 rfl ?_
    refine a_iconst (pc := 11) dX12_orders_11 (cnb rfl) ?_
    refine a_bipush (pc := 12) dX12_orders_12 (by decide) (cnb rfl) ?_
    refine a_callSi (pc := 14) (d := 0) (st := []) [.inl b, .inl 1, .inl 20] dX12_orders_14 l_X12_156 st_X12_in rfl ⟨Nat.le_of_ble_eq_true rfl, Nat.le_of_ble_eq_true rfl⟩ ⟨Nat.le_of_ble_eq_true rfl, Nat.le_of_ble_eq_true rfl⟩ (Nat.le_of_ble_eq_true rfl) ?_
    refine p_X12_in ⟨fun hc => ?_, fun hc => ?_⟩
    · replace h := h.1 hc
      refine a_if_eq (pc := 17) 47 dX12_orders_17 rfl ⟨fun hc => absurd hc (by decide), fun _ => ?_⟩
      refine a_iload_n (pc := 20) dX12_orders_20 rfl ?_
      refine a_iconst (pc := 21) dX12_orders_21 (cnb rfl) ?_
      refine a_iload_n (pc := 22) dX12_orders_22 rfl ?_
      refine a_iconst (pc := 23) dX12_orders_23 (cnb rfl) ?_
      refine a_isub (pc := 24) dX12_orders_24 h.1 ?_
      replace h := h.2
      refine a_callSi (pc := 25) (d := 0) (st := []) [.inl c, .inl 0, .inl (a - 1)] dX12_orders_25 l_X12_156 st_X12_in rfl ⟨Nat.le_of_ble_eq_true rfl, Nat.le_of_ble_eq_true rfl⟩ ⟨Nat.le_of_ble_eq_true rfl, Nat.le_of_ble_eq_true rfl⟩ (Nat.le_of_ble_eq_true rfl) ?_
      refine p_X12_in ⟨fun hc => ?_, fun hc => ?_⟩
      · replace h := h.1 hc
        refine a_if_ne (pc := 28) 37 dX12_orders_28 rfl ⟨fun _ => ?_, fun hc => absurd hc (by decide)⟩
        refine a_iconst (pc := 37) dX12_orders_37 (cnb rfl) ?_
        refine a_iload_n (pc := 38) dX12_orders_38 rfl ?_
        refine a_imul (pc := 39) dX12_orders_39 h.1 ?_
        replace h := h.2
        refine a_aload_n (pc := 40) dX12_orders_40 rfl ?_
        refine a_geti (pc := 41) 13 dX12_orders_41 f_X12_168 rfl rfl ?_
        refine a_icmp_le (pc := 44) 49 dX12_orders_44 rfl ⟨fun hc => ?_, fun hc => ?_⟩
        · replace h := h.1 hc
          refine a_aload_n (pc := 49) dX12_orders_49 rfl ?_
          refine a_iconst (pc := 50) dX12_orders_50 (cnb rfl) ?_
          refine a_puti (pc := 51) 13 dX12_orders_51 f_X12_168 rfl rfl (Or.inl rfl) ?_
          refine a_iconst (pc := 54) dX12_orders_54 (cnb rfl) ?_
          refine a_istore (pc := 55) dX12_orders_55 (Nat.le_of_ble_eq_true rfl) ?_
          exact h
        · replace h := h.2 hc
          refine a_iconst (pc := 47) dX12_orders_47 (cnb rfl) ?_
          exact a_iretI (pc := 48) dX12_orders_48 rfl h
      · replace h := h.2 hc
        refine a_if_ne (pc := 28) 37 dX12_orders_28 rfl ⟨fun hc => absurd hc (by decide), fun _ => ?_⟩
        refine a_iload_n (pc := 31) dX12_orders_31 rfl ?_
        refine a_bipush (pc := 32) dX12_orders_32 (by decide) (cnb rfl) ?_
        refine a_icmp_ne (pc := 34) 47 dX12_orders_34 rfl ⟨fun hc => ?_, fun hc => ?_⟩
        · replace h := h.1 hc
          refine a_iconst (pc := 47) dX12_orders_47 (cnb rfl) ?_
          exact a_iretI (pc := 48) dX12_orders_48 rfl h
        · replace h := h.2 hc
          refine a_iconst (pc := 37) dX12_orders_37 (cnb rfl) ?_
          refine a_iload_n (pc := 38) dX12_orders_38 rfl ?_
          refine a_imul (pc := 39) dX12_orders_39 h.1 ?_
          replace h := h.2
          refine a_aload_n (pc := 40) dX12_orders_40 rfl ?_
          refine a_geti (pc := 41) 13 dX12_orders_41 f_X12_168 rfl rfl ?_
          refine a_icmp_le (pc := 44) 49 dX12_orders_44 rfl ⟨fun hc => ?_, fun hc => ?_⟩
          · replace h := h.1 hc
            refine a_aload_n (pc := 49) dX12_orders_49 rfl ?_
            refine a_iconst (pc := 50) dX12_orders_50 (cnb rfl) ?_
            refine a_puti (pc := 51) 13 dX12_orders_51 f_X12_168 rfl rfl (Or.inl rfl) ?_
            refine a_iconst (pc := 54) dX12_orders_54 (cnb rfl) ?_
            refine a_istore (pc := 55) dX12_orders_55 (Nat.le_of_ble_eq_true rfl) ?_
            exact h
          · replace h := h.2 hc
            refine a_iconst (pc := 47) dX12_orders_47 (cnb rfl) ?_
            exact a_iretI (pc := 48) dX12_orders_48 rfl h
    · replace h := h.2 hc
      refine a_if_eq (pc := 17) 47 dX12_orders_17 rfl ⟨fun _ => ?_, fun hc => absurd hc (by decide)⟩
      refine a_iconst (pc := 47) dX12_orders_47 (cnb rfl) ?_
      exact a_iretI (pc := 48) dX12_orders_48 rfl h
  · replace h := h.2 hc
    refine a_if_eq (pc := 7) 47 dX12_orders_7 rfl ⟨fun _ => ?_, fun hc => absurd hc (by decide)⟩
    refine a_iconst (pc := 47) dX12_orders_47 (cnb rfl) ?_
    exact a_iretI (pc := 48) dX12_orders_48 rfl h
set_option maxRecDepth 20000 in
theorem e_X12_orders {Q : Int → Me → Prop}  {a b c : Int} {M : Me} (h :
    ((2 ≤ a ∧ a ≤ 10 →
    ((1 ≤ b ∧ b ≤ 20 →
    cn (a - 1) ∧
    ((0 ≤ c ∧ c ≤ a - 1 →
    cn (2 * b) ∧
    ((2 * b ≤ M 76 13 →
    Go (km 2 mX12_orders Q) 57 [some (.inr 76), some (.inl a), some (.inl b), some (.inl c), some (.inl 0), none, none] [] (mput M 76 13 0)) ∧ (M 76 13 < 2 * b →
    Q (-1) M))) ∧ (¬ (0 ≤ c ∧ c ≤ a - 1) →
    ((c ≠ 100 →
    Q (-1) M) ∧ (c = 100 →
    cn (2 * b) ∧
    ((2 * b ≤ M 76 13 →
    Go (km 2 mX12_orders Q) 57 [some (.inr 76), some (.inl a), some (.inl b), some (.inl c), some (.inl 0), none, none] [] (mput M 76 13 0)) ∧ (M 76 13 < 2 * b →
    Q (-1) M))))))) ∧ (¬ (1 ≤ b ∧ b ≤ 20) →
    Q (-1) M))) ∧ (¬ (2 ≤ a ∧ a ≤ 10) →
    Q (-1) M))) : Calls 2 mX12_orders [.inr 76, .inl a, .inl b, .inl c] M Q := Calls.of (by decide) (Nat.le_of_ble_eq_true rfl) (s_X12_orders_0  a b c M h)
set_option maxRecDepth 20000 in
theorem s_X12_orders_57 {Q : Int → Me → Prop}  (x1 x2 x3 x4 : Int) (M : Me) (h :
    ((x1 ≤ x4 →
    Go (km 2 mX12_orders Q) 80 [some (.inr 76), some (.inl x1), some (.inl x2), some (.inl x3), some (.inl 0), none, none] [] M) ∧ (x4 < x1 →
    (0 ≤ x4 ∧ x4 < 10) ∧
    cn (x4 + 1) ∧
    Go (km 2 mX12_orders Q) 57 [some (.inr 76), some (.inl x1), some (.inl x2), some (.inl x3), some (.inl (x4 + 1)), none, none] [] (mput M 122 x4 0)))) :
    Go (km 2 mX12_orders Q) 57 [some (.inr 76), some (.inl x1), some (.inl x2), some (.inl x3), some (.inl x4), none, none] [] M := by
  refine a_iload (pc := 57) dX12_orders_57 rfl ?_
  refine a_iload_n (pc := 59) dX12_orders_59 rfl ?_
  refine a_icmp_ge (pc := 60) 77 dX12_orders_60 rfl ⟨fun hc => ?_, fun hc => ?_⟩
  · replace h := h.1 hc
    refine a_iconst (pc := 77) dX12_orders_77 (cnb rfl) ?_
    refine a_istore (pc := 78) dX12_orders_78 (Nat.le_of_ble_eq_true rfl) ?_
    exact h
  · replace h := h.2 hc
    refine a_aload_n (pc := 63) dX12_orders_63 rfl ?_
    refine a_getr (pc := 64) dX12_orders_64 f_X12_146 rfl ?_
    refine a_iload (pc := 67) dX12_orders_67 rfl ?_
    refine a_iconst (pc := 69) dX12_orders_69 (cnb rfl) ?_
    refine a_iast (pc := 70) dX12_orders_70 rfl h.1.1 h.1.2 ?_
    replace h := h.2
    refine a_iinc (pc := 71) dX12_orders_71 rfl h.1 (Nat.le_of_ble_eq_true rfl) ?_
    replace h := h.2
    refine a_goto (pc := 74) 57 dX12_orders_74 rfl ?_
    exact h
set_option maxRecDepth 20000 in
theorem s_X12_orders_80 {Q : Int → Me → Prop}  (x1 x2 x3 x4 : Int) (M : Me) (h :
    ((x2 ≤ x4 →
    Calls 1 mX12_closes [.inr 76, .inl x1] M (fun r157 M157 =>
    Calls 1 mX12_waysOf [.inr 76, .inl x1] M157 (fun r162 M162 =>
    ((x3 ≠ 100 →
    ((r162 ≠ 0 →
    (0 ≤ x3 ∧ x3 < 10) ∧
    Calls 0 mX12_bits [.inl (M162 122 x3)] M162 (fun r192 M192 =>
    Q r192 M192)) ∧ (r162 = 0 →
    Q (-2) M162))) ∧ (x3 = 100 →
    Q r162 M162))))) ∧ (x4 < x2 →
    cn (2 * x4) ∧
    (0 ≤ 2 * x4 ∧ 2 * x4 < 260) ∧
    cn (2 * x4) ∧
    cn ((2 * x4) + 1) ∧
    (0 ≤ (2 * x4) + 1 ∧ (2 * x4) + 1 < 260) ∧
    ((x1 ≤ band (M 88 (2 * x4)) 255 →
    Q (-3) M) ∧ (band (M 88 (2 * x4)) 255 < x1 →
    ((x1 ≤ band (M 88 ((2 * x4) + 1)) 255 →
    Q (-3) M) ∧ (band (M 88 ((2 * x4) + 1)) 255 < x1 →
    ((band (M 88 (2 * x4)) 255 ≠ band (M 88 ((2 * x4) + 1)) 255 →
    (0 ≤ band (M 88 ((2 * x4) + 1)) 255 ∧ band (M 88 ((2 * x4) + 1)) 255 < 10) ∧
    (0 ≤ band (M 88 ((2 * x4) + 1)) 255 ∧ band (M 88 ((2 * x4) + 1)) 255 < 10) ∧
    cn (x4 + 1) ∧
    Go (km 2 mX12_orders Q) 80 [some (.inr 76), some (.inl x1), some (.inl x2), some (.inl x3), some (.inl (x4 + 1)), none, none] [] (mput M 122 (band (M 88 ((2 * x4) + 1)) 255) (bor (M 122 (band (M 88 ((2 * x4) + 1)) 255)) (bshl 1 (band (M 88 (2 * x4)) 255))))) ∧ (band (M 88 (2 * x4)) 255 = band (M 88 ((2 * x4) + 1)) 255 →
    Q (-3) M))))))))) :
    Go (km 2 mX12_orders Q) 80 [some (.inr 76), some (.inl x1), some (.inl x2), some (.inl x3), some (.inl x4), none, none] [] M := by
  refine a_iload (pc := 80) dX12_orders_80 rfl ?_
  refine a_iload_n (pc := 82) dX12_orders_82 rfl ?_
  refine a_icmp_ge (pc := 83) 155 dX12_orders_83 rfl ⟨fun hc => ?_, fun hc => ?_⟩
  · replace h := h.1 hc
    refine a_aload_n (pc := 155) dX12_orders_155 rfl ?_
    refine a_iload_n (pc := 156) dX12_orders_156 rfl ?_
    refine a_callVv (pc := 157) (d := 1) (st := []) (o := 76) [.inl x1] dX12_orders_157 l_X12_434 in_X12_closes se_X12_closes rfl rfl rfl ⟨Nat.le_of_ble_eq_true rfl, Nat.le_of_ble_eq_true rfl⟩ ⟨Nat.le_of_ble_eq_true rfl, Nat.le_of_ble_eq_true rfl⟩ (Nat.le_of_ble_eq_true rfl) ?_
    refine Calls.mono (fun r157 M157 hr157 hM157 h => ?_) h
    refine a_aload_n (pc := 160) dX12_orders_160 rfl ?_
    refine a_iload_n (pc := 161) dX12_orders_161 rfl ?_
    refine a_callVi (pc := 162) (d := 1) (st := []) (o := 76) [.inl x1] dX12_orders_162 l_X12_437 in_X12_waysOf se_X12_waysOf rfl rfl rfl ⟨Nat.le_of_ble_eq_true rfl, Nat.le_of_ble_eq_true rfl⟩ ⟨Nat.le_of_ble_eq_true rfl, Nat.le_of_ble_eq_true rfl⟩ (Nat.le_of_ble_eq_true rfl) ?_
    refine Calls.mono (fun r162 M162 hr162 hM162 h => ?_) h
    refine a_istore (pc := 165) dX12_orders_165 (Nat.le_of_ble_eq_true rfl) ?_
    refine a_iload_n (pc := 167) dX12_orders_167 rfl ?_
    refine a_bipush (pc := 168) dX12_orders_168 (by decide) (cnb rfl) ?_
    refine a_icmp_ne (pc := 170) 176 dX12_orders_170 rfl ⟨fun hc => ?_, fun hc => ?_⟩
    · replace h := h.1 hc
      refine a_iload (pc := 176) dX12_orders_176 rfl ?_
      refine a_if_ne (pc := 178) 186 dX12_orders_178 rfl ⟨fun hc => ?_, fun hc => ?_⟩
      · replace h := h.1 hc
        refine a_aload_n (pc := 186) dX12_orders_186 rfl ?_
        refine a_getr (pc := 187) dX12_orders_187 f_X12_146 rfl ?_
        refine a_iload_n (pc := 190) dX12_orders_190 rfl ?_
        refine a_iald (pc := 191) dX12_orders_191 rfl h.1.1 h.1.2  ?_
        replace h := h.2
        refine a_callSi (pc := 192) (d := 0) (st := []) [.inl (M162 122 x3)] dX12_orders_192 l_X12_398 st_X12_bits rfl ⟨Nat.le_of_ble_eq_true rfl, Nat.le_of_ble_eq_true rfl⟩ ⟨Nat.le_of_ble_eq_true rfl, Nat.le_of_ble_eq_true rfl⟩ (Nat.le_of_ble_eq_true rfl) ?_
        refine Calls.mono (fun r192 M192 hr192 hM192 h => ?_) h
        exact a_iretI (pc := 195) dX12_orders_195 rfl h
      · replace h := h.2 hc
        refine a_bipush (pc := 181) dX12_orders_181 (by decide) (cnb rfl) ?_
        refine a_goto (pc := 183) 195 dX12_orders_183 rfl ?_
        exact a_iretI (pc := 195) dX12_orders_195 rfl h
    · replace h := h.2 hc
      refine a_iload (pc := 173) dX12_orders_173 rfl ?_
      exact a_iretI (pc := 175) dX12_orders_175 rfl h
  · replace h := h.2 hc
    refine a_aload_n (pc := 86) dX12_orders_86 rfl ?_
    refine a_iconst (pc := 87) dX12_orders_87 (cnb rfl) ?_
    refine a_iload (pc := 88) dX12_orders_88 rfl ?_
    refine a_imul (pc := 90) dX12_orders_90 h.1 ?_
    replace h := h.2
    refine a_callVi (pc := 91) (d := 0) (st := []) (o := 76) [.inl (2 * x4)] dX12_orders_91 l_X12_407 in_X12_octet se_X12_octet rfl rfl rfl ⟨Nat.le_of_ble_eq_true rfl, Nat.le_of_ble_eq_true rfl⟩ ⟨Nat.le_of_ble_eq_true rfl, Nat.le_of_ble_eq_true rfl⟩ (Nat.le_of_ble_eq_true rfl) ?_
    have hp91_2 := h.1
    replace h := h.2
    refine p_X12_octet hp91_2 ?_
    refine a_istore (pc := 94) dX12_orders_94 (Nat.le_of_ble_eq_true rfl) ?_
    refine a_aload_n (pc := 96) dX12_orders_96 rfl ?_
    refine a_iconst (pc := 97) dX12_orders_97 (cnb rfl) ?_
    refine a_iload (pc := 98) dX12_orders_98 rfl ?_
    refine a_imul (pc := 100) dX12_orders_100 h.1 ?_
    replace h := h.2
    refine a_iconst (pc := 101) dX12_orders_101 (cnb rfl) ?_
    refine a_iadd (pc := 102) dX12_orders_102 h.1 ?_
    replace h := h.2
    refine a_callVi (pc := 103) (d := 0) (st := []) (o := 76) [.inl ((2 * x4) + 1)] dX12_orders_103 l_X12_407 in_X12_octet se_X12_octet rfl rfl rfl ⟨Nat.le_of_ble_eq_true rfl, Nat.le_of_ble_eq_true rfl⟩ ⟨Nat.le_of_ble_eq_true rfl, Nat.le_of_ble_eq_true rfl⟩ (Nat.le_of_ble_eq_true rfl) ?_
    have hp103_5 := h.1
    replace h := h.2
    refine p_X12_octet hp103_5 ?_
    refine a_istore (pc := 106) dX12_orders_106 (Nat.le_of_ble_eq_true rfl) ?_
    refine a_iload (pc := 108) dX12_orders_108 rfl ?_
    refine a_iload_n (pc := 110) dX12_orders_110 rfl ?_
    refine a_icmp_ge (pc := 111) 127 dX12_orders_111 rfl ⟨fun hc => ?_, fun hc => ?_⟩
    · replace h := h.1 hc
      refine a_bipush (pc := 127) dX12_orders_127 (by decide) (cnb rfl) ?_
      exact a_iretI (pc := 129) dX12_orders_129 rfl h
    · replace h := h.2 hc
      refine a_iload (pc := 114) dX12_orders_114 rfl ?_
      refine a_iload_n (pc := 116) dX12_orders_116 rfl ?_
      refine a_icmp_ge (pc := 117) 127 dX12_orders_117 rfl ⟨fun hc => ?_, fun hc => ?_⟩
      · replace h := h.1 hc
        refine a_bipush (pc := 127) dX12_orders_127 (by decide) (cnb rfl) ?_
        exact a_iretI (pc := 129) dX12_orders_129 rfl h
      · replace h := h.2 hc
        refine a_iload (pc := 120) dX12_orders_120 rfl ?_
        refine a_iload (pc := 122) dX12_orders_122 rfl ?_
        refine a_icmp_ne (pc := 124) 130 dX12_orders_124 rfl ⟨fun hc => ?_, fun hc => ?_⟩
        · replace h := h.1 hc
          refine a_aload_n (pc := 130) dX12_orders_130 rfl ?_
          refine a_getr (pc := 131) dX12_orders_131 f_X12_146 rfl ?_
          refine a_iload (pc := 134) dX12_orders_134 rfl ?_
          refine a_aload_n (pc := 136) dX12_orders_136 rfl ?_
          refine a_getr (pc := 137) dX12_orders_137 f_X12_146 rfl ?_
          refine a_iload (pc := 140) dX12_orders_140 rfl ?_
          refine a_iald (pc := 142) dX12_orders_142 rfl h.1.1 h.1.2  ?_
          replace h := h.2
          refine a_iconst (pc := 143) dX12_orders_143 (cnb rfl) ?_
          refine a_iload (pc := 144) dX12_orders_144 rfl ?_
          refine a_ishl (pc := 146) dX12_orders_146 ?_
          refine a_ior (pc := 147) dX12_orders_147 ?_
          refine a_iast (pc := 148) dX12_orders_148 rfl h.1.1 h.1.2 ?_
          replace h := h.2
          refine a_iinc (pc := 149) dX12_orders_149 rfl h.1 (Nat.le_of_ble_eq_true rfl) ?_
          replace h := h.2
          refine a_goto (pc := 152) 80 dX12_orders_152 rfl ?_
          exact Go.weak h (And.intro rfl (And.intro rfl (And.intro rfl (And.intro rfl (And.intro rfl True.intro)))))
        · replace h := h.2 hc
          refine a_bipush (pc := 127) dX12_orders_127 (by decide) (cnb rfl) ?_
          exact a_iretI (pc := 129) dX12_orders_129 rfl h
