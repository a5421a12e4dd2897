set_option maxRecDepth 20000 in
theorem s_X2_addCorner_0 {Q : Int → Me → Prop}  (a b : Int) (M : Me) (h :
    Go (km 1 mX2_addCorner Q) 2 [some (.inr 57), some (.inl a), some (.inl b), some (.inl 0)] [] M) :
    Go (km 1 mX2_addCorner Q) 0 [some (.inr 57), some (.inl a), some (.inl b), none] [] M := by
  refine a_iconst (pc := 0) dX2_addCorner_0 (cnb rfl) ?_
  refine a_istore_n (pc := 1) dX2_addCorner_1 (Nat.le_of_ble_eq_true rfl) ?_
  exact h
set_option maxRecDepth 20000 in
theorem e_X2_addCorner {Q : Int → Me → Prop}  {a b : Int} {M : Me} (h :
    Go (km 1 mX2_addCorner Q) 2 [some (.inr 57), some (.inl a), some (.inl b), some (.inl 0)] [] M) : Calls 1 mX2_addCorner [.inr 57, .inl a, .inl b] M Q := Calls.of (by decide) (Nat.le_of_ble_eq_true rfl) (s_X2_addCorner_0  a b M h)
set_option maxRecDepth 20000 in
theorem s_X2_addCorner_2 {Q : Int → Me → Prop}  (x1 x2 x3 : Int) (M : Me) (h :
    ((32 ≤ x3 →
    ((64 ≤ M 57 4 →
    Q 0 M) ∧ (M 57 4 < 64 →
    (0 ≤ M 57 4 ∧ M 57 4 < 64) ∧
    cn ((M 57 4) + 1) ∧
    Q 0 (mput (mput M 59 (M 57 4) x1) 57 4 ((M 57 4) + 1))))) ∧ (x3 < 32 →
    cn ((M 57 4) - x2) ∧
    (((M 57 4) - x2 < 2 →
    ((64 ≤ M 57 4 →
    Q 0 M) ∧ (M 57 4 < 64 →
    (0 ≤ M 57 4 ∧ M 57 4 < 64) ∧
    cn ((M 57 4) + 1) ∧
    Q 0 (mput (mput M 59 (M 57 4) x1) 57 4 ((M 57 4) + 1))))) ∧ (2 ≤ (M 57 4) - x2 →
    cn ((M 57 4) - 2) ∧
    (0 ≤ (M 57 4) - 2 ∧ (M 57 4) - 2 < 64) ∧
    cn ((M 57 4) - 1) ∧
    (0 ≤ (M 57 4) - 1 ∧ (M 57 4) - 1 < 64) ∧
    pl (M 59 ((M 57 4) - 2)) ∧
    pl (M 59 ((M 57 4) - 1)) ∧
    pl x1 ∧
    ((sd (M 59 ((M 57 4) - 2)) (M 59 ((M 57 4) - 1)) x1 ≤ 0 →
    cn ((M 57 4) - 1) ∧
    cn (x3 + 1) ∧
    Go (km 1 mX2_addCorner Q) 2 [some (.inr 57), some (.inl x1), some (.inl x2), some (.inl (x3 + 1))] [] (mput M 57 4 ((M 57 4) - 1))) ∧ (0 < sd (M 59 ((M 57 4) - 2)) (M 59 ((M 57 4) - 1)) x1 →
    ((64 ≤ M 57 4 →
    Q 0 M) ∧ (M 57 4 < 64 →
    (0 ≤ M 57 4 ∧ M 57 4 < 64) ∧
    cn ((M 57 4) + 1) ∧
    Q 0 (mput (mput M 59 (M 57 4) x1) 57 4 ((M 57 4) + 1))))))))))) :
    Go (km 1 mX2_addCorner Q) 2 [some (.inr 57), some (.inl x1), some (.inl x2), some (.inl x3)] [] M := by
  refine a_iload_n (pc := 2) dX2_addCorner_2 rfl ?_
  refine a_bipush (pc := 3) dX2_addCorner_3 (by decide) (cnb rfl) ?_
  refine a_icmp_ge (pc := 5) 66 dX2_addCorner_5 rfl ⟨fun hc => ?_, fun hc => ?_⟩
  · replace h := h.1 hc
    refine a_aload_n (pc := 66) dX2_addCorner_66 rfl ?_
    refine a_geti (pc := 67) 4 dX2_addCorner_67 f_X2_25 rfl rfl ?_
    refine a_aload_n (pc := 70) dX2_addCorner_70 rfl ?_
    refine a_getr (pc := 71) dX2_addCorner_71 f_X2_15 rfl ?_
    refine a_alen (pc := 74) 64 dX2_addCorner_74 rfl rfl (cnb rfl) ?_
    refine a_icmp_ge (pc := 75) 98 dX2_addCorner_75 rfl ⟨fun hc => ?_, fun hc => ?_⟩
    · replace h := h.1 hc
      exact a_ret (pc := 98) dX2_addCorner_98 rfl h
    · replace h := h.2 hc
      refine a_aload_n (pc := 78) dX2_addCorner_78 rfl ?_
      refine a_getr (pc := 79) dX2_addCorner_79 f_X2_15 rfl ?_
      refine a_aload_n (pc := 82) dX2_addCorner_82 rfl ?_
      refine a_geti (pc := 83) 4 dX2_addCorner_83 f_X2_25 rfl rfl ?_
      refine a_iload_n (pc := 86) dX2_addCorner_86 rfl ?_
      refine a_iast (pc := 87) dX2_addCorner_87 rfl h.1.1 h.1.2 ?_
      replace h := h.2
      refine a_aload_n (pc := 88) dX2_addCorner_88 rfl ?_
      refine a_dup (pc := 89) dX2_addCorner_89 ?_
      refine a_getiE (pc := 90) (M 57 4) 4 dX2_addCorner_90 f_X2_25 rfl rfl (mput_ne _ _ _ _ (by decide)) ?_
      refine a_iconst (pc := 93) dX2_addCorner_93 (cnb rfl) ?_
      refine a_iadd (pc := 94) dX2_addCorner_94 h.1 ?_
      replace h := h.2
      refine a_puti (pc := 95) 4 dX2_addCorner_95 f_X2_25 rfl rfl (Or.inl rfl) ?_
      exact a_ret (pc := 98) dX2_addCorner_98 rfl h
  · replace h := h.2 hc
    refine a_aload_n (pc := 8) dX2_addCorner_8 rfl ?_
    refine a_geti (pc := 9) 4 dX2_addCorner_9 f_X2_25 rfl rfl ?_
    refine a_iload_n (pc := 12) dX2_addCorner_12 rfl ?_
    refine a_isub (pc := 13) dX2_addCorner_13 h.1 ?_
    replace h := h.2
    refine a_iconst (pc := 14) dX2_addCorner_14 (cnb rfl) ?_
    refine a_icmp_lt (pc := 15) 66 dX2_addCorner_15 rfl ⟨fun hc => ?_, fun hc => ?_⟩
    · replace h := h.1 hc
      refine a_aload_n (pc := 66) dX2_addCorner_66 rfl ?_
      refine a_geti (pc := 67) 4 dX2_addCorner_67 f_X2_25 rfl rfl ?_
      refine a_aload_n (pc := 70) dX2_addCorner_70 rfl ?_
      refine a_getr (pc := 71) dX2_addCorner_71 f_X2_15 rfl ?_
      refine a_alen (pc := 74) 64 dX2_addCorner_74 rfl rfl (cnb rfl) ?_
      refine a_icmp_ge (pc := 75) 98 dX2_addCorner_75 rfl ⟨fun hc => ?_, fun hc => ?_⟩
      · replace h := h.1 hc
        exact a_ret (pc := 98) dX2_addCorner_98 rfl h
      · replace h := h.2 hc
        refine a_aload_n (pc := 78) dX2_addCorner_78 rfl ?_
        refine a_getr (pc := 79) dX2_addCorner_79 f_X2_15 rfl ?_
        refine a_aload_n (pc := 82) dX2_addCorner_82 rfl ?_
        refine a_geti (pc := 83) 4 dX2_addCorner_83 f_X2_25 rfl rfl ?_
        refine a_iload_n (pc := 86) dX2_addCorner_86 rfl ?_
        refine a_iast (pc := 87) dX2_addCorner_87 rfl h.1.1 h.1.2 ?_
        replace h := h.2
        refine a_aload_n (pc := 88) dX2_addCorner_88 rfl ?_
        refine a_dup (pc := 89) dX2_addCorner_89 ?_
        refine a_getiE (pc := 90) (M 57 4) 4 dX2_addCorner_90 f_X2_25 rfl rfl (mput_ne _ _ _ _ (by decide)) ?_
        refine a_iconst (pc := 93) dX2_addCorner_93 (cnb rfl) ?_
        refine a_iadd (pc := 94) dX2_addCorner_94 h.1 ?_
        replace h := h.2
        refine a_puti (pc := 95) 4 dX2_addCorner_95 f_X2_25 rfl rfl (Or.inl rfl) ?_
        exact a_ret (pc := 98) dX2_addCorner_98 rfl h
    · replace h := h.2 hc
      refine a_aload_n (pc := 18) dX2_addCorner_18 rfl ?_
      refine a_getr (pc := 19) dX2_addCorner_19 f_X2_15 rfl ?_
      refine a_aload_n (pc := 22) dX2_addCorner_22 rfl ?_
      refine a_geti (pc := 23) 4 dX2_addCorner_23 f_X2_25 rfl rfl ?_
      refine a_iconst (pc := 26) dX2_addCorner_26 (cnb rfl) ?_
      refine a_isub (pc := 27) dX2_addCorner_27 h.1 ?_
      replace h := h.2
      refine a_iald (pc := 28) dX2_addCorner_28 rfl h.1.1 h.1.2  ?_
      replace h := h.2
      refine a_aload_n (pc := 29) dX2_addCorner_29 rfl ?_
      refine a_getr (pc := 30) dX2_addCorner_30 f_X2_15 rfl ?_
      refine a_aload_n (pc := 33) dX2_addCorner_33 rfl ?_
      refine a_geti (pc := 34) 4 dX2_addCorner_34 f_X2_25 rfl rfl ?_
      refine a_iconst (pc := 37) dX2_addCorner_37 (cnb rfl) ?_
      refine a_isub (pc := 38) dX2_addCorner_38 h.1 ?_
      replace h := h.2
      refine a_iald (pc := 39) dX2_addCorner_39 rfl h.1.1 h.1.2  ?_
      replace h := h.2
      refine a_iload_n (pc := 40) dX2_addCorner_40 rfl ?_
      refine a_callNi (pc := 41) (d := 0) (st := []) [.inl (M 59 ((M 57 4) - 2)), .inl (M 59 ((M 57 4) - 1)), .inl x1] dX2_addCorner_41 l_X2_56 st_X11_side rfl ⟨Nat.le_of_ble_eq_true rfl, Nat.le_of_ble_eq_true rfl⟩ ⟨Nat.le_of_ble_eq_true rfl, Nat.le_of_ble_eq_true rfl⟩ (Nat.le_of_ble_eq_true rfl) ?_
      have hp41_5 := h.1
      replace h := h.2
      have hp41_6 := h.1
      replace h := h.2
      have hp41_7 := h.1
      replace h := h.2
      refine p_X11_side hp41_5 hp41_6 hp41_7 ?_
      refine a_if_le (pc := 44) 50 dX2_addCorner_44 rfl ⟨fun hc => ?_, fun hc => ?_⟩
      · replace h := h.1 hc
        refine a_aload_n (pc := 50) dX2_addCorner_50 rfl ?_
        refine a_dup (pc := 51) dX2_addCorner_51 ?_
        refine a_geti (pc := 52) 4 dX2_addCorner_52 f_X2_25 rfl rfl ?_
        refine a_iconst (pc := 55) dX2_addCorner_55 (cnb rfl) ?_
        refine a_isub (pc := 56) dX2_addCorner_56 h.1 ?_
        replace h := h.2
        refine a_puti (pc := 57) 4 dX2_addCorner_57 f_X2_25 rfl rfl (Or.inl rfl) ?_
        refine a_iinc (pc := 60) dX2_addCorner_60 rfl h.1 (Nat.le_of_ble_eq_true rfl) ?_
        replace h := h.2
        refine a_goto (pc := 63) 2 dX2_addCorner_63 rfl ?_
        exact h
      · replace h := h.2 hc
        refine a_goto (pc := 47) 66 dX2_addCorner_47 rfl ?_
        refine a_aload_n (pc := 66) dX2_addCorner_66 rfl ?_
        refine a_geti (pc := 67) 4 dX2_addCorner_67 f_X2_25 rfl rfl ?_
        refine a_aload_n (pc := 70) dX2_addCorner_70 rfl ?_
        refine a_getr (pc := 71) dX2_addCorner_71 f_X2_15 rfl ?_
        refine a_alen (pc := 74) 64 dX2_addCorner_74 rfl rfl (cnb rfl) ?_
        refine a_icmp_ge (pc := 75) 98 dX2_addCorner_75 rfl ⟨fun hc => ?_, fun hc => ?_⟩
        · replace h := h.1 hc
          exact a_ret (pc := 98) dX2_addCorner_98 rfl h
        · replace h := h.2 hc
          refine a_aload_n (pc := 78) dX2_addCorner_78 rfl ?_
          refine a_getr (pc := 79) dX2_addCorner_79 f_X2_15 rfl ?_
          refine a_aload_n (pc := 82) dX2_addCorner_82 rfl ?_
          refine a_geti (pc := 83) 4 dX2_addCorner_83 f_X2_25 rfl rfl ?_
          refine a_iload_n (pc := 86) dX2_addCorner_86 rfl ?_
          refine a_iast (pc := 87) dX2_addCorner_87 rfl h.1.1 h.1.2 ?_
          replace h := h.2
          refine a_aload_n (pc := 88) dX2_addCorner_88 rfl ?_
          refine a_dup (pc := 89) dX2_addCorner_89 ?_
          refine a_getiE (pc := 90) (M 57 4) 4 dX2_addCorner_90 f_X2_25 rfl rfl (mput_ne _ _ _ _ (by decide)) ?_
          refine a_iconst (pc := 93) dX2_addCorner_93 (cnb rfl) ?_
          refine a_iadd (pc := 94) dX2_addCorner_94 h.1 ?_
          replace h := h.2
          refine a_puti (pc := 95) 4 dX2_addCorner_95 f_X2_25 rfl rfl (Or.inl rfl) ?_
          exact a_ret (pc := 98) dX2_addCorner_98 rfl h
set_option maxRecDepth 20000 in
theorem s_X2_putFence_0 {Q : Int → Me → Prop}  (M : Me) (h :
    Go (km 2 mX2_putFence Q) 7 [some (.inr 57), some (.inl 0), none] [] (mput M 57 4 0)) :
    Go (km 2 mX2_putFence Q) 0 [some (.inr 57), none, none] [] M := by
  refine a_aload_n (pc := 0) dX2_putFence_0 rfl ?_
  refine a_iconst (pc := 1) dX2_putFence_1 (cnb rfl) ?_
  refine a_puti (pc := 2) 4 dX2_putFence_2 f_X2_25 rfl rfl (Or.inl rfl) ?_
  refine a_iconst (pc := 5) dX2_putFence_5 (cnb rfl) ?_
  refine a_istore_n (pc := 6) dX2_putFence_6 (Nat.le_of_ble_eq_true rfl) ?_
  exact h
set_option maxRecDepth 20000 in
theorem e_X2_putFence {Q : Int → Me → Prop}  {M : Me} (h :
    Go (km 2 mX2_putFence Q) 7 [some (.inr 57), some (.inl 0), none] [] (mput M 57 4 0)) : Calls 2 mX2_putFence [.inr 57] M Q := Calls.of (by decide) (Nat.le_of_ble_eq_true rfl) (s_X2_putFence_0   M h)
set_option maxRecDepth 20000 in
theorem s_X2_putFence_7 {Q : Int → Me → Prop}  (x1 : Int) (M : Me) (h :
    ((M 57 3 ≤ x1 →
    cn ((M 57 4) - 1) ∧
    cn ((M 57 3) - 1) ∧
    Go (km 2 mX2_putFence Q) 58 [some (.inr 57), some (.inl (max 0 ((M 57 4) - 1))), some (.inl ((M 57 3) - 1))] [] (mput M 57 4 (max 0 ((M 57 4) - 1)))) ∧ (x1 < M 57 3 →
    (0 ≤ x1 ∧ x1 < 32) ∧
    Calls 1 mX2_addCorner [.inr 57, .inl (M 58 x1), .inl 0] M (fun r23 M23 =>
    cn (x1 + 1) ∧
    Go (km 2 mX2_putFence Q) 7 [some (.inr 57), some (.inl (x1 + 1)), none] [] M23)))) :
    Go (km 2 mX2_putFence Q) 7 [some (.inr 57), some (.inl x1), none] [] M := by
  refine a_iload_n (pc := 7) dX2_putFence_7 rfl ?_
  refine a_aload_n (pc := 8) dX2_putFence_8 rfl ?_
  refine a_geti (pc := 9) 3 dX2_putFence_9 f_X2_21 rfl rfl ?_
  refine a_icmp_ge (pc := 12) 32 dX2_putFence_12 rfl ⟨fun hc => ?_, fun hc => ?_⟩
  · replace h := h.1 hc
    refine a_aload_n (pc := 32) dX2_putFence_32 rfl ?_
    refine a_iconst (pc := 33) dX2_putFence_33 (cnb rfl) ?_
    refine a_aload_n (pc := 34) dX2_putFence_34 rfl ?_
    refine a_geti (pc := 35) 4 dX2_putFence_35 f_X2_25 rfl rfl ?_
    refine a_iconst (pc := 38) dX2_putFence_38 (cnb rfl) ?_
    refine a_isub (pc := 39) dX2_putFence_39 h.1 ?_
    replace h := h.2
    refine a_mmax (pc := 40) dX2_putFence_40 ml_X2_50 mt_st_max mt_ini mt_cd_max ⟨Nat.le_of_ble_eq_true rfl, Nat.le_of_ble_eq_true rfl⟩ ⟨Nat.le_of_ble_eq_true rfl, Nat.le_of_ble_eq_true rfl⟩ (Nat.le_of_ble_eq_true rfl) ?_
    refine a_puti (pc := 43) 4 dX2_putFence_43 f_X2_25 rfl rfl (Or.inl rfl) ?_
    refine a_aload_n (pc := 46) dX2_putFence_46 rfl ?_
    refine a_getiE (pc := 47) (max 0 ((M 57 4) - 1)) 4 dX2_putFence_47 f_X2_25 rfl rfl (mput_same _ _ _ _) ?_
    refine a_istore_n (pc := 50) dX2_putFence_50 (Nat.le_of_ble_eq_true rfl) ?_
    refine a_aload_n (pc := 51) dX2_putFence_51 rfl ?_
    refine a_getiE (pc := 52) (M 57 3) 3 dX2_putFence_52 f_X2_21 rfl rfl (mput_ni _ _ _ _ (by decide)) ?_
    refine a_iconst (pc := 55) dX2_putFence_55 (cnb rfl) ?_
    refine a_isub (pc := 56) dX2_putFence_56 h.1 ?_
    replace h := h.2
    refine a_istore_n (pc := 57) dX2_putFence_57 (Nat.le_of_ble_eq_true rfl) ?_
    exact h
  · replace h := h.2 hc
    refine a_aload_n (pc := 15) dX2_putFence_15 rfl ?_
    refine a_aload_n (pc := 16) dX2_putFence_16 rfl ?_
    refine a_getr (pc := 17) dX2_putFence_17 f_X2_11 rfl ?_
    refine a_iload_n (pc := 20) dX2_putFence_20 rfl ?_
    refine a_iald (pc := 21) dX2_putFence_21 rfl h.1.1 h.1.2  ?_
    replace h := h.2
    refine a_iconst (pc := 22) dX2_putFence_22 (cnb rfl) ?_
    refine a_callVv (pc := 23) (d := 1) (st := []) (o := 57) [.inl (M 58 x1), .inl 0] dX2_putFence_23 l_X2_46 in_X2_addCorner se_X2_addCorner rfl rfl rfl ⟨Nat.le_of_ble_eq_true rfl, Nat.le_of_ble_eq_true rfl⟩ ⟨Nat.le_of_ble_eq_true rfl, Nat.le_of_ble_eq_true rfl⟩ (Nat.le_of_ble_eq_true rfl) ?_
    refine Calls.mono (fun r23 M23 hr23 hM23 h => ?_) h
    refine a_iinc (pc := 26) dX2_putFence_26 rfl h.1 (Nat.le_of_ble_eq_true rfl) ?_
    replace h := h.2
    refine a_goto (pc := 29) 7 dX2_putFence_29 rfl ?_
    exact h
set_option maxRecDepth 20000 in
theorem s_X2_putFence_58 {Q : Int → Me → Prop}  (x1 x2 : Int) (M : Me) (h :
    ((x2 < 0 →
    ((M 57 3 ≤ 1 →
    Q 0 M) ∧ (1 < M 57 3 →
    cn ((M 57 4) - 1) ∧
    Q 0 (mput M 57 4 ((M 57 4) - 1))))) ∧ (0 ≤ x2 →
    (0 ≤ x2 ∧ x2 < 32) ∧
    Calls 1 mX2_addCorner [.inr 57, .inl (M 58 x2), .inl x1] M (fun r70 M70 =>
    cn (x2 + (-1)) ∧
    Go (km 2 mX2_putFence Q) 58 [some (.inr 57), some (.inl x1), some (.inl (x2 + (-1)))] [] M70)))) :
    Go (km 2 mX2_putFence Q) 58 [some (.inr 57), some (.inl x1), some (.inl x2)] [] M := by
  refine a_iload_n (pc := 58) dX2_putFence_58 rfl ?_
  refine a_if_lt (pc := 59) 79 dX2_putFence_59 rfl ⟨fun hc => ?_, fun hc => ?_⟩
  · replace h := h.1 hc
    refine a_aload_n (pc := 79) dX2_putFence_79 rfl ?_
    refine a_geti (pc := 80) 3 dX2_putFence_80 f_X2_21 rfl rfl ?_
    refine a_iconst (pc := 83) dX2_putFence_83 (cnb rfl) ?_
    refine a_icmp_le (pc := 84) 97 dX2_putFence_84 rfl ⟨fun hc => ?_, fun hc => ?_⟩
    · replace h := h.1 hc
      exact a_ret (pc := 97) dX2_putFence_97 rfl h
    · replace h := h.2 hc
      refine a_aload_n (pc := 87) dX2_putFence_87 rfl ?_
      refine a_dup (pc := 88) dX2_putFence_88 ?_
      refine a_geti (pc := 89) 4 dX2_putFence_89 f_X2_25 rfl rfl ?_
      refine a_iconst (pc := 92) dX2_putFence_92 (cnb rfl) ?_
      refine a_isub (pc := 93) dX2_putFence_93 h.1 ?_
      replace h := h.2
      refine a_puti (pc := 94) 4 dX2_putFence_94 f_X2_25 rfl rfl (Or.inl rfl) ?_
      exact a_ret (pc := 97) dX2_putFence_97 rfl h
  · replace h := h.2 hc
    refine a_aload_n (pc := 62) dX2_putFence_62 rfl ?_
    refine a_aload_n (pc := 63) dX2_putFence_63 rfl ?_
    refine a_getr (pc := 64) dX2_putFence_64 f_X2_11 rfl ?_
    refine a_iload_n (pc := 67) dX2_putFence_67 rfl ?_
    refine a_iald (pc := 68) dX2_putFence_68 rfl h.1.1 h.1.2  ?_
    replace h := h.2
    refine a_iload_n (pc := 69) dX2_putFence_69 rfl ?_
    refine a_callVv (pc := 70) (d := 1) (st := []) (o := 57) [.inl (M 58 x2), .inl x1] dX2_putFence_70 l_X2_46 in_X2_addCorner se_X2_addCorner rfl rfl rfl ⟨Nat.le_of_ble_eq_true rfl, Nat.le_of_ble_eq_true rfl⟩ ⟨Nat.le_of_ble_eq_true rfl, Nat.le_of_ble_eq_true rfl⟩ (Nat.le_of_ble_eq_true rfl) ?_
    refine Calls.mono (fun r70 M70 hr70 hM70 h => ?_) h
    refine a_iinc (pc := 73) dX2_putFence_73 rfl h.1 (Nat.le_of_ble_eq_true rfl) ?_
    replace h := h.2
    refine a_goto (pc := 76) 58 dX2_putFence_76 rfl ?_
    exact h
set_option maxRecDepth 20000 in
theorem s_X2_twiceGround_0 {Q : Int → Me → Prop}  (M : Me) (h :
    Go (km 1 mX2_twiceGround Q) 4 [some (.inr 57), some (.inl 0), some (.inl 0)] [] M) :
    Go (km 1 mX2_twiceGround Q) 0 [some (.inr 57), none, none] [] M := by
  refine a_iconst (pc := 0) dX2_twiceGround_0 (cnb rfl) ?_
  refine a_istore_n (pc := 1) dX2_twiceGround_1 (Nat.le_of_ble_eq_true rfl) ?_
  refine a_iconst (pc := 2) dX2_twiceGround_2 (cnb rfl) ?_
  refine a_istore_n (pc := 3) dX2_twiceGround_3 (Nat.le_of_ble_eq_true rfl) ?_
  exact h
set_option maxRecDepth 20000 in
theorem e_X2_twiceGround {Q : Int → Me → Prop}  {M : Me} (h :
    Go (km 1 mX2_twiceGround Q) 4 [some (.inr 57), some (.inl 0), some (.inl 0)] [] M) : Calls 1 mX2_twiceGround [.inr 57] M Q := Calls.of (by decide) (Nat.le_of_ble_eq_true rfl) (s_X2_twiceGround_0   M h)
set_option maxRecDepth 20000 in
theorem s_X2_twiceGround_4 {Q : Int → Me → Prop}  (x1 x2 : Int) (M : Me) (h :
    cn (x2 + 2) ∧
    ((M 57 4 ≤ x2 + 2 →
    cn (-x1) ∧
    Q (max x1 (-x1)) M) ∧ (x2 + 2 < M 57 4 →
    cn (x2 + 1) ∧
    (0 ≤ x2 + 1 ∧ x2 + 1 < 64) ∧
    cn (x2 + 2) ∧
    (0 ≤ x2 + 2 ∧ x2 + 2 < 64) ∧
    pl (M 59 0) ∧
    pl (M 59 (x2 + 1)) ∧
    pl (M 59 (x2 + 2)) ∧
    cn (x1 + (sd (M 59 0) (M 59 (x2 + 1)) (M 59 (x2 + 2)))) ∧
    cn (x2 + 1) ∧
    Go (km 1 mX2_twiceGround Q) 4 [some (.inr 57), some (.inl (x1 + (sd (M 59 0) (M 59 (x2 + 1)) (M 59 (x2 + 2))))), some (.inl (x2 + 1))] [] M))) :
    Go (km 1 mX2_twiceGround Q) 4 [some (.inr 57), some (.inl x1), some (.inl x2)] [] M := by
  refine a_iload_n (pc := 4) dX2_twiceGround_4 rfl ?_
  refine a_iconst (pc := 5) dX2_twiceGround_5 (cnb rfl) ?_
  refine a_iadd (pc := 6) dX2_twiceGround_6 h.1 ?_
  replace h := h.2
  refine a_aload_n (pc := 7) dX2_twiceGround_7 rfl ?_
  refine a_geti (pc := 8) 4 dX2_twiceGround_8 f_X2_25 rfl rfl ?_
  refine a_icmp_ge (pc := 11) 48 dX2_twiceGround_11 rfl ⟨fun hc => ?_, fun hc => ?_⟩
  · replace h := h.1 hc
    refine a_iload_n (pc := 48) dX2_twiceGround_48 rfl ?_
    refine a_mabs (pc := 49) dX2_twiceGround_49 ml_X2_60 mt_st_abs mt_ini mt_cd_abs ⟨Nat.le_of_ble_eq_true rfl, Nat.le_of_ble_eq_true rfl⟩ ⟨Nat.le_of_ble_eq_true rfl, Nat.le_of_ble_eq_true rfl⟩ (Nat.le_of_ble_eq_true rfl) h.1 ?_
    replace h := h.2
    exact a_iretI (pc := 52) dX2_twiceGround_52 rfl h
  · replace h := h.2 hc
    refine a_iload_n (pc := 14) dX2_twiceGround_14 rfl ?_
    refine a_aload_n (pc := 15) dX2_twiceGround_15 rfl ?_
    refine a_getr (pc := 16) dX2_twiceGround_16 f_X2_15 rfl ?_
    refine a_iconst (pc := 19) dX2_twiceGround_19 (cnb rfl) ?_
    refine a_iald (pc := 20) dX2_twiceGround_20 rfl (by decide) (by decide)  ?_
    refine a_aload_n (pc := 21) dX2_twiceGround_21 rfl ?_
    refine a_getr (pc := 22) dX2_twiceGround_22 f_X2_15 rfl ?_
    refine a_iload_n (pc := 25) dX2_twiceGround_25 rfl ?_
    refine a_iconst (pc := 26) dX2_twiceGround_26 (cnb rfl) ?_
    refine a_iadd (pc := 27) dX2_twiceGround_27 h.1 ?_
    replace h := h.2
    refine a_iald (pc := 28) dX2_twiceGround_28 rfl h.1.1 h.1.2  ?_
    replace h := h.2
    refine a_aload_n (pc := 29) dX2_twiceGround_29 rfl ?_
    refine a_getr (pc := 30) dX2_twiceGround_30 f_X2_15 rfl ?_
    refine a_iload_n (pc := 33) dX2_twiceGround_33 rfl ?_
    refine a_iconst (pc := 34) dX2_twiceGround_34 (cnb rfl) ?_
    refine a_iadd (pc := 35) dX2_twiceGround_35 h.1 ?_
    replace h := h.2
    refine a_iald (pc := 36) dX2_twiceGround_36 rfl h.1.1 h.1.2  ?_
    replace h := h.2
    refine a_callNi (pc := 37) (d := 0) (st := [.inl x1]) [.inl (M 59 0), .inl (M 59 (x2 + 1)), .inl (M 59 (x2 + 2))] dX2_twiceGround_37 l_X2_56 st_X11_side rfl ⟨Nat.le_of_ble_eq_true rfl, Nat.le_of_ble_eq_true rfl⟩ ⟨Nat.le_of_ble_eq_true rfl, Nat.le_of_ble_eq_true rfl⟩ (Nat.le_of_ble_eq_true rfl) ?_
    have hp37_5 := h.1
    replace h := h.2
    have hp37_6 := h.1
    replace h := h.2
    have hp37_7 := h.1
    replace h := h.2
    refine p_X11_side hp37_5 hp37_6 hp37_7 ?_
    refine a_iadd (pc := 40) dX2_twiceGround_40 h.1 ?_
    replace h := h.2
    refine a_istore_n (pc := 41) dX2_twiceGround_41 (Nat.le_of_ble_eq_true rfl) ?_
    refine a_iinc (pc := 42) dX2_twiceGround_42 rfl h.1 (Nat.le_of_ble_eq_true rfl) ?_
    replace h := h.2
    refine a_goto (pc := 45) 4 dX2_twiceGround_45 rfl ?_
    exact h
set_option maxRecDepth 20000 in
theorem s_X11_fence_0 {Q : Int → Me → Prop}  (a : Int) (M : Me) (h :
    ((a = 0 →
    Calls 1 mX2_gather [.inr 57, .inr 3, .inr 37] M (fun r23 M23 =>
    Calls 2 mX2_putFence [.inr 57] M23 (fun r30 M30 =>
    ((a ≠ 0 →
    Calls 1 mX2_twiceGround [.inr 57] M30 (fun r51 M51 =>
    Q r51 M51)) ∧ (a = 0 →
    Q (M30 57 4) M30))))) ∧ (a ≠ 0 →
    ((a = 1 →
    Calls 1 mX2_gather [.inr 57, .inr 3, .inr 37] M (fun r23 M23 =>
    Calls 2 mX2_putFence [.inr 57] M23 (fun r30 M30 =>
    ((a ≠ 0 →
    Calls 1 mX2_twiceGround [.inr 57] M30 (fun r51 M51 =>
    Q r51 M51)) ∧ (a = 0 →
    Q (M30 57 4) M30))))) ∧ (a ≠ 1 →
    Q (-1) M))))) :
    Go (km 3 mX11_fence Q) 0 [some (.inr 0), some (.inl a)] [] M := by
  refine a_iload_n (pc := 0) dX11_fence_0 rfl ?_
  refine a_if_eq (pc := 1) 11 dX11_fence_1 rfl ⟨fun hc => ?_, fun hc => ?_⟩
  · replace h := h.1 hc
    refine a_aload_n (pc := 11) dX11_fence_11 rfl ?_
    refine a_getr (pc := 12) dX11_fence_12 f_X11_71 rfl ?_
    refine a_aload_n (pc := 15) dX11_fence_15 rfl ?_
    refine a_getr (pc := 16) dX11_fence_16 f_X11_19 rfl ?_
    refine a_aload_n (pc := 19) dX11_fence_19 rfl ?_
    refine a_getr (pc := 20) dX11_fence_20 f_X11_49 rfl ?_
    refine a_callVv (pc := 23) (d := 1) (st := []) (o := 57) [.inr 3, .inr 37] dX11_fence_23 l_X11_226 in_X2_gather se_X2_gather rfl rfl rfl ⟨Nat.le_of_ble_eq_true rfl, Nat.le_of_ble_eq_true rfl⟩ ⟨Nat.le_of_ble_eq_true rfl, Nat.le_of_ble_eq_true rfl⟩ (Nat.le_of_ble_eq_true rfl) ?_
    refine Calls.mono (fun r23 M23 hr23 hM23 h => ?_) h
    refine a_aload_n (pc := 26) dX11_fence_26 rfl ?_
    refine a_getr (pc := 27) dX11_fence_27 f_X11_71 rfl ?_
    refine a_callVv (pc := 30) (d := 2) (st := []) (o := 57) [] dX11_fence_30 l_X11_237 in_X2_putFence se_X2_putFence rfl rfl rfl ⟨Nat.le_of_ble_eq_true rfl, Nat.le_of_ble_eq_true rfl⟩ ⟨Nat.le_of_ble_eq_true rfl, Nat.le_of_ble_eq_true rfl⟩ (Nat.le_of_ble_eq_true rfl) ?_
    refine Calls.mono (fun r30 M30 hr30 hM30 h => ?_) h
    refine a_iload_n (pc := 33) dX11_fence_33 rfl ?_
    refine a_if_ne (pc := 34) 47 dX11_fence_34 rfl ⟨fun hc => ?_, fun hc => ?_⟩
    · replace h := h.1 hc
      refine a_aload_n (pc := 47) dX11_fence_47 rfl ?_
      refine a_getr (pc := 48) dX11_fence_48 f_X11_71 rfl ?_
      refine a_callVi (pc := 51) (d := 1) (st := []) (o := 57) [] dX11_fence_51 l_X11_243 in_X2_twiceGround se_X2_twiceGround rfl rfl rfl ⟨Nat.le_of_ble_eq_true rfl, Nat.le_of_ble_eq_true rfl⟩ ⟨Nat.le_of_ble_eq_true rfl, Nat.le_of_ble_eq_true rfl⟩ (Nat.le_of_ble_eq_true rfl) ?_
      refine Calls.mono (fun r51 M51 hr51 hM51 h => ?_) h
      exact a_iretI (pc := 54) dX11_fence_54 rfl h
    · replace h := h.2 hc
      refine a_aload_n (pc := 37) dX11_fence_37 rfl ?_
      refine a_getr (pc := 38) dX11_fence_38 f_X11_71 rfl ?_
      refine a_geti (pc := 41) 4 dX11_fence_41 f_X11_240 rfl rfl ?_
      refine a_goto (pc := 44) 54 dX11_fence_44 rfl ?_
      exact a_iretI (pc := 54) dX11_fence_54 rfl h
  · replace h := h.2 hc
    refine a_iload_n (pc := 4) dX11_fence_4 rfl ?_
    refine a_iconst (pc := 5) dX11_fence_5 (cnb rfl) ?_
    refine a_icmp_eq (pc := 6) 11 dX11_fence_6 rfl ⟨fun hc => ?_, fun hc => ?_⟩
    · replace h := h.1 hc
      refine a_aload_n (pc := 11) dX11_fence_11 rfl ?_
      refine a_getr (pc := 12) dX11_fence_12 f_X11_71 rfl ?_
      refine a_aload_n (pc := 15) dX11_fence_15 rfl ?_
      refine a_getr (pc := 16) dX11_fence_16 f_X11_19 rfl ?_
      refine a_aload_n (pc := 19) dX11_fence_19 rfl ?_
      refine a_getr (pc := 20) dX11_fence_20 f_X11_49 rfl ?_
      refine a_callVv (pc := 23) (d := 1) (st := []) (o := 57) [.inr 3, .inr 37] dX11_fence_23 l_X11_226 in_X2_gather se_X2_gather rfl rfl rfl ⟨Nat.le_of_ble_eq_true rfl, Nat.le_of_ble_eq_true rfl⟩ ⟨Nat.le_of_ble_eq_true rfl, Nat.le_of_ble_eq_true rfl⟩ (Nat.le_of_ble_eq_true rfl) ?_
      refine Calls.mono (fun r23 M23 hr23 hM23 h => ?_) h
      refine a_aload_n (pc := 26) dX11_fence_26 rfl ?_
      refine a_getr (pc := 27) dX11_fence_27 f_X11_71 rfl ?_
      refine a_callVv (pc := 30) (d := 2) (st := []) (o := 57) [] dX11_fence_30 l_X11_237 in_X2_putFence se_X2_putFence rfl rfl rfl ⟨Nat.le_of_ble_eq_true rfl, Nat.le_of_ble_eq_true rfl⟩ ⟨Nat.le_of_ble_eq_true rfl, Nat.le_of_ble_eq_true rfl⟩ (Nat.le_of_ble_eq_true rfl) ?_
      refine Calls.mono (fun r30 M30 hr30 hM30 h => ?_) h
      refine a_iload_n (pc := 33) dX11_fence_33 rfl ?_
      refine a_if_ne (pc := 34) 47 dX11_fence_34 rfl ⟨fun hc => ?_, fun hc => ?_⟩
      · replace h := h.1 hc
        refine a_aload_n (pc := 47) dX11_fence_47 rfl ?_
        refine a_getr (pc := 48) dX11_fence_48 f_X11_71 rfl ?_
        refine a_callVi (pc := 51) (d := 1) (st := []) (o := 57) [] dX11_fence_51 l_X11_243 in_X2_twiceGround se_X2_twiceGround rfl rfl rfl ⟨Nat.le_of_ble_eq_true rfl, Nat.le_of_ble_eq_true rfl⟩ ⟨Nat.le_of_ble_eq_true rfl, Nat.le_of_ble_eq_true rfl⟩ (Nat.le_of_ble_eq_true rfl) ?_
        refine Calls.mono (fun r51 M51 hr51 hM51 h => ?_) h
        exact a_iretI (pc := 54) dX11_fence_54 rfl h
      · replace h := h.2 hc
        refine a_aload_n (pc := 37) dX11_fence_37 rfl ?_
        refine a_getr (pc := 38) dX11_fence_38 f_X11_71 rfl ?_
        refine a_geti (pc := 41) 4 dX11_fence_41 f_X11_240 rfl rfl ?_
        refine a_goto (pc := 44) 54 dX11_fence_44 rfl ?_
        exact a_iretI (pc := 54) dX11_fence_54 rfl h
    · replace h := h.2 hc
      refine a_iconst (pc := 9) dX11_fence_9 (cnb rfl) ?_
      exact a_iretI (pc := 10) dX11_fence_10 rfl h
set_option maxRecDepth 20000 in
theorem e_X11_fence {Q : Int → Me → Prop}  {a : Int} {M : Me} (h :
    ((a = 0 →
    Calls 1 mX2_gather [.inr 57, .inr 3, .inr 37] M (fun r23 M23 =>
    Calls 2 mX2_putFence [.inr 57] M23 (fun r30 M30 =>
    ((a ≠ 0 →
    Calls 1 mX2_twiceGround [.inr 57] M30 (fun r51 M51 =>
    Q r51 M51)) ∧ (a = 0 →
    Q (M30 57 4) M30))))) ∧ (a ≠ 0 →
    ((a = 1 →
    Calls 1 mX2_gather [.inr 57, .inr 3, .inr 37] M (fun r23 M23 =>
    Calls 2 mX2_putFence [.inr 57] M23 (fun r30 M30 =>
    ((a ≠ 0 →
    Calls 1 mX2_twiceGround [.inr 57] M30 (fun r51 M51 =>
    Q r51 M51)) ∧ (a = 0 →
    Q (M30 57 4) M30))))) ∧ (a ≠ 1 →
    Q (-1) M))))) : Calls 3 mX11_fence [.inr 0, .inl a] M Q := Calls.of (by decide) (Nat.le_of_ble_eq_true rfl) (s_X11_fence_0  a M h)
set_option maxRecDepth 20000 in
theorem s_X12_addsCorner_0 {Q : Int → Me → Prop}  (a b : Int) (M : Me) (h :
    cn (b + 1) ∧
    ((M 76 48 ≤ b + 1 →
    (0 ≤ M 76 48 ∧ M 76 48 < 34) ∧
    cn ((M 76 48) + 1) ∧
    Q 0 (mput (mput M 110 (M 76 48) a) 76 48 ((M 76 48) + 1))) ∧ (b + 1 < M 76 48 →
    cn ((M 76 48) - 2) ∧
    (0 ≤ (M 76 48) - 2 ∧ (M 76 48) - 2 < 34) ∧
    cn ((M 76 48) - 1) ∧
    (0 ≤ (M 76 48) - 1 ∧ (M 76 48) - 1 < 34) ∧
    pl (M 110 ((M 76 48) - 2)) ∧
    pl (M 110 ((M 76 48) - 1)) ∧
    pl a ∧
    ((0 < sd (M 110 ((M 76 48) - 2)) (M 110 ((M 76 48) - 1)) a →
    (0 ≤ M 76 48 ∧ M 76 48 < 34) ∧
    cn ((M 76 48) + 1) ∧
    Q 0 (mput (mput M 110 (M 76 48) a) 76 48 ((M 76 48) + 1))) ∧ (sd (M 110 ((M 76 48) - 2)) (M 110 ((M 76 48) - 1)) a ≤ 0 →
    cn ((M 76 48) - 1) ∧
    Go (km 1 mX12_addsCorner Q) 0 [some (.inr 76), some (.inl a), some (.inl b)] [] (mput M 76 48 ((M 76 48) - 1))))))) :
    Go (km 1 mX12_addsCorner Q) 0 [some (.inr 76), some (.inl a), some (.inl b)] [] M := by
  refine a_aload_n (pc := 0) dX12_addsCorner_0 rfl ?_
  refine a_geti (pc := 1) 48 dX12_addsCorner_1 f_X12_374 rfl rfl ?_
  refine a_iload_n (pc := 4) dX12_addsCorner_4 rfl ?_
  refine a_iconst (pc := 5) dX12_addsCorner_5 (cnb rfl) ?_
  refine a_iadd (pc := 6) dX12_addsCorner_6 h.1 ?_
  replace h := h.2
  refine a_icmp_le (pc := 7) 52 dX12_addsCorner_7 rfl ⟨fun hc => ?_, fun hc => ?_⟩
  · replace h := h.1 hc
    refine a_aload_n (pc := 52) dX12_addsCorner_52 rfl ?_
    refine a_getr (pc := 53) dX12_addsCorner_53 f_X12_110 rfl ?_
    refine a_aload_n (pc := 56) dX12_addsCorner_56 rfl ?_
    refine a_geti (pc := 57) 48 dX12_addsCorner_57 f_X12_374 rfl rfl ?_
    refine a_iload_n (pc := 60) dX12_addsCorner_60 rfl ?_
    refine a_iast (pc := 61) dX12_addsCorner_61 rfl h.1.1 h.1.2 ?_
    replace h := h.2
    refine a_aload_n (pc := 62) dX12_addsCorner_62 rfl ?_
    refine a_aload_n (pc := 63) dX12_addsCorner_63 rfl ?_
    refine a_getiE (pc := 64) (M 76 48) 48 dX12_addsCorner_64 f_X12_374 rfl rfl (mput_ne _ _ _ _ (by decide)) ?_
    refine a_iconst (pc := 67) dX12_addsCorner_67 (cnb rfl) ?_
    refine a_iadd (pc := 68) dX12_addsCorner_68 h.1 ?_
    replace h := h.2
    refine a_puti (pc := 69) 48 dX12_addsCorner_69 f_X12_374 rfl rfl (Or.inl rfl) ?_
    exact a_ret (pc := 72) dX12_addsCorner_72 rfl h
  · replace h := h.2 hc
    refine a_aload_n (pc := 10) dX12_addsCorner_10 rfl ?_
    refine a_getr (pc := 11) dX12_addsCorner_11 f_X12_110 rfl ?_
    refine a_aload_n (pc := 14) dX12_addsCorner_14 rfl ?_
    refine a_geti (pc := 15) 48 dX12_addsCorner_15 f_X12_374 rfl rfl ?_
    refine a_iconst (pc := 18) dX12_addsCorner_18 (cnb rfl) ?_
    refine a_isub (pc := 19) dX12_addsCorner_19 h.1 ?_
    replace h := h.2
    refine a_iald (pc := 20) dX12_addsCorner_20 rfl h.1.1 h.1.2  ?_
    replace h := h.2
    refine a_aload_n (pc := 21) dX12_addsCorner_21 rfl ?_
    refine a_getr (pc := 22) dX12_addsCorner_22 f_X12_110 rfl ?_
    refine a_aload_n (pc := 25) dX12_addsCorner_25 rfl ?_
    refine a_geti (pc := 26) 48 dX12_addsCorner_26 f_X12_374 rfl rfl ?_
    refine a_iconst (pc := 29) dX12_addsCorner_29 (cnb rfl) ?_
    refine a_isub (pc := 30) dX12_addsCorner_30 h.1 ?_
    replace h := h.2
    refine a_iald (pc := 31) dX12_addsCorner_31 rfl h.1.1 h.1.2  ?_
    replace h := h.2
    refine a_iload_n (pc := 32) dX12_addsCorner_32 rfl ?_
    refine a_callSi (pc := 33) (d := 0) (st := []) [.inl (M 110 ((M 76 48) - 2)), .inl (M 110 ((M 76 48) - 1)), .inl a] dX12_addsCorner_33 l_X12_377 st_X12_sideOf rfl ⟨Nat.le_of_ble_eq_true rfl, Nat.le_of_ble_eq_true rfl⟩ ⟨Nat.le_of_ble_eq_true rfl, Nat.le_of_ble_eq_true rfl⟩ (Nat.le_of_ble_eq_true rfl) ?_
    have hp33_5 := h.1
    replace h := h.2
    have hp33_6 := h.1
    replace h := h.2
    have hp33_7 := h.1
    replace h := h.2
    refine p_X12_sideOf hp33_5 hp33_6 hp33_7 ?_
    refine a_if_gt (pc := 36) 52 dX12_addsCorner_36 rfl ⟨fun hc => ?_, fun hc => ?_⟩
    · replace h := h.1 hc
      refine a_aload_n (pc := 52) dX12_addsCorner_52 rfl ?_
      refine a_getr (pc := 53) dX12_addsCorner_53 f_X12_110 rfl ?_
      refine a_aload_n (pc := 56) dX12_addsCorner_56 rfl ?_
      refine a_geti (pc := 57) 48 dX12_addsCorner_57 f_X12_374 rfl rfl ?_
      refine a_iload_n (pc := 60) dX12_addsCorner_60 rfl ?_
      refine a_iast (pc := 61) dX12_addsCorner_61 rfl h.1.1 h.1.2 ?_
      replace h := h.2
      refine a_aload_n (pc := 62) dX12_addsCorner_62 rfl ?_
      refine a_aload_n (pc := 63) dX12_addsCorner_63 rfl ?_
      refine a_getiE (pc := 64) (M 76 48) 48 dX12_addsCorner_64 f_X12_374 rfl rfl (mput_ne _ _ _ _ (by decide)) ?_
      refine a_iconst (pc := 67) dX12_addsCorner_67 (cnb rfl) ?_
      refine a_iadd (pc := 68) dX12_addsCorner_68 h.1 ?_
      replace h := h.2
      refine a_puti (pc := 69) 48 dX12_addsCorner_69 f_X12_374 rfl rfl (Or.inl rfl) ?_
      exact a_ret (pc := 72) dX12_addsCorner_72 rfl h
    · replace h := h.2 hc
      refine a_aload_n (pc := 39) dX12_addsCorner_39 rfl ?_
      refine a_aload_n (pc := 40) dX12_addsCorner_40 rfl ?_
      refine a_geti (pc := 41) 48 dX12_addsCorner_41 f_X12_374 rfl rfl ?_
      refine a_iconst (pc := 44) dX12_addsCorner_44 (cnb rfl) ?_
      refine a_isub (pc := 45) dX12_addsCorner_45 h.1 ?_
      replace h := h.2
      refine a_puti (pc := 46) 48 dX12_addsCorner_46 f_X12_374 rfl rfl (Or.inl rfl) ?_
      refine a_goto (pc := 49) 0 dX12_addsCorner_49 rfl ?_
      exact h
set_option maxRecDepth 20000 in
theorem e_X12_addsCorner {Q : Int → Me → Prop}  {a b : Int} {M : Me} (h :
    cn (b + 1) ∧
    ((M 76 48 ≤ b + 1 →
    (0 ≤ M 76 48 ∧ M 76 48 < 34) ∧
    cn ((M 76 48) + 1) ∧
    Q 0 (mput (mput M 110 (M 76 48) a) 76 48 ((M 76 48) + 1))) ∧ (b + 1 < M 76 48 →
    cn ((M 76 48) - 2) ∧
    (0 ≤ (M 76 48) - 2 ∧ (M 76 48) - 2 < 34) ∧
    cn ((M 76 48) - 1) ∧
    (0 ≤ (M 76 48) - 1 ∧ (M 76 48) - 1 < 34) ∧
    pl (M 110 ((M 76 48) - 2)) ∧
    pl (M 110 ((M 76 48) - 1)) ∧
    pl a ∧
    ((0 < sd (M 110 ((M 76 48) - 2)) (M 110 ((M 76 48) - 1)) a →
    (0 ≤ M 76 48 ∧ M 76 48 < 34) ∧
    cn ((M 76 48) + 1) ∧
    Q 0 (mput (mput M 110 (M 76 48) a) 76 48 ((M 76 48) + 1))) ∧ (sd (M 110 ((M 76 48) - 2)) (M 110 ((M 76 48) - 1)) a ≤ 0 →
    cn ((M 76 48) - 1) ∧
    Go (km 1 mX12_addsCorner Q) 0 [some (.inr 76), some (.inl a), some (.inl b)] [] (mput M 76 48 ((M 76 48) - 1))))))) : Calls 1 mX12_addsCorner [.inr 76, .inl a, .inl b] M Q := Calls.of (by decide) (Nat.le_of_ble_eq_true rfl) (s_X12_addsCorner_0  a b M h)
set_option maxRecDepth 20000 in
theorem s_X12_laysFence_0 {Q : Int → Me → Prop}  (M : Me) (h :
    Calls 1 mX12_laysTrees [.inr 76] M (fun r1 M1 =>
    Go (km 2 mX12_laysFence Q) 11 [some (.inr 76), some (.inl 0), none] [] (mput M1 76 48 0))) :
    Go (km 2 mX12_laysFence Q) 0 [some (.inr 76), none, none] [] M := by
  refine a_aload_n (pc := 0) dX12_laysFence_0 rfl ?_
  refine a_callVv (pc := 1) (d := 1) (st := []) (o := 76) [] dX12_laysFence_1 l_X12_371 in_X12_laysTrees se_X12_laysTrees rfl rfl rfl ⟨Nat.le_of_ble_eq_true rfl, Nat.le_of_ble_eq_true rfl⟩ ⟨Nat.le_of_ble_eq_true rfl, Nat.le_of_ble_eq_true rfl⟩ (Nat.le_of_ble_eq_true rfl) ?_
  refine Calls.mono (fun r1 M1 hr1 hM1 h => ?_) h
  refine a_aload_n (pc := 4) dX12_laysFence_4 rfl ?_
  refine a_iconst (pc := 5) dX12_laysFence_5 (cnb rfl) ?_
  refine a_puti (pc := 6) 48 dX12_laysFence_6 f_X12_374 rfl rfl (Or.inl rfl) ?_
  refine a_iconst (pc := 9) dX12_laysFence_9 (cnb rfl) ?_
  refine a_istore_n (pc := 10) dX12_laysFence_10 (Nat.le_of_ble_eq_true rfl) ?_
  exact h
set_option maxRecDepth 20000 in
theorem e_X12_laysFence {Q : Int → Me → Prop}  {M : Me} (h :
    Calls 1 mX12_laysTrees [.inr 76] M (fun r1 M1 =>
    Go (km 2 mX12_laysFence Q) 11 [some (.inr 76), some (.inl 0), none] [] (mput M1 76 48 0))) : Calls 2 mX12_laysFence [.inr 76] M Q := Calls.of (by decide) (Nat.le_of_ble_eq_true rfl) (s_X12_laysFence_0   M h)
set_option maxRecDepth 20000 in
theorem s_X12_laysFence_11 {Q : Int → Me → Prop}  (x1 : Int) (M : Me) (h :
    ((M 76 47 ≤ x1 →
    cn ((M 76 48) - 1) ∧
    cn ((M 76 47) - 2) ∧
    Go (km 2 mX12_laysFence Q) 50 [some (.inr 76), some (.inl ((M 76 48) - 1)), some (.inl ((M 76 47) - 2))] [] M) ∧ (x1 < M 76 47 →
    (0 ≤ x1 ∧ x1 < 32) ∧
    Calls 1 mX12_addsCorner [.inr 76, .inl (M 109 x1), .inl 0] M (fun r27 M27 =>
    cn (x1 + 1) ∧
    Go (km 2 mX12_laysFence Q) 11 [some (.inr 76), some (.inl (x1 + 1)), none] [] M27)))) :
    Go (km 2 mX12_laysFence Q) 11 [some (.inr 76), some (.inl x1), none] [] M := by
  refine a_iload_n (pc := 11) dX12_laysFence_11 rfl ?_
  refine a_aload_n (pc := 12) dX12_laysFence_12 rfl ?_
  refine a_geti (pc := 13) 47 dX12_laysFence_13 f_X12_365 rfl rfl ?_
  refine a_icmp_ge (pc := 16) 36 dX12_laysFence_16 rfl ⟨fun hc => ?_, fun hc => ?_⟩
  · replace h := h.1 hc
    refine a_aload_n (pc := 36) dX12_laysFence_36 rfl ?_
    refine a_geti (pc := 37) 48 dX12_laysFence_37 f_X12_374 rfl rfl ?_
    refine a_iconst (pc := 40) dX12_laysFence_40 (cnb rfl) ?_
    refine a_isub (pc := 41) dX12_laysFence_41 h.1 ?_
    replace h := h.2
    refine a_istore_n (pc := 42) dX12_laysFence_42 (Nat.le_of_ble_eq_true rfl) ?_
    refine a_aload_n (pc := 43) dX12_laysFence_43 rfl ?_
    refine a_geti (pc := 44) 47 dX12_laysFence_44 f_X12_365 rfl rfl ?_
    refine a_iconst (pc := 47) dX12_laysFence_47 (cnb rfl) ?_
    refine a_isub (pc := 48) dX12_laysFence_48 h.1 ?_
    replace h := h.2
    refine a_istore_n (pc := 49) dX12_laysFence_49 (Nat.le_of_ble_eq_true rfl) ?_
    exact h
  · replace h := h.2 hc
    refine a_aload_n (pc := 19) dX12_laysFence_19 rfl ?_
    refine a_aload_n (pc := 20) dX12_laysFence_20 rfl ?_
    refine a_getr (pc := 21) dX12_laysFence_21 f_X12_107 rfl ?_
    refine a_iload_n (pc := 24) dX12_laysFence_24 rfl ?_
    refine a_iald (pc := 25) dX12_laysFence_25 rfl h.1.1 h.1.2  ?_
    replace h := h.2
    refine a_iconst (pc := 26) dX12_laysFence_26 (cnb rfl) ?_
    refine a_callVv (pc := 27) (d := 1) (st := []) (o := 76) [.inl (M 109 x1), .inl 0] dX12_laysFence_27 l_X12_380 in_X12_addsCorner se_X12_addsCorner rfl rfl rfl ⟨Nat.le_of_ble_eq_true rfl, Nat.le_of_ble_eq_true rfl⟩ ⟨Nat.le_of_ble_eq_true rfl, Nat.le_of_ble_eq_true rfl⟩ (Nat.le_of_ble_eq_true rfl) ?_
    refine Calls.mono (fun r27 M27 hr27 hM27 h => ?_) h
    refine a_iinc (pc := 30) dX12_laysFence_30 rfl h.1 (Nat.le_of_ble_eq_true rfl) ?_
    replace h := h.2
    refine a_goto (pc := 33) 11 dX12_laysFence_33 rfl ?_
    exact h
set_option maxRecDepth 20000 in
theorem s_X12_laysFence_50 {Q : Int → Me → Prop}  (x1 x2 : Int) (M : Me) (h :
    ((x2 < 0 →
    ((M 76 47 ≤ 1 →
    Q 0 M) ∧ (1 < M 76 47 →
    cn ((M 76 48) - 1) ∧
    Q 0 (mput M 76 48 ((M 76 48) - 1))))) ∧ (0 ≤ x2 →
    (0 ≤ x2 ∧ x2 < 32) ∧
    Calls 1 mX12_addsCorner [.inr 76, .inl (M 109 x2), .inl x1] M (fun r62 M62 =>
    cn (x2 + (-1)) ∧
    Go (km 2 mX12_laysFence Q) 50 [some (.inr 76), some (.inl x1), some (.inl (x2 + (-1)))] [] M62)))) :
    Go (km 2 mX12_laysFence Q) 50 [some (.inr 76), some (.inl x1), some (.inl x2)] [] M := by
  refine a_iload_n (pc := 50) dX12_laysFence_50 rfl ?_
  refine a_if_lt (pc := 51) 71 dX12_laysFence_51 rfl ⟨fun hc => ?_, fun hc => ?_⟩
  · replace h := h.1 hc
    refine a_aload_n (pc := 71) dX12_laysFence_71 rfl ?_
    refine a_geti (pc := 72) 47 dX12_laysFence_72 f_X12_365 rfl rfl ?_
    refine a_iconst (pc := 75) dX12_laysFence_75 (cnb rfl) ?_
    refine a_icmp_le (pc := 76) 89 dX12_laysFence_76 rfl ⟨fun hc => ?_, fun hc => ?_⟩
    · replace h := h.1 hc
      exact a_ret (pc := 89) dX12_laysFence_89 rfl h
    · replace h := h.2 hc
      refine a_aload_n (pc := 79) dX12_laysFence_79 rfl ?_
      refine a_aload_n (pc := 80) dX12_laysFence_80 rfl ?_
      refine a_geti (pc := 81) 48 dX12_laysFence_81 f_X12_374 rfl rfl ?_
      refine a_iconst (pc := 84) dX12_laysFence_84 (cnb rfl) ?_
      refine a_isub (pc := 85) dX12_laysFence_85 h.1 ?_
      replace h := h.2
      refine a_puti (pc := 86) 48 dX12_laysFence_86 f_X12_374 rfl rfl (Or.inl rfl) ?_
      exact a_ret (pc := 89) dX12_laysFence_89 rfl h
  · replace h := h.2 hc
    refine a_aload_n (pc := 54) dX12_laysFence_54 rfl ?_
    refine a_aload_n (pc := 55) dX12_laysFence_55 rfl ?_
    refine a_getr (pc := 56) dX12_laysFence_56 f_X12_107 rfl ?_
    refine a_iload_n (pc := 59) dX12_laysFence_59 rfl ?_
    refine a_iald (pc := 60) dX12_laysFence_60 rfl h.1.1 h.1.2  ?_
    replace h := h.2
    refine a_iload_n (pc := 61) dX12_laysFence_61 rfl ?_
    refine a_callVv (pc := 62) (d := 1) (st := []) (o := 76) [.inl (M 109 x2), .inl x1] dX12_laysFence_62 l_X12_380 in_X12_addsCorner se_X12_addsCorner rfl rfl rfl ⟨Nat.le_of_ble_eq_true rfl, Nat.le_of_ble_eq_true rfl⟩ ⟨Nat.le_of_ble_eq_true rfl, Nat.le_of_ble_eq_true rfl⟩ (Nat.le_of_ble_eq_true rfl) ?_
    refine Calls.mono (fun r62 M62 hr62 hM62 h => ?_) h
    refine a_iinc (pc := 65) dX12_laysFence_65 rfl h.1 (Nat.le_of_ble_eq_true rfl) ?_
    replace h := h.2
    refine a_goto (pc := 68) 50 dX12_laysFence_68 rfl ?_
    exact h
set_option maxRecDepth 20000 in
theorem s_X12_fence_0 {Q : Int → Me → Prop}  (a : Int) (M : Me) (h :
    ((0 ≤ a ∧ a ≤ 1 →
    Calls 2 mX12_laysFence [.inr 76] M (fun r12 M12 =>
    ((a ≠ 0 →
    Go (km 3 mX12_fence Q) 28 [some (.inr 76), none, some (.inl 0), some (.inl 0), none, none] [] M12) ∧ (a = 0 →
    Q (M12 76 48) M12)))) ∧ (¬ (0 ≤ a ∧ a ≤ 1) →
    Q (-1) M))) :
    Go (km 3 mX12_fence Q) 0 [some (.inr 76), some (.inl a), none, none, none, none] [] M := by
  refine a_iload_n (pc := 0) dX12_fence_0 rfl ?_
  refine a_iconst (pc := 1) dX12_fence_1 (cnb rfl) ?_
  refine a_iconst (pc := 2) dX12_fence_2 (cnb rfl) ?_
  refine a_callSi (pc := 3) (d := 0) (st := []) [.inl a, .inl 0, .inl 1] dX12_fence_3 l_X12_156 st_X12_in rfl ⟨Nat.le_of_ble_eq_true rfl, Nat.le_of_ble_eq_true rfl⟩ ⟨Nat.le_of_ble_eq_true rfl, Nat.le_of_ble_eq_true rfl⟩ (Nat.le_of_ble_eq_true rfl) ?_
  refine p_X12_in ⟨fun hc => ?_, fun hc => ?_⟩
  · replace h := h.1 hc
    refine a_if_ne (pc := 6) 11 dX12_fence_6 rfl ⟨fun _ => ?_, fun hc => absurd hc (by decide)⟩
    refine a_aload_n (pc := 11) dX12_fence_11 rfl ?_
    refine a_callVv (pc := 12) (d := 2) (st := []) (o := 76) [] dX12_fence_12 l_X12_383 in_X12_laysFence se_X12_laysFence rfl rfl rfl ⟨Nat.le_of_ble_eq_true rfl, Nat.le_of_ble_eq_true rfl⟩ ⟨Nat.le_of_ble_eq_true rfl, Nat.le_of_ble_eq_true rfl⟩ (Nat.le_of_ble_eq_true rfl) ?_
    refine Calls.mono (fun r12 M12 hr12 hM12 h => ?_) h
    refine a_iload_n (pc := 15) dX12_fence_15 rfl ?_
    refine a_if_ne (pc := 16) 24 dX12_fence_16 rfl ⟨fun hc => ?_, fun hc => ?_⟩
    · replace h := h.1 hc
      refine a_iconst (pc := 24) dX12_fence_24 (cnb rfl) ?_
      refine a_istore_n (pc := 25) dX12_fence_25 (Nat.le_of_ble_eq_true rfl) ?_
      refine a_iconst (pc := 26) dX12_fence_26 (cnb rfl) ?_
      refine a_istore_n (pc := 27) dX12_fence_27 (Nat.le_of_ble_eq_true rfl) ?_
      exact Go.weak h (And.intro rfl (And.intro rfl (And.intro rfl True.intro)))
    · replace h := h.2 hc
      refine a_aload_n (pc := 19) dX12_fence_19 rfl ?_
      refine a_geti (pc := 20) 48 dX12_fence_20 f_X12_374 rfl rfl ?_
      exact a_iretI (pc := 23) dX12_fence_23 rfl h
  · replace h := h.2 hc
    refine a_if_ne (pc := 6) 11 dX12_fence_6 rfl ⟨fun hc => absurd hc (by decide), fun _ => ?_⟩
    refine a_iconst (pc := 9) dX12_fence_9 (cnb rfl) ?_
    exact a_iretI (pc := 10) dX12_fence_10 rfl h
set_option maxRecDepth 20000 in
theorem e_X12_fence {Q : Int → Me → Prop}  {a : Int} {M : Me} (h :
    ((0 ≤ a ∧ a ≤ 1 →
    Calls 2 mX12_laysFence [.inr 76] M (fun r12 M12 =>
    ((a ≠ 0 →
    Go (km 3 mX12_fence Q) 28 [some (.inr 76), none, some (.inl 0), some (.inl 0), none, none] [] M12) ∧ (a = 0 →
    Q (M12 76 48) M12)))) ∧ (¬ (0 ≤ a ∧ a ≤ 1) →
    Q (-1) M))) : Calls 3 mX12_fence [.inr 76, .inl a] M Q := Calls.of (by decide) (Nat.le_of_ble_eq_true rfl) (s_X12_fence_0  a M h)
set_option maxRecDepth 20000 in
theorem s_X12_fence_28 {Q : Int → Me → Prop}  (x2 x3 : Int) (M : Me) (h :
    ((M 76 48 ≤ x3 →
    cn (-x2) ∧
    Q (max x2 (-x2)) M) ∧ (x3 < M 76 48 →
    (0 ≤ x3 ∧ x3 < 34) ∧
    cn (x3 + 1) ∧
    M 76 48 ≠ 0 ∧
    (0 ≤ brem (x3 + 1) (M 76 48) ∧ brem (x3 + 1) (M 76 48) < 34) ∧
    0 ≤ (M 110 x3) ∧
    0 ≤ (M 110 (brem (x3 + 1) (M 76 48))) ∧
    cn (((M 110 x3) % 24) * ((M 110 (brem (x3 + 1) (M 76 48))) / 24)) ∧
    cn (x2 + (((M 110 x3) % 24) * ((M 110 (brem (x3 + 1) (M 76 48))) / 24))) ∧
    0 ≤ (M 110 (brem (x3 + 1) (M 76 48))) ∧
    0 ≤ (M 110 x3) ∧
    cn (((M 110 (brem (x3 + 1) (M 76 48))) % 24) * ((M 110 x3) / 24)) ∧
    cn ((x2 + (((M 110 x3) % 24) * ((M 110 (brem (x3 + 1) (M 76 48))) / 24))) - (((M 110 (brem (x3 + 1) (M 76 48))) % 24) * ((M 110 x3) / 24))) ∧
    cn (x3 + 1) ∧
    Go (km 3 mX12_fence Q) 28 [some (.inr 76), none, some (.inl ((x2 + (((M 110 x3) % 24) * ((M 110 (brem (x3 + 1) (M 76 48))) / 24))) - (((M 110 (brem (x3 + 1) (M 76 48))) % 24) * ((M 110 x3) / 24)))), some (.inl (x3 + 1)), none, none] [] M))) :
    Go (km 3 mX12_fence Q) 28 [some (.inr 76), none, some (.inl x2), some (.inl x3), none, none] [] M := by
  refine a_iload_n (pc := 28) dX12_fence_28 rfl ?_
  refine a_aload_n (pc := 29) dX12_fence_29 rfl ?_
  refine a_geti (pc := 30) 48 dX12_fence_30 f_X12_374 rfl rfl ?_
  refine a_icmp_ge (pc := 33) 91 dX12_fence_33 rfl ⟨fun hc => ?_, fun hc => ?_⟩
  · replace h := h.1 hc
    refine a_iload_n (pc := 91) dX12_fence_91 rfl ?_
    refine a_callSi (pc := 92) (d := 0) (st := []) [.inl x2] dX12_fence_92 l_X12_160 st_X12_size rfl ⟨Nat.le_of_ble_eq_true rfl, Nat.le_of_ble_eq_true rfl⟩ ⟨Nat.le_of_ble_eq_true rfl, Nat.le_of_ble_eq_true rfl⟩ (Nat.le_of_ble_eq_true rfl) ?_
    have hp92_1 := h.1
    replace h := h.2
    refine p_X12_size hp92_1 ?_
    exact a_iretI (pc := 95) dX12_fence_95 rfl h
  · replace h := h.2 hc
    refine a_aload_n (pc := 36) dX12_fence_36 rfl ?_
    refine a_getr (pc := 37) dX12_fence_37 f_X12_110 rfl ?_
    refine a_iload_n (pc := 40) dX12_fence_40 rfl ?_
    refine a_iald (pc := 41) dX12_fence_41 rfl h.1.1 h.1.2  ?_
    replace h := h.2
    refine a_istore (pc := 42) dX12_fence_42 (Nat.le_of_ble_eq_true rfl) ?_
    refine a_aload_n (pc := 44) dX12_fence_44 rfl ?_
    refine a_getr (pc := 45) dX12_fence_45 f_X12_110 rfl ?_
    refine a_iload_n (pc := 48) dX12_fence_48 rfl ?_
    refine a_iconst (pc := 49) dX12_fence_49 (cnb rfl) ?_
    refine a_iadd (pc := 50) dX12_fence_50 h.1 ?_
    replace h := h.2
    refine a_aload_n (pc := 51) dX12_fence_51 rfl ?_
    refine a_geti (pc := 52) 48 dX12_fence_52 f_X12_374 rfl rfl ?_
    refine a_irem (pc := 55) dX12_fence_55 h.1 ?_
    replace h := h.2
    refine a_iald (pc := 56) dX12_fence_56 rfl h.1.1 h.1.2  ?_
    replace h := h.2
    refine a_istore (pc := 57) dX12_fence_57 (Nat.le_of_ble_eq_true rfl) ?_
    refine a_iload_n (pc := 59) dX12_fence_59 rfl ?_
    refine a_iload (pc := 60) dX12_fence_60 rfl ?_
    refine a_bipush (pc := 62) dX12_fence_62 (by decide) (cnb rfl) ?_
    refine a_iremn (pc := 64) dX12_fence_64 (by decide) h.1 ?_
    replace h := h.2
    refine a_iload (pc := 65) dX12_fence_65 rfl ?_
    refine a_bipush (pc := 67) dX12_fence_67 (by decide) (cnb rfl) ?_
    refine a_idivn (pc := 69) dX12_fence_69 (by decide) h.1 ?_
    replace h := h.2
    refine a_imul (pc := 70) dX12_fence_70 h.1 ?_
    replace h := h.2
    refine a_iadd (pc := 71) dX12_fence_71 h.1 ?_
    replace h := h.2
    refine a_iload (pc := 72) dX12_fence_72 rfl ?_
    refine a_bipush (pc := 74) dX12_fence_74 (by decide) (cnb rfl) ?_
    refine a_iremn (pc := 76) dX12_fence_76 (by decide) h.1 ?_
    replace h := h.2
    refine a_iload (pc := 77) dX12_fence_77 rfl ?_
    refine a_bipush (pc := 79) dX12_fence_79 (by decide) (cnb rfl) ?_
    refine a_idivn (pc := 81) dX12_fence_81 (by decide) h.1 ?_
    replace h := h.2
    refine a_imul (pc := 82) dX12_fence_82 h.1 ?_
    replace h := h.2
    refine a_isub (pc := 83) dX12_fence_83 h.1 ?_
    replace h := h.2
    refine a_istore_n (pc := 84) dX12_fence_84 (Nat.le_of_ble_eq_true rfl) ?_
    refine a_iinc (pc := 85) dX12_fence_85 rfl h.1 (Nat.le_of_ble_eq_true rfl) ?_
    replace h := h.2
    refine a_goto (pc := 88) 28 dX12_fence_88 rfl ?_
    exact Go.weak h (And.intro rfl (And.intro rfl (And.intro rfl True.intro)))
