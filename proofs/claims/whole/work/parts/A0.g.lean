set_option maxRecDepth 20000 in
theorem s_X1_copyOf_0 {Q : Int → Me → Prop}  (M : Me) (h :
    Q 0 (mput (mcopy (mcopy (mcopy (mcopy (mcopy (mcopy (mcopy (mcopy M 14 4 16) 15 5 16) 16 6 16) 17 7 16) 18 8 16) 19 9 16) 20 10 16) 21 11 16) 3 8 (M 13 8))) :
    Go (km 1 mX1_copyOf Q) 0 [some (.inr 3), some (.inr 13)] [] M := by
  refine a_aload_n (pc := 0) dX1_copyOf_0 rfl ?_
  refine a_getr (pc := 1) dX1_copyOf_1 f_X1_9 rfl ?_
  refine a_iconst (pc := 4) dX1_copyOf_4 (cnb rfl) ?_
  refine a_aload_n (pc := 5) dX1_copyOf_5 rfl ?_
  refine a_getr (pc := 6) dX1_copyOf_6 f_X1_9 rfl ?_
  refine a_iconst (pc := 9) dX1_copyOf_9 (cnb rfl) ?_
  refine a_bipush (pc := 10) dX1_copyOf_10 (by decide) (cnb rfl) ?_
  refine a_acopy (pc := 12) dX1_copyOf_12 ml_X1_40 ac_nat ac_st ac_ini rfl rfl (by decide) (by decide) (by decide) ⟨Nat.le_of_ble_eq_true rfl, Nat.le_of_ble_eq_true rfl⟩ (Nat.le_of_ble_eq_true rfl) ?_
  refine a_aload_n (pc := 15) dX1_copyOf_15 rfl ?_
  refine a_getr (pc := 16) dX1_copyOf_16 f_X1_15 rfl ?_
  refine a_iconst (pc := 19) dX1_copyOf_19 (cnb rfl) ?_
  refine a_aload_n (pc := 20) dX1_copyOf_20 rfl ?_
  refine a_getr (pc := 21) dX1_copyOf_21 f_X1_15 rfl ?_
  refine a_iconst (pc := 24) dX1_copyOf_24 (cnb rfl) ?_
  refine a_bipush (pc := 25) dX1_copyOf_25 (by decide) (cnb rfl) ?_
  refine a_acopy (pc := 27) dX1_copyOf_27 ml_X1_40 ac_nat ac_st ac_ini rfl rfl (by decide) (by decide) (by decide) ⟨Nat.le_of_ble_eq_true rfl, Nat.le_of_ble_eq_true rfl⟩ (Nat.le_of_ble_eq_true rfl) ?_
  refine a_aload_n (pc := 30) dX1_copyOf_30 rfl ?_
  refine a_getr (pc := 31) dX1_copyOf_31 f_X1_18 rfl ?_
  refine a_iconst (pc := 34) dX1_copyOf_34 (cnb rfl) ?_
  refine a_aload_n (pc := 35) dX1_copyOf_35 rfl ?_
  refine a_getr (pc := 36) dX1_copyOf_36 f_X1_18 rfl ?_
  refine a_iconst (pc := 39) dX1_copyOf_39 (cnb rfl) ?_
  refine a_bipush (pc := 40) dX1_copyOf_40 (by decide) (cnb rfl) ?_
  refine a_acopy (pc := 42) dX1_copyOf_42 ml_X1_40 ac_nat ac_st ac_ini rfl rfl (by decide) (by decide) (by decide) ⟨Nat.le_of_ble_eq_true rfl, Nat.le_of_ble_eq_true rfl⟩ (Nat.le_of_ble_eq_true rfl) ?_
  refine a_aload_n (pc := 45) dX1_copyOf_45 rfl ?_
  refine a_getr (pc := 46) dX1_copyOf_46 f_X1_21 rfl ?_
  refine a_iconst (pc := 49) dX1_copyOf_49 (cnb rfl) ?_
  refine a_aload_n (pc := 50) dX1_copyOf_50 rfl ?_
  refine a_getr (pc := 51) dX1_copyOf_51 f_X1_21 rfl ?_
  refine a_iconst (pc := 54) dX1_copyOf_54 (cnb rfl) ?_
  refine a_bipush (pc := 55) dX1_copyOf_55 (by decide) (cnb rfl) ?_
  refine a_acopy (pc := 57) dX1_copyOf_57 ml_X1_40 ac_nat ac_st ac_ini rfl rfl (by decide) (by decide) (by decide) ⟨Nat.le_of_ble_eq_true rfl, Nat.le_of_ble_eq_true rfl⟩ (Nat.le_of_ble_eq_true rfl) ?_
  refine a_aload_n (pc := 60) dX1_copyOf_60 rfl ?_
  refine a_getr (pc := 61) dX1_copyOf_61 f_X1_24 rfl ?_
  refine a_iconst (pc := 64) dX1_copyOf_64 (cnb rfl) ?_
  refine a_aload_n (pc := 65) dX1_copyOf_65 rfl ?_
  refine a_getr (pc := 66) dX1_copyOf_66 f_X1_24 rfl ?_
  refine a_iconst (pc := 69) dX1_copyOf_69 (cnb rfl) ?_
  refine a_bipush (pc := 70) dX1_copyOf_70 (by decide) (cnb rfl) ?_
  refine a_acopy (pc := 72) dX1_copyOf_72 ml_X1_40 ac_nat ac_st ac_ini rfl rfl (by decide) (by decide) (by decide) ⟨Nat.le_of_ble_eq_true rfl, Nat.le_of_ble_eq_true rfl⟩ (Nat.le_of_ble_eq_true rfl) ?_
  refine a_aload_n (pc := 75) dX1_copyOf_75 rfl ?_
  refine a_getr (pc := 76) dX1_copyOf_76 f_X1_27 rfl ?_
  refine a_iconst (pc := 79) dX1_copyOf_79 (cnb rfl) ?_
  refine a_aload_n (pc := 80) dX1_copyOf_80 rfl ?_
  refine a_getr (pc := 81) dX1_copyOf_81 f_X1_27 rfl ?_
  refine a_iconst (pc := 84) dX1_copyOf_84 (cnb rfl) ?_
  refine a_bipush (pc := 85) dX1_copyOf_85 (by decide) (cnb rfl) ?_
  refine a_acopy (pc := 87) dX1_copyOf_87 ml_X1_40 ac_nat ac_st ac_ini rfl rfl (by decide) (by decide) (by decide) ⟨Nat.le_of_ble_eq_true rfl, Nat.le_of_ble_eq_true rfl⟩ (Nat.le_of_ble_eq_true rfl) ?_
  refine a_aload_n (pc := 90) dX1_copyOf_90 rfl ?_
  refine a_getr (pc := 91) dX1_copyOf_91 f_X1_30 rfl ?_
  refine a_iconst (pc := 94) dX1_copyOf_94 (cnb rfl) ?_
  refine a_aload_n (pc := 95) dX1_copyOf_95 rfl ?_
  refine a_getr (pc := 96) dX1_copyOf_96 f_X1_30 rfl ?_
  refine a_iconst (pc := 99) dX1_copyOf_99 (cnb rfl) ?_
  refine a_bipush (pc := 100) dX1_copyOf_100 (by decide) (cnb rfl) ?_
  refine a_acopy (pc := 102) dX1_copyOf_102 ml_X1_40 ac_nat ac_st ac_ini rfl rfl (by decide) (by decide) (by decide) ⟨Nat.le_of_ble_eq_true rfl, Nat.le_of_ble_eq_true rfl⟩ (Nat.le_of_ble_eq_true rfl) ?_
  refine a_aload_n (pc := 105) dX1_copyOf_105 rfl ?_
  refine a_getr (pc := 106) dX1_copyOf_106 f_X1_33 rfl ?_
  refine a_iconst (pc := 109) dX1_copyOf_109 (cnb rfl) ?_
  refine a_aload_n (pc := 110) dX1_copyOf_110 rfl ?_
  refine a_getr (pc := 111) dX1_copyOf_111 f_X1_33 rfl ?_
  refine a_iconst (pc := 114) dX1_copyOf_114 (cnb rfl) ?_
  refine a_bipush (pc := 115) dX1_copyOf_115 (by decide) (cnb rfl) ?_
  refine a_acopy (pc := 117) dX1_copyOf_117 ml_X1_40 ac_nat ac_st ac_ini rfl rfl (by decide) (by decide) (by decide) ⟨Nat.le_of_ble_eq_true rfl, Nat.le_of_ble_eq_true rfl⟩ (Nat.le_of_ble_eq_true rfl) ?_
  refine a_aload_n (pc := 120) dX1_copyOf_120 rfl ?_
  refine a_aload_n (pc := 121) dX1_copyOf_121 rfl ?_
  refine a_getiE (pc := 122) (M 13 8) 8 dX1_copyOf_122 f_X1_36 rfl rfl ((mcopy_ne _ _ _ (by decide)).trans ((mcopy_ne _ _ _ (by decide)).trans ((mcopy_ne _ _ _ (by decide)).trans ((mcopy_ne _ _ _ (by decide)).trans ((mcopy_ne _ _ _ (by decide)).trans ((mcopy_ne _ _ _ (by decide)).trans ((mcopy_ne _ _ _ (by decide)).trans (mcopy_ne _ _ _ (by decide))))))))) ?_
  refine a_puti (pc := 125) 8 dX1_copyOf_125 f_X1_36 rfl rfl (Or.inl rfl) ?_
  exact a_ret (pc := 128) dX1_copyOf_128 rfl h
set_option maxRecDepth 20000 in
theorem e_X1_copyOf {Q : Int → Me → Prop}  {M : Me} (h :
    Q 0 (mput (mcopy (mcopy (mcopy (mcopy (mcopy (mcopy (mcopy (mcopy M 14 4 16) 15 5 16) 16 6 16) 17 7 16) 18 8 16) 19 9 16) 20 10 16) 21 11 16) 3 8 (M 13 8))) : Calls 1 mX1_copyOf [.inr 3, .inr 13] M Q := Calls.of (by decide) (Nat.le_of_ble_eq_true rfl) (s_X1_copyOf_0   M h)
set_option maxRecDepth 20000 in
theorem s_X8_begin_0 {Q : Int → Me → Prop}  (M : Me) (h :
    Go (km 0 mX8_begin Q) 2 [some (.inr 37), some (.inr 3), some (.inl 0)] [] M) :
    Go (km 0 mX8_begin Q) 0 [some (.inr 37), some (.inr 3), none] [] M := by
  refine a_iconst (pc := 0) dX8_begin_0 (cnb rfl) ?_
  refine a_istore_n (pc := 1) dX8_begin_1 (Nat.le_of_ble_eq_true rfl) ?_
  exact h
set_option maxRecDepth 20000 in
theorem e_X8_begin {Q : Int → Me → Prop}  {M : Me} (h :
    Go (km 0 mX8_begin Q) 2 [some (.inr 37), some (.inr 3), some (.inl 0)] [] M) : Calls 0 mX8_begin [.inr 37, .inr 3] M Q := Calls.of (by decide) (Nat.le_of_ble_eq_true rfl) (s_X8_begin_0   M h)
set_option maxRecDepth 20000 in
theorem s_X8_begin_2 {Q : Int → Me → Prop}  (x2 : Int) (M : Me) (h :
    ((M 3 8 ≤ x2 →
    Q 0 M) ∧ (x2 < M 3 8 →
    (0 ≤ x2 ∧ x2 < 16) ∧
    (0 ≤ x2 ∧ x2 < 16) ∧
    (0 ≤ x2 ∧ x2 < 16) ∧
    (0 ≤ x2 ∧ x2 < 16) ∧
    (0 ≤ x2 ∧ x2 < 16) ∧
    (0 ≤ x2 ∧ x2 < 16) ∧
    cn (x2 + 1) ∧
    Go (km 0 mX8_begin Q) 2 [some (.inr 37), some (.inr 3), some (.inl (x2 + 1))] [] (mput (mput (mput (mput (mput M 38 x2 0) 39 x2 (M 4 x2)) 40 x2 99) 41 x2 0) 42 x2 0)))) :
    Go (km 0 mX8_begin Q) 2 [some (.inr 37), some (.inr 3), some (.inl x2)] [] M := by
  refine a_iload_n (pc := 2) dX8_begin_2 rfl ?_
  refine a_aload_n (pc := 3) dX8_begin_3 rfl ?_
  refine a_geti (pc := 4) 8 dX8_begin_4 f_X8_34 rfl rfl ?_
  refine a_icmp_ge (pc := 7) 57 dX8_begin_7 rfl ⟨fun hc => ?_, fun hc => ?_⟩
  · replace h := h.1 hc
    exact a_ret (pc := 57) dX8_begin_57 rfl h
  · replace h := h.2 hc
    refine a_aload_n (pc := 10) dX8_begin_10 rfl ?_
    refine a_getr (pc := 11) dX8_begin_11 f_X8_9 rfl ?_
    refine a_iload_n (pc := 14) dX8_begin_14 rfl ?_
    refine a_iconst (pc := 15) dX8_begin_15 (cnb rfl) ?_
    refine a_iast (pc := 16) dX8_begin_16 rfl h.1.1 h.1.2 ?_
    replace h := h.2
    refine a_aload_n (pc := 17) dX8_begin_17 rfl ?_
    refine a_getr (pc := 18) dX8_begin_18 f_X8_15 rfl ?_
    refine a_iload_n (pc := 21) dX8_begin_21 rfl ?_
    refine a_aload_n (pc := 22) dX8_begin_22 rfl ?_
    refine a_getr (pc := 23) dX8_begin_23 f_X8_39 rfl ?_
    refine a_iload_n (pc := 26) dX8_begin_26 rfl ?_
    refine a_ialdE (pc := 27) (M 4 x2) dX8_begin_27 rfl h.1.1 h.1.2 (mput_ne _ _ _ _ (by decide)) ?_
    replace h := h.2
    refine a_iast (pc := 28) dX8_begin_28 rfl h.1.1 h.1.2 ?_
    replace h := h.2
    refine a_aload_n (pc := 29) dX8_begin_29 rfl ?_
    refine a_getr (pc := 30) dX8_begin_30 f_X8_18 rfl ?_
    refine a_iload_n (pc := 33) dX8_begin_33 rfl ?_
    refine a_bipush (pc := 34) dX8_begin_34 (by decide) (cnb rfl) ?_
    refine a_iast (pc := 36) dX8_begin_36 rfl h.1.1 h.1.2 ?_
    replace h := h.2
    refine a_aload_n (pc := 37) dX8_begin_37 rfl ?_
    refine a_getr (pc := 38) dX8_begin_38 f_X8_21 rfl ?_
    refine a_iload_n (pc := 41) dX8_begin_41 rfl ?_
    refine a_iconst (pc := 42) dX8_begin_42 (cnb rfl) ?_
    refine a_iast (pc := 43) dX8_begin_43 rfl h.1.1 h.1.2 ?_
    replace h := h.2
    refine a_aload_n (pc := 44) dX8_begin_44 rfl ?_
    refine a_getr (pc := 45) dX8_begin_45 f_X8_24 rfl ?_
    refine a_iload_n (pc := 48) dX8_begin_48 rfl ?_
    refine a_iconst (pc := 49) dX8_begin_49 (cnb rfl) ?_
    refine a_iast (pc := 50) dX8_begin_50 rfl h.1.1 h.1.2 ?_
    replace h := h.2
    refine a_iinc (pc := 51) dX8_begin_51 rfl h.1 (Nat.le_of_ble_eq_true rfl) ?_
    replace h := h.2
    refine a_goto (pc := 54) 2 dX8_begin_54 rfl ?_
    exact h
set_option maxRecDepth 20000 in
theorem s_X11_bark_0 {Q : Int → Me → Prop}  (a : Int) (M : Me) (h :
    ((a < 1 →
    Q (-1) M) ∧ (1 ≤ a →
    ((160 < a →
    Q (-1) M) ∧ (a ≤ 160 →
    ((a ≤ M 1 1 →
    Calls 4 mX0_read [.inr 12, .inl a] M (fun r30 M30 =>
    ((r30 ≤ 0 →
    Q r30 (mput M30 1 1 0)) ∧ (0 < r30 →
    Calls 1 mX1_copyOf [.inr 3, .inr 13] (mput M30 1 1 0) (fun r56 M56 =>
    Calls 0 mX8_begin [.inr 37, .inr 3] M56 (fun r67 M67 =>
    Q r30 M67)))))) ∧ (M 1 1 < a →
    Q (-1) M))))))) :
    Go (km 5 mX11_bark Q) 0 [some (.inr 0), some (.inl a), none] [] M := by
  refine a_iload_n (pc := 0) dX11_bark_0 rfl ?_
  refine a_iconst (pc := 1) dX11_bark_1 (cnb rfl) ?_
  refine a_icmp_lt (pc := 2) 23 dX11_bark_2 rfl ⟨fun hc => ?_, fun hc => ?_⟩
  · replace h := h.1 hc
    refine a_iconst (pc := 23) dX11_bark_23 (cnb rfl) ?_
    exact a_iretI (pc := 24) dX11_bark_24 rfl h
  · replace h := h.2 hc
    refine a_iload_n (pc := 5) dX11_bark_5 rfl ?_
    refine a_sipush (pc := 6) dX11_bark_6 (by decide) (cnb rfl) ?_
    refine a_icmp_gt (pc := 9) 23 dX11_bark_9 rfl ⟨fun hc => ?_, fun hc => ?_⟩
    · replace h := h.1 hc
      refine a_iconst (pc := 23) dX11_bark_23 (cnb rfl) ?_
      exact a_iretI (pc := 24) dX11_bark_24 rfl h
    · replace h := h.2 hc
      refine a_iload_n (pc := 12) dX11_bark_12 rfl ?_
      refine a_aload_n (pc := 13) dX11_bark_13 rfl ?_
      refine a_getr (pc := 14) dX11_bark_14 f_X11_10 rfl ?_
      refine a_geti (pc := 17) 1 dX11_bark_17 f_X11_118 rfl rfl ?_
      refine a_icmp_le (pc := 20) 25 dX11_bark_20 rfl ⟨fun hc => ?_, fun hc => ?_⟩
      · replace h := h.1 hc
        refine a_aload_n (pc := 25) dX11_bark_25 rfl ?_
        refine a_getr (pc := 26) dX11_bark_26 f_X11_28 rfl ?_
        refine a_iload_n (pc := 29) dX11_bark_29 rfl ?_
        refine a_callVi (pc := 30) (d := 4) (st := []) (o := 12) [.inl a] dX11_bark_30 l_X11_139 in_X0_read se_X0_read rfl rfl rfl ⟨Nat.le_of_ble_eq_true rfl, Nat.le_of_ble_eq_true rfl⟩ ⟨Nat.le_of_ble_eq_true rfl, Nat.le_of_ble_eq_true rfl⟩ (Nat.le_of_ble_eq_true rfl) ?_
        refine Calls.mono (fun r30 M30 hr30 hM30 h => ?_) h
        refine a_istore_n (pc := 33) dX11_bark_33 (Nat.le_of_ble_eq_true rfl) ?_
        refine a_aload_n (pc := 34) dX11_bark_34 rfl ?_
        refine a_getr (pc := 35) dX11_bark_35 f_X11_10 rfl ?_
        refine a_callVv (pc := 38) (d := 0) (st := []) (o := 1) [] dX11_bark_38 l_X11_129 in_X9_clear se_X9_clear rfl rfl rfl ⟨Nat.le_of_ble_eq_true rfl, Nat.le_of_ble_eq_true rfl⟩ ⟨Nat.le_of_ble_eq_true rfl, Nat.le_of_ble_eq_true rfl⟩ (Nat.le_of_ble_eq_true rfl) ?_
        refine p_X9_clear ?_
        refine a_iload_n (pc := 41) dX11_bark_41 rfl ?_
        refine a_if_le (pc := 42) 70 dX11_bark_42 rfl ⟨fun hc => ?_, fun hc => ?_⟩
        · replace h := h.1 hc
          refine a_iload_n (pc := 70) dX11_bark_70 rfl ?_
          exact a_iretI (pc := 71) dX11_bark_71 rfl h
        · replace h := h.2 hc
          refine a_aload_n (pc := 45) dX11_bark_45 rfl ?_
          refine a_getr (pc := 46) dX11_bark_46 f_X11_19 rfl ?_
          refine a_aload_n (pc := 49) dX11_bark_49 rfl ?_
          refine a_getr (pc := 50) dX11_bark_50 f_X11_28 rfl ?_
          refine a_getr (pc := 53) dX11_bark_53 f_X11_140 rfl ?_
          refine a_callVv (pc := 56) (d := 1) (st := []) (o := 3) [.inr 13] dX11_bark_56 l_X11_142 in_X1_copyOf se_X1_copyOf rfl rfl rfl ⟨Nat.le_of_ble_eq_true rfl, Nat.le_of_ble_eq_true rfl⟩ ⟨Nat.le_of_ble_eq_true rfl, Nat.le_of_ble_eq_true rfl⟩ (Nat.le_of_ble_eq_true rfl) ?_
          refine Calls.mono (fun r56 M56 hr56 hM56 h => ?_) h
          refine a_aload_n (pc := 59) dX11_bark_59 rfl ?_
          refine a_getr (pc := 60) dX11_bark_60 f_X11_49 rfl ?_
          refine a_aload_n (pc := 63) dX11_bark_63 rfl ?_
          refine a_getr (pc := 64) dX11_bark_64 f_X11_19 rfl ?_
          refine a_callVv (pc := 67) (d := 0) (st := []) (o := 37) [.inr 3] dX11_bark_67 l_X11_145 in_X8_begin se_X8_begin rfl rfl rfl ⟨Nat.le_of_ble_eq_true rfl, Nat.le_of_ble_eq_true rfl⟩ ⟨Nat.le_of_ble_eq_true rfl, Nat.le_of_ble_eq_true rfl⟩ (Nat.le_of_ble_eq_true rfl) ?_
          refine Calls.mono (fun r67 M67 hr67 hM67 h => ?_) h
          refine a_iload_n (pc := 70) dX11_bark_70 rfl ?_
          exact a_iretI (pc := 71) dX11_bark_71 rfl h
      · replace h := h.2 hc
        refine a_iconst (pc := 23) dX11_bark_23 (cnb rfl) ?_
        exact a_iretI (pc := 24) dX11_bark_24 rfl h
set_option maxRecDepth 20000 in
theorem e_X11_bark {Q : Int → Me → Prop}  {a : Int} {M : Me} (h :
    ((a < 1 →
    Q (-1) M) ∧ (1 ≤ a →
    ((160 < a →
    Q (-1) M) ∧ (a ≤ 160 →
    ((a ≤ M 1 1 →
    Calls 4 mX0_read [.inr 12, .inl a] M (fun r30 M30 =>
    ((r30 ≤ 0 →
    Q r30 (mput M30 1 1 0)) ∧ (0 < r30 →
    Calls 1 mX1_copyOf [.inr 3, .inr 13] (mput M30 1 1 0) (fun r56 M56 =>
    Calls 0 mX8_begin [.inr 37, .inr 3] M56 (fun r67 M67 =>
    Q r30 M67)))))) ∧ (M 1 1 < a →
    Q (-1) M))))))) : Calls 5 mX11_bark [.inr 0, .inl a] M Q := Calls.of (by decide) (Nat.le_of_ble_eq_true rfl) (s_X11_bark_0  a M h)
set_option maxRecDepth 20000 in
theorem s_X12_bark_0 {Q : Int → Me → Prop}  (a : Int) (M : Me) (h :
    ((1 ≤ a ∧ a ≤ 160 →
    ((a ≤ M 76 13 →
    Calls 0 mX12_beginsText [.inr 76, .inl a] M (fun r23 M23 =>
    Calls 3 mX12_readsCut [.inr 76] (mput M23 76 43 0) (fun r32 M32 =>
    Go (km 4 mX12_bark Q) 36 [some (.inr 76), none, some (.inl r32), none] [] M32))) ∧ (M 76 13 < a →
    Q (-1) M))) ∧ (¬ (1 ≤ a ∧ a ≤ 160) →
    Q (-1) M))) :
    Go (km 4 mX12_bark Q) 0 [some (.inr 76), some (.inl a), none, none] [] M := by
  refine a_iload_n (pc := 0) dX12_bark_0 rfl ?_
  refine a_iconst (pc := 1) dX12_bark_1 (cnb rfl) ?_
  refine a_sipush (pc := 2) dX12_bark_2 (by decide) (cnb rfl) ?_
  refine a_callSi (pc := 5) (d := 0) (st := []) [.inl a, .inl 1, .inl 160] dX12_bark_5 l_X12_156 st_X12_in rfl ⟨Nat.le_of_ble_eq_true rfl, Nat.le_of_ble_eq_true rfl⟩ ⟨Nat.le_of_ble_eq_true rfl, Nat.le_of_ble_eq_true rfl⟩ (Nat.le_of_ble_eq_true rfl) ?_
  refine p_X12_in ⟨fun hc => ?_, fun hc => ?_⟩
  · replace h := h.1 hc
    refine a_if_eq (pc := 8) 19 dX12_bark_8 rfl ⟨fun hc => absurd hc (by decide), fun _ => ?_⟩
    refine a_iload_n (pc := 11) dX12_bark_11 rfl ?_
    refine a_aload_n (pc := 12) dX12_bark_12 rfl ?_
    refine a_geti (pc := 13) 13 dX12_bark_13 f_X12_168 rfl rfl ?_
    refine a_icmp_le (pc := 16) 21 dX12_bark_16 rfl ⟨fun hc => ?_, fun hc => ?_⟩
    · replace h := h.1 hc
      refine a_aload_n (pc := 21) dX12_bark_21 rfl ?_
      refine a_iload_n (pc := 22) dX12_bark_22 rfl ?_
      refine a_callVv (pc := 23) (d := 0) (st := []) (o := 76) [.inl a] dX12_bark_23 l_X12_259 in_X12_beginsText se_X12_beginsText rfl rfl rfl ⟨Nat.le_of_ble_eq_true rfl, Nat.le_of_ble_eq_true rfl⟩ ⟨Nat.le_of_ble_eq_true rfl, Nat.le_of_ble_eq_true rfl⟩ (Nat.le_of_ble_eq_true rfl) ?_
      refine Calls.mono (fun r23 M23 hr23 hM23 h => ?_) h
      refine a_aload_n (pc := 26) dX12_bark_26 rfl ?_
      refine a_iconst (pc := 27) dX12_bark_27 (cnb rfl) ?_
      refine a_puti (pc := 28) 43 dX12_bark_28 f_X12_285 rfl rfl (Or.inl rfl) ?_
      refine a_aload_n (pc := 31) dX12_bark_31 rfl ?_
      refine a_callVi (pc := 32) (d := 3) (st := []) (o := 76) [] dX12_bark_32 l_X12_297 in_X12_readsCut se_X12_readsCut rfl rfl rfl ⟨Nat.le_of_ble_eq_true rfl, Nat.le_of_ble_eq_true rfl⟩ ⟨Nat.le_of_ble_eq_true rfl, Nat.le_of_ble_eq_true rfl⟩ (Nat.le_of_ble_eq_true rfl) ?_
      refine Calls.mono (fun r32 M32 hr32 hM32 h => ?_) h
      refine a_istore_n (pc := 35) dX12_bark_35 (Nat.le_of_ble_eq_true rfl) ?_
      exact Go.weak h (And.intro rfl (And.intro rfl True.intro))
    · replace h := h.2 hc
      refine a_iconst (pc := 19) dX12_bark_19 (cnb rfl) ?_
      exact a_iretI (pc := 20) dX12_bark_20 rfl h
  · replace h := h.2 hc
    refine a_if_eq (pc := 8) 19 dX12_bark_8 rfl ⟨fun _ => ?_, fun hc => absurd hc (by decide)⟩
    refine a_iconst (pc := 19) dX12_bark_19 (cnb rfl) ?_
    exact a_iretI (pc := 20) dX12_bark_20 rfl h
set_option maxRecDepth 20000 in
theorem e_X12_bark {Q : Int → Me → Prop}  {a : Int} {M : Me} (h :
    ((1 ≤ a ∧ a ≤ 160 →
    ((a ≤ M 76 13 →
    Calls 0 mX12_beginsText [.inr 76, .inl a] M (fun r23 M23 =>
    Calls 3 mX12_readsCut [.inr 76] (mput M23 76 43 0) (fun r32 M32 =>
    Go (km 4 mX12_bark Q) 36 [some (.inr 76), none, some (.inl r32), none] [] M32))) ∧ (M 76 13 < a →
    Q (-1) M))) ∧ (¬ (1 ≤ a ∧ a ≤ 160) →
    Q (-1) M))) : Calls 4 mX12_bark [.inr 76, .inl a] M Q := Calls.of (by decide) (Nat.le_of_ble_eq_true rfl) (s_X12_bark_0  a M h)
set_option maxRecDepth 20000 in
theorem s_X12_bark_36 {Q : Int → Me → Prop}  (x2 : Int) (M : Me) (h :
    ((x2 = 0 →
    ((x2 ≠ 0 →
    Go (km 4 mX12_bark Q) 100 [some (.inr 76), none, none, some (.inl 0)] [] (mput (mput M 76 13 0) 76 11 (M 76 43))) ∧ (x2 = 0 →
    Q (M 76 16) (mput M 76 13 0)))) ∧ (x2 ≠ 0 →
    ((M 76 15 ≤ M 76 14 →
    ((x2 ≠ 0 →
    Go (km 4 mX12_bark Q) 100 [some (.inr 76), none, none, some (.inl 0)] [] (mput (mput M 76 13 0) 76 11 (M 76 43))) ∧ (x2 = 0 →
    Q (M 76 16) (mput M 76 13 0)))) ∧ (M 76 14 < M 76 15 →
    Calls 1 mX12_takes [.inr 76, .inl 59] M (fun r54 M54 =>
    ((r54 = 0 →
    Go (km 4 mX12_bark Q) 36 [some (.inr 76), none, some (.inl 0), none] [] M54) ∧ (r54 ≠ 0 →
    Calls 3 mX12_readsCut [.inr 76] M54 (fun r61 M61 =>
    ((r61 = 0 →
    Go (km 4 mX12_bark Q) 36 [some (.inr 76), none, some (.inl 0), none] [] M61) ∧ (r61 ≠ 0 →
    Go (km 4 mX12_bark Q) 36 [some (.inr 76), none, some (.inl 1), none] [] M61))))))))))) :
    Go (km 4 mX12_bark Q) 36 [some (.inr 76), none, some (.inl x2), none] [] M := by
  refine a_iload_n (pc := 36) dX12_bark_36 rfl ?_
  refine a_if_eq (pc := 37) 76 dX12_bark_37 rfl ⟨fun hc => ?_, fun hc => ?_⟩
  · replace h := h.1 hc
    refine a_aload_n (pc := 76) dX12_bark_76 rfl ?_
    refine a_iconst (pc := 77) dX12_bark_77 (cnb rfl) ?_
    refine a_puti (pc := 78) 13 dX12_bark_78 f_X12_168 rfl rfl (Or.inl rfl) ?_
    refine a_iload_n (pc := 81) dX12_bark_81 rfl ?_
    refine a_if_ne (pc := 82) 90 dX12_bark_82 rfl ⟨fun hc => ?_, fun hc => ?_⟩
    · replace h := h.1 hc
      refine a_aload_n (pc := 90) dX12_bark_90 rfl ?_
      refine a_aload_n (pc := 91) dX12_bark_91 rfl ?_
      refine a_getiE (pc := 92) (M 76 43) 43 dX12_bark_92 f_X12_285 rfl rfl (mput_ni _ _ _ _ (by decide)) ?_
      refine a_puti (pc := 95) 11 dX12_bark_95 f_X12_152 rfl rfl (Or.inl rfl) ?_
      refine a_iconst (pc := 98) dX12_bark_98 (cnb rfl) ?_
      refine a_istore_n (pc := 99) dX12_bark_99 (Nat.le_of_ble_eq_true rfl) ?_
      exact Go.weak h (And.intro rfl (And.intro rfl True.intro))
    · replace h := h.2 hc
      refine a_aload_n (pc := 85) dX12_bark_85 rfl ?_
      refine a_getiE (pc := 86) (M 76 16) 16 dX12_bark_86 f_X12_185 rfl rfl (mput_ni _ _ _ _ (by decide)) ?_
      exact a_iretI (pc := 89) dX12_bark_89 rfl h
  · replace h := h.2 hc
    refine a_aload_n (pc := 40) dX12_bark_40 rfl ?_
    refine a_geti (pc := 41) 14 dX12_bark_41 f_X12_175 rfl rfl ?_
    refine a_aload_n (pc := 44) dX12_bark_44 rfl ?_
    refine a_geti (pc := 45) 15 dX12_bark_45 f_X12_178 rfl rfl ?_
    refine a_icmp_ge (pc := 48) 76 dX12_bark_48 rfl ⟨fun hc => ?_, fun hc => ?_⟩
    · replace h := h.1 hc
      refine a_aload_n (pc := 76) dX12_bark_76 rfl ?_
      refine a_iconst (pc := 77) dX12_bark_77 (cnb rfl) ?_
      refine a_puti (pc := 78) 13 dX12_bark_78 f_X12_168 rfl rfl (Or.inl rfl) ?_
      refine a_iload_n (pc := 81) dX12_bark_81 rfl ?_
      refine a_if_ne (pc := 82) 90 dX12_bark_82 rfl ⟨fun hc => ?_, fun hc => ?_⟩
      · replace h := h.1 hc
        refine a_aload_n (pc := 90) dX12_bark_90 rfl ?_
        refine a_aload_n (pc := 91) dX12_bark_91 rfl ?_
        refine a_getiE (pc := 92) (M 76 43) 43 dX12_bark_92 f_X12_285 rfl rfl (mput_ni _ _ _ _ (by decide)) ?_
        refine a_puti (pc := 95) 11 dX12_bark_95 f_X12_152 rfl rfl (Or.inl rfl) ?_
        refine a_iconst (pc := 98) dX12_bark_98 (cnb rfl) ?_
        refine a_istore_n (pc := 99) dX12_bark_99 (Nat.le_of_ble_eq_true rfl) ?_
        exact Go.weak h (And.intro rfl (And.intro rfl True.intro))
      · replace h := h.2 hc
        refine a_aload_n (pc := 85) dX12_bark_85 rfl ?_
        refine a_getiE (pc := 86) (M 76 16) 16 dX12_bark_86 f_X12_185 rfl rfl (mput_ni _ _ _ _ (by decide)) ?_
        exact a_iretI (pc := 89) dX12_bark_89 rfl h
    · replace h := h.2 hc
      refine a_aload_n (pc := 51) dX12_bark_51 rfl ?_
      refine a_bipush (pc := 52) dX12_bark_52 (by decide) (cnb rfl) ?_
      refine a_callVi (pc := 54) (d := 1) (st := []) (o := 76) [.inl 59] dX12_bark_54 l_X12_265 in_X12_takes se_X12_takes rfl rfl rfl ⟨Nat.le_of_ble_eq_true rfl, Nat.le_of_ble_eq_true rfl⟩ ⟨Nat.le_of_ble_eq_true rfl, Nat.le_of_ble_eq_true rfl⟩ (Nat.le_of_ble_eq_true rfl) ?_
      refine Calls.mono (fun r54 M54 hr54 hM54 h => ?_) h
      refine a_if_eq (pc := 57) 71 dX12_bark_57 rfl ⟨fun hc => ?_, fun hc => ?_⟩
      · replace h := h.1 hc
        refine a_iconst (pc := 71) dX12_bark_71 (cnb rfl) ?_
        refine a_istore_n (pc := 72) dX12_bark_72 (Nat.le_of_ble_eq_true rfl) ?_
        refine a_goto (pc := 73) 36 dX12_bark_73 rfl ?_
        exact h
      · replace h := h.2 hc
        refine a_aload_n (pc := 60) dX12_bark_60 rfl ?_
        refine a_callVi (pc := 61) (d := 3) (st := []) (o := 76) [] dX12_bark_61 l_X12_297 in_X12_readsCut se_X12_readsCut rfl rfl rfl ⟨Nat.le_of_ble_eq_true rfl, Nat.le_of_ble_eq_true rfl⟩ ⟨Nat.le_of_ble_eq_true rfl, Nat.le_of_ble_eq_true rfl⟩ (Nat.le_of_ble_eq_true rfl) ?_
        refine Calls.mono (fun r61 M61 hr61 hM61 h => ?_) h
        refine a_if_eq (pc := 64) 71 dX12_bark_64 rfl ⟨fun hc => ?_, fun hc => ?_⟩
        · replace h := h.1 hc
          refine a_iconst (pc := 71) dX12_bark_71 (cnb rfl) ?_
          refine a_istore_n (pc := 72) dX12_bark_72 (Nat.le_of_ble_eq_true rfl) ?_
          refine a_goto (pc := 73) 36 dX12_bark_73 rfl ?_
          exact h
        · replace h := h.2 hc
          refine a_iconst (pc := 67) dX12_bark_67 (cnb rfl) ?_
          refine a_goto (pc := 68) 72 dX12_bark_68 rfl ?_
          refine a_istore_n (pc := 72) dX12_bark_72 (Nat.le_of_ble_eq_true rfl) ?_
          refine a_goto (pc := 73) 36 dX12_bark_73 rfl ?_
          exact h
set_option maxRecDepth 20000 in
theorem s_X12_bark_100 {Q : Int → Me → Prop}  (x3 : Int) (M : Me) (h :
    ((M 76 11 ≤ x3 →
    Q (M 76 11) M) ∧ (x3 < M 76 11 →
    (0 ≤ x3 ∧ x3 < 16) ∧
    (0 ≤ x3 ∧ x3 < 16) ∧
    (0 ≤ x3 ∧ x3 < 16) ∧
    (0 ≤ x3 ∧ x3 < 16) ∧
    (0 ≤ x3 ∧ x3 < 16) ∧
    (0 ≤ x3 ∧ x3 < 16) ∧
    (0 ≤ x3 ∧ x3 < 16) ∧
    (0 ≤ x3 ∧ x3 < 16) ∧
    (0 ≤ x3 ∧ x3 < 16) ∧
    (0 ≤ x3 ∧ x3 < 16) ∧
    (0 ≤ x3 ∧ x3 < 16) ∧
    (0 ≤ x3 ∧ x3 < 16) ∧
    (0 ≤ x3 ∧ x3 < 16) ∧
    (0 ≤ x3 ∧ x3 < 16) ∧
    (0 ≤ x3 ∧ x3 < 16) ∧
    (0 ≤ x3 ∧ x3 < 16) ∧
    cn (0 + x3) ∧
    (0 ≤ 0 + x3 ∧ 0 + x3 < 82) ∧
    cn (16 + x3) ∧
    (0 ≤ x3 ∧ x3 < 16) ∧
    (0 ≤ 16 + x3 ∧ 16 + x3 < 82) ∧
    cn (32 + x3) ∧
    (0 ≤ 32 + x3 ∧ 32 + x3 < 82) ∧
    cn (48 + x3) ∧
    (0 ≤ 48 + x3 ∧ 48 + x3 < 82) ∧
    cn (64 + x3) ∧
    (0 ≤ 64 + x3 ∧ 64 + x3 < 82) ∧
    cn (x3 + 1) ∧
    Go (km 4 mX12_bark Q) 100 [some (.inr 76), none, none, some (.inl (x3 + 1))] [] (mput (mput (mput (mput (mput (mput (mput (mput (mput (mput (mput (mput (mput M 80 x3 (M 102 x3)) 81 x3 (M 103 x3)) 82 x3 (M 104 x3)) 83 x3 (M 105 x3)) 84 x3 (M 106 x3)) 85 x3 (M 107 x3)) 86 x3 (M 108 x3)) 87 x3 (M 102 x3)) 77 (0 + x3) 0) 77 (16 + x3) (M 102 x3)) 77 (32 + x3) 99) 77 (48 + x3) 0) 77 (64 + x3) 0)))) :
    Go (km 4 mX12_bark Q) 100 [some (.inr 76), none, none, some (.inl x3)] [] M := by
  refine a_iload_n (pc := 100) dX12_bark_100 rfl ?_
  refine a_aload_n (pc := 101) dX12_bark_101 rfl ?_
  refine a_geti (pc := 102) 11 dX12_bark_102 f_X12_152 rfl rfl ?_
  refine a_icmp_ge (pc := 105) 265 dX12_bark_105 rfl ⟨fun hc => ?_, fun hc => ?_⟩
  · replace h := h.1 hc
    refine a_aload_n (pc := 265) dX12_bark_265 rfl ?_
    refine a_geti (pc := 266) 11 dX12_bark_266 f_X12_152 rfl rfl ?_
    exact a_iretI (pc := 269) dX12_bark_269 rfl h
  · replace h := h.2 hc
    refine a_aload_n (pc := 108) dX12_bark_108 rfl ?_
    refine a_getr (pc := 109) dX12_bark_109 f_X12_19 rfl ?_
    refine a_iload_n (pc := 112) dX12_bark_112 rfl ?_
    refine a_aload_n (pc := 113) dX12_bark_113 rfl ?_
    refine a_getr (pc := 114) dX12_bark_114 f_X12_86 rfl ?_
    refine a_iload_n (pc := 117) dX12_bark_117 rfl ?_
    refine a_iald (pc := 118) dX12_bark_118 rfl h.1.1 h.1.2  ?_
    replace h := h.2
    refine a_iast (pc := 119) dX12_bark_119 rfl h.1.1 h.1.2 ?_
    replace h := h.2
    refine a_aload_n (pc := 120) dX12_bark_120 rfl ?_
    refine a_getr (pc := 121) dX12_bark_121 f_X12_22 rfl ?_
    refine a_iload_n (pc := 124) dX12_bark_124 rfl ?_
    refine a_aload_n (pc := 125) dX12_bark_125 rfl ?_
    refine a_getr (pc := 126) dX12_bark_126 f_X12_89 rfl ?_
    refine a_iload_n (pc := 129) dX12_bark_129 rfl ?_
    refine a_ialdE (pc := 130) (M 103 x3) dX12_bark_130 rfl h.1.1 h.1.2 (mput_ne _ _ _ _ (by decide)) ?_
    replace h := h.2
    refine a_iast (pc := 131) dX12_bark_131 rfl h.1.1 h.1.2 ?_
    replace h := h.2
    refine a_aload_n (pc := 132) dX12_bark_132 rfl ?_
    refine a_getr (pc := 133) dX12_bark_133 f_X12_25 rfl ?_
    refine a_iload_n (pc := 136) dX12_bark_136 rfl ?_
    refine a_aload_n (pc := 137) dX12_bark_137 rfl ?_
    refine a_getr (pc := 138) dX12_bark_138 f_X12_92 rfl ?_
    refine a_iload_n (pc := 141) dX12_bark_141 rfl ?_
    refine a_ialdE (pc := 142) (M 104 x3) dX12_bark_142 rfl h.1.1 h.1.2 ((mput_ne _ _ _ _ (by decide)).trans (mput_ne _ _ _ _ (by decide))) ?_
    replace h := h.2
    refine a_iast (pc := 143) dX12_bark_143 rfl h.1.1 h.1.2 ?_
    replace h := h.2
    refine a_aload_n (pc := 144) dX12_bark_144 rfl ?_
    refine a_getr (pc := 145) dX12_bark_145 f_X12_28 rfl ?_
    refine a_iload_n (pc := 148) dX12_bark_148 rfl ?_
    refine a_aload_n (pc := 149) dX12_bark_149 rfl ?_
    refine a_getr (pc := 150) dX12_bark_150 f_X12_95 rfl ?_
    refine a_iload_n (pc := 153) dX12_bark_153 rfl ?_
    refine a_ialdE (pc := 154) (M 105 x3) dX12_bark_154 rfl h.1.1 h.1.2 ((mput_ne _ _ _ _ (by decide)).trans ((mput_ne _ _ _ _ (by decide)).trans (mput_ne _ _ _ _ (by decide)))) ?_
    replace h := h.2
    refine a_iast (pc := 155) dX12_bark_155 rfl h.1.1 h.1.2 ?_
    replace h := h.2
    refine a_aload_n (pc := 156) dX12_bark_156 rfl ?_
    refine a_getr (pc := 157) dX12_bark_157 f_X12_31 rfl ?_
    refine a_iload_n (pc := 160) dX12_bark_160 rfl ?_
    refine a_aload_n (pc := 161) dX12_bark_161 rfl ?_
    refine a_getr (pc := 162) dX12_bark_162 f_X12_98 rfl ?_
    refine a_iload_n (pc := 165) dX12_bark_165 rfl ?_
    refine a_ialdE (pc := 166) (M 106 x3) dX12_bark_166 rfl h.1.1 h.1.2 ((mput_ne _ _ _ _ (by decide)).trans ((mput_ne _ _ _ _ (by decide)).trans ((mput_ne _ _ _ _ (by decide)).trans (mput_ne _ _ _ _ (by decide))))) ?_
    replace h := h.2
    refine a_iast (pc := 167) dX12_bark_167 rfl h.1.1 h.1.2 ?_
    replace h := h.2
    refine a_aload_n (pc := 168) dX12_bark_168 rfl ?_
    refine a_getr (pc := 169) dX12_bark_169 f_X12_34 rfl ?_
    refine a_iload_n (pc := 172) dX12_bark_172 rfl ?_
    refine a_aload_n (pc := 173) dX12_bark_173 rfl ?_
    refine a_getr (pc := 174) dX12_bark_174 f_X12_101 rfl ?_
    refine a_iload_n (pc := 177) dX12_bark_177 rfl ?_
    refine a_ialdE (pc := 178) (M 107 x3) dX12_bark_178 rfl h.1.1 h.1.2 ((mput_ne _ _ _ _ (by decide)).trans ((mput_ne _ _ _ _ (by decide)).trans ((mput_ne _ _ _ _ (by decide)).trans ((mput_ne _ _ _ _ (by decide)).trans (mput_ne _ _ _ _ (by decide)))))) ?_
    replace h := h.2
    refine a_iast (pc := 179) dX12_bark_179 rfl h.1.1 h.1.2 ?_
    replace h := h.2
    refine a_aload_n (pc := 180) dX12_bark_180 rfl ?_
    refine a_getr (pc := 181) dX12_bark_181 f_X12_37 rfl ?_
    refine a_iload_n (pc := 184) dX12_bark_184 rfl ?_
    refine a_aload_n (pc := 185) dX12_bark_185 rfl ?_
    refine a_getr (pc := 186) dX12_bark_186 f_X12_104 rfl ?_
    refine a_iload_n (pc := 189) dX12_bark_189 rfl ?_
    refine a_ialdE (pc := 190) (M 108 x3) dX12_bark_190 rfl h.1.1 h.1.2 ((mput_ne _ _ _ _ (by decide)).trans ((mput_ne _ _ _ _ (by decide)).trans ((mput_ne _ _ _ _ (by decide)).trans ((mput_ne _ _ _ _ (by decide)).trans ((mput_ne _ _ _ _ (by decide)).trans (mput_ne _ _ _ _ (by decide))))))) ?_
    replace h := h.2
    refine a_iast (pc := 191) dX12_bark_191 rfl h.1.1 h.1.2 ?_
    replace h := h.2
    refine a_aload_n (pc := 192) dX12_bark_192 rfl ?_
    refine a_getr (pc := 193) dX12_bark_193 f_X12_40 rfl ?_
    refine a_iload_n (pc := 196) dX12_bark_196 rfl ?_
    refine a_aload_n (pc := 197) dX12_bark_197 rfl ?_
    refine a_getr (pc := 198) dX12_bark_198 f_X12_86 rfl ?_
    refine a_iload_n (pc := 201) dX12_bark_201 rfl ?_
    refine a_ialdE (pc := 202) (M 102 x3) dX12_bark_202 rfl h.1.1 h.1.2 ((mput_ne _ _ _ _ (by decide)).trans ((mput_ne _ _ _ _ (by decide)).trans ((mput_ne _ _ _ _ (by decide)).trans ((mput_ne _ _ _ _ (by decide)).trans ((mput_ne _ _ _ _ (by decide)).trans ((mput_ne _ _ _ _ (by decide)).trans (mput_ne _ _ _ _ (by decide)))))))) ?_
    replace h := h.2
    refine a_iast (pc := 203) dX12_bark_203 rfl h.1.1 h.1.2 ?_
    replace h := h.2
    refine a_aload_n (pc := 204) dX12_bark_204 rfl ?_
    refine a_getr (pc := 205) dX12_bark_205 f_X12_7 rfl ?_
    refine a_iconst (pc := 208) dX12_bark_208 (cnb rfl) ?_
    refine a_iload_n (pc := 209) dX12_bark_209 rfl ?_
    refine a_iadd (pc := 210) dX12_bark_210 h.1 ?_
    replace h := h.2
    refine a_iconst (pc := 211) dX12_bark_211 (cnb rfl) ?_
    refine a_iast (pc := 212) dX12_bark_212 rfl h.1.1 h.1.2 ?_
    replace h := h.2
    refine a_aload_n (pc := 213) dX12_bark_213 rfl ?_
    refine a_getr (pc := 214) dX12_bark_214 f_X12_7 rfl ?_
    refine a_bipush (pc := 217) dX12_bark_217 (by decide) (cnb rfl) ?_
    refine a_iload_n (pc := 219) dX12_bark_219 rfl ?_
    refine a_iadd (pc := 220) dX12_bark_220 h.1 ?_
    replace h := h.2
    refine a_aload_n (pc := 221) dX12_bark_221 rfl ?_
    refine a_getr (pc := 222) dX12_bark_222 f_X12_86 rfl ?_
    refine a_iload_n (pc := 225) dX12_bark_225 rfl ?_
    refine a_ialdE (pc := 226) (M 102 x3) dX12_bark_226 rfl h.1.1 h.1.2 ((mput_ne _ _ _ _ (by decide)).trans ((mput_ne _ _ _ _ (by decide)).trans ((mput_ne _ _ _ _ (by decide)).trans ((mput_ne _ _ _ _ (by decide)).trans ((mput_ne _ _ _ _ (by decide)).trans ((mput_ne _ _ _ _ (by decide)).trans ((mput_ne _ _ _ _ (by decide)).trans ((mput_ne _ _ _ _ (by decide)).trans (mput_ne _ _ _ _ (by decide)))))))))) ?_
    replace h := h.2
    refine a_iast (pc := 227) dX12_bark_227 rfl h.1.1 h.1.2 ?_
    replace h := h.2
    refine a_aload_n (pc := 228) dX12_bark_228 rfl ?_
    refine a_getr (pc := 229) dX12_bark_229 f_X12_7 rfl ?_
    refine a_bipush (pc := 232) dX12_bark_232 (by decide) (cnb rfl) ?_
    refine a_iload_n (pc := 234) dX12_bark_234 rfl ?_
    refine a_iadd (pc := 235) dX12_bark_235 h.1 ?_
    replace h := h.2
    refine a_bipush (pc := 236) dX12_bark_236 (by decide) (cnb rfl) ?_
    refine a_iast (pc := 238) dX12_bark_238 rfl h.1.1 h.1.2 ?_
    replace h := h.2
    refine a_aload_n (pc := 239) dX12_bark_239 rfl ?_
    refine a_getr (pc := 240) dX12_bark_240 f_X12_7 rfl ?_
    refine a_bipush (pc := 243) dX12_bark_243 (by decide) (cnb rfl) ?_
    refine a_iload_n (pc := 245) dX12_bark_245 rfl ?_
    refine a_iadd (pc := 246) dX12_bark_246 h.1 ?_
    replace h := h.2
    refine a_iconst (pc := 247) dX12_bark_247 (cnb rfl) ?_
    refine a_iast (pc := 248) dX12_bark_248 rfl h.1.1 h.1.2 ?_
    replace h := h.2
    refine a_aload_n (pc := 249) dX12_bark_249 rfl ?_
    refine a_getr (pc := 250) dX12_bark_250 f_X12_7 rfl ?_
    refine a_bipush (pc := 253) dX12_bark_253 (by decide) (cnb rfl) ?_
    refine a_iload_n (pc := 255) dX12_bark_255 rfl ?_
    refine a_iadd (pc := 256) dX12_bark_256 h.1 ?_
    replace h := h.2
    refine a_iconst (pc := 257) dX12_bark_257 (cnb rfl) ?_
    refine a_iast (pc := 258) dX12_bark_258 rfl h.1.1 h.1.2 ?_
    replace h := h.2
    refine a_iinc (pc := 259) dX12_bark_259 rfl h.1 (Nat.le_of_ble_eq_true rfl) ?_
    replace h := h.2
    refine a_goto (pc := 262) 100 dX12_bark_262 rfl ?_
    exact h
