set_option maxRecDepth 20000 in
theorem s_X10_aim_0 {Q : Int → Me → Prop} {o : Nat} (ho : isX8 o) (c : Int) (M : Me) (h :
    (0 ≤ c ∧ c < 16) ∧
    ((M (o + 5) c ≠ 1 →
    (0 ≤ c ∧ c < 16) ∧
    Q (M 11 c) M) ∧ (M (o + 5) c = 1 →
    (0 ≤ c ∧ c < 16) ∧
    Q (M 4 c) M))) :
    Go (km 0 mX10_aim Q) 0 [some (.inr 55), some (.inr o), some (.inl c)] [] M := by
  obtain ⟨ss_o, hs_o⟩ := ob_X8 ho
  refine a_aload_n (pc := 0) dX10_aim_0 rfl ?_
  refine a_getr (pc := 1) dX10_aim_1 f_X10_98 (fr_X8_4 ho) ?_
  refine a_iload_n (pc := 4) dX10_aim_4 rfl ?_
  refine a_iald (pc := 5) dX10_aim_5 (ar_X8_4 ho) h.1.1 h.1.2  ?_
  replace h := h.2
  refine a_iconst (pc := 6) dX10_aim_6 (cnb rfl) ?_
  refine a_icmp_ne (pc := 7) 22 dX10_aim_7 rfl ⟨fun hc => ?_, fun hc => ?_⟩
  · replace h := h.1 hc
    refine a_aload_n (pc := 22) dX10_aim_22 rfl ?_
    refine a_getr (pc := 23) dX10_aim_23 f_X10_9 rfl ?_
    refine a_getr (pc := 26) dX10_aim_26 f_X10_104 rfl ?_
    refine a_iload_n (pc := 29) dX10_aim_29 rfl ?_
    refine a_iald (pc := 30) dX10_aim_30 rfl h.1.1 h.1.2  ?_
    replace h := h.2
    exact a_iretI (pc := 31) dX10_aim_31 rfl h
  · replace h := h.2 hc
    refine a_aload_n (pc := 10) dX10_aim_10 rfl ?_
    refine a_getr (pc := 11) dX10_aim_11 f_X10_9 rfl ?_
    refine a_getr (pc := 14) dX10_aim_14 f_X10_101 rfl ?_
    refine a_iload_n (pc := 17) dX10_aim_17 rfl ?_
    refine a_iald (pc := 18) dX10_aim_18 rfl h.1.1 h.1.2  ?_
    replace h := h.2
    refine a_goto (pc := 19) 31 dX10_aim_19 rfl ?_
    exact a_iretI (pc := 31) dX10_aim_31 rfl h
set_option maxRecDepth 20000 in
theorem e_X10_aim {Q : Int → Me → Prop} {o : Nat} (ho : isX8 o) {c : Int} {M : Me} (h :
    (0 ≤ c ∧ c < 16) ∧
    ((M (o + 5) c ≠ 1 →
    (0 ≤ c ∧ c < 16) ∧
    Q (M 11 c) M) ∧ (M (o + 5) c = 1 →
    (0 ≤ c ∧ c < 16) ∧
    Q (M 4 c) M))) : Calls 0 mX10_aim [.inr 55, .inr o, .inl c] M Q := Calls.of (by decide) (Nat.le_of_ble_eq_true rfl) (s_X10_aim_0 ho c M h)
set_option maxRecDepth 20000 in
theorem s_X10_othersAt_0 {Q : Int → Me → Prop} {o : Nat} (ho : isX8 o) (c : Int) (M : Me) (h :
    Go (km 0 mX10_othersAt Q) 5 [some (.inr 55), some (.inr o), some (.inl c), some (.inl 0), some (.inl 0)] [] M) :
    Go (km 0 mX10_othersAt Q) 0 [some (.inr 55), some (.inr o), some (.inl c), none, none] [] M := by
  obtain ⟨ss_o, hs_o⟩ := ob_X8 ho
  refine a_iconst (pc := 0) dX10_othersAt_0 (cnb rfl) ?_
  refine a_istore_n (pc := 1) dX10_othersAt_1 (Nat.le_of_ble_eq_true rfl) ?_
  refine a_iconst (pc := 2) dX10_othersAt_2 (cnb rfl) ?_
  refine a_istore (pc := 3) dX10_othersAt_3 (Nat.le_of_ble_eq_true rfl) ?_
  exact h
set_option maxRecDepth 20000 in
theorem e_X10_othersAt {Q : Int → Me → Prop} {o : Nat} (ho : isX8 o) {c : Int} {M : Me} (h :
    Go (km 0 mX10_othersAt Q) 5 [some (.inr 55), some (.inr o), some (.inl c), some (.inl 0), some (.inl 0)] [] M) : Calls 0 mX10_othersAt [.inr 55, .inr o, .inl c] M Q := Calls.of (by decide) (Nat.le_of_ble_eq_true rfl) (s_X10_othersAt_0 ho c M h)
set_option maxRecDepth 20000 in
theorem s_X10_othersAt_5 {Q : Int → Me → Prop} {o : Nat} (ho : isX8 o) (x2 x3 x4 : Int) (M : Me) (h :
    ((M 3 8 ≤ x4 →
    Q x3 M) ∧ (x4 < M 3 8 →
    ((x4 = x2 →
    cn (x4 + 1) ∧
    Go (km 0 mX10_othersAt Q) 5 [some (.inr 55), some (.inr o), some (.inl x2), some (.inl x3), some (.inl (x4 + 1))] [] M) ∧ (x4 ≠ x2 →
    (0 ≤ x4 ∧ x4 < 16) ∧
    ((M (o + 1) x4 ≠ 2 →
    cn (x4 + 1) ∧
    Go (km 0 mX10_othersAt Q) 5 [some (.inr 55), some (.inr o), some (.inl x2), some (.inl x3), some (.inl (x4 + 1))] [] M) ∧ (M (o + 1) x4 = 2 →
    (0 ≤ x4 ∧ x4 < 16) ∧
    (0 ≤ x2 ∧ x2 < 16) ∧
    ((M (o + 2) x4 ≠ M (o + 2) x2 →
    cn (x4 + 1) ∧
    Go (km 0 mX10_othersAt Q) 5 [some (.inr 55), some (.inr o), some (.inl x2), some (.inl x3), some (.inl (x4 + 1))] [] M) ∧ (M (o + 2) x4 = M (o + 2) x2 →
    cn (x3 + 1) ∧
    cn (x4 + 1) ∧
    Go (km 0 mX10_othersAt Q) 5 [some (.inr 55), some (.inr o), some (.inl x2), some (.inl (x3 + 1)), some (.inl (x4 + 1))] [] M))))))))) :
    Go (km 0 mX10_othersAt Q) 5 [some (.inr 55), some (.inr o), some (.inl x2), some (.inl x3), some (.inl x4)] [] M := by
  obtain ⟨ss_o, hs_o⟩ := ob_X8 ho
  refine a_iload (pc := 5) dX10_othersAt_5 rfl ?_
  refine a_aload_n (pc := 7) dX10_othersAt_7 rfl ?_
  refine a_getr (pc := 8) dX10_othersAt_8 f_X10_9 rfl ?_
  refine a_geti (pc := 11) 8 dX10_othersAt_11 f_X10_32 rfl rfl ?_
  refine a_icmp_ge (pc := 14) 59 dX10_othersAt_14 rfl ⟨fun hc => ?_, fun hc => ?_⟩
  · replace h := h.1 hc
    refine a_iload_n (pc := 59) dX10_othersAt_59 rfl ?_
    exact a_iretI (pc := 60) dX10_othersAt_60 rfl h
  · replace h := h.2 hc
    refine a_iload (pc := 17) dX10_othersAt_17 rfl ?_
    refine a_iload_n (pc := 19) dX10_othersAt_19 rfl ?_
    refine a_icmp_eq (pc := 20) 53 dX10_othersAt_20 rfl ⟨fun hc => ?_, fun hc => ?_⟩
    · replace h := h.1 hc
      refine a_iinc (pc := 53) dX10_othersAt_53 rfl h.1 (Nat.le_of_ble_eq_true rfl) ?_
      replace h := h.2
      refine a_goto (pc := 56) 5 dX10_othersAt_56 rfl ?_
      exact h
    · replace h := h.2 hc
      refine a_aload_n (pc := 23) dX10_othersAt_23 rfl ?_
      refine a_getr (pc := 24) dX10_othersAt_24 f_X10_37 (fr_X8_0 ho) ?_
      refine a_iload (pc := 27) dX10_othersAt_27 rfl ?_
      refine a_iald (pc := 29) dX10_othersAt_29 (ar_X8_0 ho) h.1.1 h.1.2  ?_
      replace h := h.2
      refine a_iconst (pc := 30) dX10_othersAt_30 (cnb rfl) ?_
      refine a_icmp_ne (pc := 31) 53 dX10_othersAt_31 rfl ⟨fun hc => ?_, fun hc => ?_⟩
      · replace h := h.1 hc
        refine a_iinc (pc := 53) dX10_othersAt_53 rfl h.1 (Nat.le_of_ble_eq_true rfl) ?_
        replace h := h.2
        refine a_goto (pc := 56) 5 dX10_othersAt_56 rfl ?_
        exact h
      · replace h := h.2 hc
        refine a_aload_n (pc := 34) dX10_othersAt_34 rfl ?_
        refine a_getr (pc := 35) dX10_othersAt_35 f_X10_81 (fr_X8_1 ho) ?_
        refine a_iload (pc := 38) dX10_othersAt_38 rfl ?_
        refine a_iald (pc := 40) dX10_othersAt_40 (ar_X8_1 ho) h.1.1 h.1.2  ?_
        replace h := h.2
        refine a_aload_n (pc := 41) dX10_othersAt_41 rfl ?_
        refine a_getr (pc := 42) dX10_othersAt_42 f_X10_81 (fr_X8_1 ho) ?_
        refine a_iload_n (pc := 45) dX10_othersAt_45 rfl ?_
        refine a_iald (pc := 46) dX10_othersAt_46 (ar_X8_1 ho) h.1.1 h.1.2  ?_
        replace h := h.2
        refine a_icmp_ne (pc := 47) 53 dX10_othersAt_47 rfl ⟨fun hc => ?_, fun hc => ?_⟩
        · replace h := h.1 hc
          refine a_iinc (pc := 53) dX10_othersAt_53 rfl h.1 (Nat.le_of_ble_eq_true rfl) ?_
          replace h := h.2
          refine a_goto (pc := 56) 5 dX10_othersAt_56 rfl ?_
          exact h
        · replace h := h.2 hc
          refine a_iinc (pc := 50) dX10_othersAt_50 rfl h.1 (Nat.le_of_ble_eq_true rfl) ?_
          replace h := h.2
          refine a_iinc (pc := 53) dX10_othersAt_53 rfl h.1 (Nat.le_of_ble_eq_true rfl) ?_
          replace h := h.2
          refine a_goto (pc := 56) 5 dX10_othersAt_56 rfl ?_
          exact h
set_option maxRecDepth 20000 in
theorem s_X8_nextDraw_0 {Q : Int → Me → Prop} {o : Nat} (ho : isX8 o) (M : Me) (h :
    cn (25173 * (M o 6)) ∧
    cn ((25173 * (M o 6)) + 13849) ∧
    0 ≤ ((25173 * (M o 6)) + 13849) ∧
    0 ≤ (((25173 * (M o 6)) + 13849) % 65536) ∧
    Q ((((25173 * (M o 6)) + 13849) % 65536) % 10) (mput M o 6 (((25173 * (M o 6)) + 13849) % 65536))) :
    Go (km 0 mX8_nextDraw Q) 0 [some (.inr o)] [] M := by
  obtain ⟨ss_o, hs_o⟩ := ob_X8 ho
  refine a_aload_n (pc := 0) dX8_nextDraw_0 rfl ?_
  refine a_sipush (pc := 1) dX8_nextDraw_1 (by decide) (cnb rfl) ?_
  refine a_aload_n (pc := 4) dX8_nextDraw_4 rfl ?_
  refine a_geti (pc := 5) 6 dX8_nextDraw_5 f_X8_31 (fi_X8_6 ho) rfl ?_
  refine a_imul (pc := 8) dX8_nextDraw_8 h.1 ?_
  replace h := h.2
  refine a_sipush (pc := 9) dX8_nextDraw_9 (by decide) (cnb rfl) ?_
  refine a_iadd (pc := 12) dX8_nextDraw_12 h.1 ?_
  replace h := h.2
  refine a_ldc (pc := 13) (n := 65536) dX8_nextDraw_13 k_X8_57 (by decide) (cnb rfl) ?_
  refine a_iremn (pc := 15) dX8_nextDraw_15 (by decide) h.1 ?_
  replace h := h.2
  refine a_puti (pc := 16) 6 dX8_nextDraw_16 f_X8_31 (fi_X8_6 ho) rfl (Or.inl rfl) ?_
  refine a_aload_n (pc := 19) dX8_nextDraw_19 rfl ?_
  refine a_getiE (pc := 20) (((25173 * (M o 6)) + 13849) % 65536) 6 dX8_nextDraw_20 f_X8_31 (fi_X8_6 ho) rfl (mput_same _ _ _ _) ?_
  refine a_bipush (pc := 23) dX8_nextDraw_23 (by decide) (cnb rfl) ?_
  refine a_iremn (pc := 25) dX8_nextDraw_25 (by decide) h.1 ?_
  replace h := h.2
  exact a_iretI (pc := 26) dX8_nextDraw_26 rfl h
set_option maxRecDepth 20000 in
theorem e_X8_nextDraw {Q : Int → Me → Prop} {o : Nat} (ho : isX8 o) {M : Me} (h :
    cn (25173 * (M o 6)) ∧
    cn ((25173 * (M o 6)) + 13849) ∧
    0 ≤ ((25173 * (M o 6)) + 13849) ∧
    0 ≤ (((25173 * (M o 6)) + 13849) % 65536) ∧
    Q ((((25173 * (M o 6)) + 13849) % 65536) % 10) (mput M o 6 (((25173 * (M o 6)) + 13849) % 65536))) : Calls 0 mX8_nextDraw [.inr o] M Q := Calls.of (by decide) (Nat.le_of_ble_eq_true rfl) (s_X8_nextDraw_0 ho  M h)
set_option maxRecDepth 20000 in
theorem s_X10_tellValues_0 {Q : Int → Me → Prop} {o : Nat} (ho : isX8 o) (c : Int) (M : Me) (h :
    (0 ≤ c ∧ c < 16) ∧
    (0 ≤ c ∧ c < 16) ∧
    (0 ≤ c ∧ c < 16) ∧
    (0 ≤ c ∧ c < 16) ∧
    (0 ≤ c ∧ c < 16) ∧
    (0 ≤ c ∧ c < 16) ∧
    (0 ≤ c ∧ c < 16) ∧
    Calls 0 mX10_aim [.inr 55, .inr o, .inl c] (mput (mput (mput (mput (mput (mput (mput M 56 0 c) 56 1 (M (o + 1) c)) 56 2 (M (o + 3) c)) 56 3 (M 7 c)) 56 4 (M 8 c)) 56 5 (M 9 c)) 56 6 (M (o + 4) c)) (fun r104 M104 =>
    0 ≤ M (o + 2) c ∧
    0 ≤ r104 ∧
    Calls 0 mX10_othersAt [.inr 55, .inr o, .inl c] (mput M104 56 7 (dst (M (o + 2) c) r104)) (fun r120 M120 =>
    0 ≤ (M120 o 5) ∧
    Calls 0 mX8_nextDraw [.inr o] (mput (mput M120 56 8 r120) 56 9 ((M120 o 5) % 100)) (fun r145 M145 =>
    Q 0 (mput M145 56 10 r145))))) :
    Go (km 2 mX10_tellValues Q) 0 [some (.inr 55), some (.inr o), some (.inl c)] [] M := by
  obtain ⟨ss_o, hs_o⟩ := ob_X8 ho
  refine a_aload_n (pc := 0) dX10_tellValues_0 rfl ?_
  refine a_getr (pc := 1) dX10_tellValues_1 f_X10_19 rfl ?_
  refine a_iconst (pc := 4) dX10_tellValues_4 (cnb rfl) ?_
  refine a_iload_n (pc := 5) dX10_tellValues_5 rfl ?_
  refine a_iast (pc := 6) dX10_tellValues_6 rfl (by decide) (by decide) ?_
  refine a_aload_n (pc := 7) dX10_tellValues_7 rfl ?_
  refine a_getr (pc := 8) dX10_tellValues_8 f_X10_19 rfl ?_
  refine a_iconst (pc := 11) dX10_tellValues_11 (cnb rfl) ?_
  refine a_aload_n (pc := 12) dX10_tellValues_12 rfl ?_
  refine a_getr (pc := 13) dX10_tellValues_13 f_X10_37 (fr_X8_0 ho) ?_
  refine a_iload_n (pc := 16) dX10_tellValues_16 rfl ?_
  refine a_ialdE (pc := 17) (M (o + 1) c) dX10_tellValues_17 (ar_X8_0 ho) h.1.1 h.1.2 (mput_ne _ _ _ _ (by have := ho; unfold isX8 at this; omega)) ?_
  replace h := h.2
  refine a_iast (pc := 18) dX10_tellValues_18 rfl (by decide) (by decide) ?_
  refine a_aload_n (pc := 19) dX10_tellValues_19 rfl ?_
  refine a_getr (pc := 20) dX10_tellValues_20 f_X10_19 rfl ?_
  refine a_iconst (pc := 23) dX10_tellValues_23 (cnb rfl) ?_
  refine a_aload_n (pc := 24) dX10_tellValues_24 rfl ?_
  refine a_getr (pc := 25) dX10_tellValues_25 f_X10_66 (fr_X8_2 ho) ?_
  refine a_iload_n (pc := 28) dX10_tellValues_28 rfl ?_
  refine a_ialdE (pc := 29) (M (o + 3) c) dX10_tellValues_29 (ar_X8_2 ho) h.1.1 h.1.2 ((mput_ne _ _ _ _ (by have := ho; unfold isX8 at this; omega)).trans (mput_ne _ _ _ _ (by have := ho; unfold isX8 at this; omega))) ?_
  replace h := h.2
  refine a_iast (pc := 30) dX10_tellValues_30 rfl (by decide) (by decide) ?_
  refine a_aload_n (pc := 31) dX10_tellValues_31 rfl ?_
  refine a_getr (pc := 32) dX10_tellValues_32 f_X10_19 rfl ?_
  refine a_iconst (pc := 35) dX10_tellValues_35 (cnb rfl) ?_
  refine a_aload_n (pc := 36) dX10_tellValues_36 rfl ?_
  refine a_getr (pc := 37) dX10_tellValues_37 f_X10_9 rfl ?_
  refine a_getr (pc := 40) dX10_tellValues_40 f_X10_69 rfl ?_
  refine a_iload_n (pc := 43) dX10_tellValues_43 rfl ?_
  refine a_ialdE (pc := 44) (M 7 c) dX10_tellValues_44 rfl h.1.1 h.1.2 ((mput_ne _ _ _ _ (by decide)).trans ((mput_ne _ _ _ _ (by decide)).trans (mput_ne _ _ _ _ (by decide)))) ?_
  replace h := h.2
  refine a_iast (pc := 45) dX10_tellValues_45 rfl (by decide) (by decide) ?_
  refine a_aload_n (pc := 46) dX10_tellValues_46 rfl ?_
  refine a_getr (pc := 47) dX10_tellValues_47 f_X10_19 rfl ?_
  refine a_iconst (pc := 50) dX10_tellValues_50 (cnb rfl) ?_
  refine a_aload_n (pc := 51) dX10_tellValues_51 rfl ?_
  refine a_getr (pc := 52) dX10_tellValues_52 f_X10_9 rfl ?_
  refine a_getr (pc := 55) dX10_tellValues_55 f_X10_72 rfl ?_
  refine a_iload_n (pc := 58) dX10_tellValues_58 rfl ?_
  refine a_ialdE (pc := 59) (M 8 c) dX10_tellValues_59 rfl h.1.1 h.1.2 ((mput_ne _ _ _ _ (by decide)).trans ((mput_ne _ _ _ _ (by decide)).trans ((mput_ne _ _ _ _ (by decide)).trans (mput_ne _ _ _ _ (by decide))))) ?_
  replace h := h.2
  refine a_iast (pc := 60) dX10_tellValues_60 rfl (by decide) (by decide) ?_
  refine a_aload_n (pc := 61) dX10_tellValues_61 rfl ?_
  refine a_getr (pc := 62) dX10_tellValues_62 f_X10_19 rfl ?_
  refine a_iconst (pc := 65) dX10_tellValues_65 (cnb rfl) ?_
  refine a_aload_n (pc := 66) dX10_tellValues_66 rfl ?_
  refine a_getr (pc := 67) dX10_tellValues_67 f_X10_9 rfl ?_
  refine a_getr (pc := 70) dX10_tellValues_70 f_X10_75 rfl ?_
  refine a_iload_n (pc := 73) dX10_tellValues_73 rfl ?_
  refine a_ialdE (pc := 74) (M 9 c) dX10_tellValues_74 rfl h.1.1 h.1.2 ((mput_ne _ _ _ _ (by decide)).trans ((mput_ne _ _ _ _ (by decide)).trans ((mput_ne _ _ _ _ (by decide)).trans ((mput_ne _ _ _ _ (by decide)).trans (mput_ne _ _ _ _ (by decide)))))) ?_
  replace h := h.2
  refine a_iast (pc := 75) dX10_tellValues_75 rfl (by decide) (by decide) ?_
  refine a_aload_n (pc := 76) dX10_tellValues_76 rfl ?_
  refine a_getr (pc := 77) dX10_tellValues_77 f_X10_19 rfl ?_
  refine a_bipush (pc := 80) dX10_tellValues_80 (by decide) (cnb rfl) ?_
  refine a_aload_n (pc := 82) dX10_tellValues_82 rfl ?_
  refine a_getr (pc := 83) dX10_tellValues_83 f_X10_78 (fr_X8_3 ho) ?_
  refine a_iload_n (pc := 86) dX10_tellValues_86 rfl ?_
  refine a_ialdE (pc := 87) (M (o + 4) c) dX10_tellValues_87 (ar_X8_3 ho) h.1.1 h.1.2 ((mput_ne _ _ _ _ (by have := ho; unfold isX8 at this; omega)).trans ((mput_ne _ _ _ _ (by have := ho; unfold isX8 at this; omega)).trans ((mput_ne _ _ _ _ (by have := ho; unfold isX8 at this; omega)).trans ((mput_ne _ _ _ _ (by have := ho; unfold isX8 at this; omega)).trans ((mput_ne _ _ _ _ (by have := ho; unfold isX8 at this; omega)).trans (mput_ne _ _ _ _ (by have := ho; unfold isX8 at this; omega))))))) ?_
  replace h := h.2
  refine a_iast (pc := 88) dX10_tellValues_88 rfl (by decide) (by decide) ?_
  refine a_aload_n (pc := 89) dX10_tellValues_89 rfl ?_
  refine a_getr (pc := 90) dX10_tellValues_90 f_X10_19 rfl ?_
  refine a_bipush (pc := 93) dX10_tellValues_93 (by decide) (cnb rfl) ?_
  refine a_aload_n (pc := 95) dX10_tellValues_95 rfl ?_
  refine a_getr (pc := 96) dX10_tellValues_96 f_X10_81 (fr_X8_1 ho) ?_
  refine a_iload_n (pc := 99) dX10_tellValues_99 rfl ?_
  refine a_ialdE (pc := 100) (M (o + 2) c) dX10_tellValues_100 (ar_X8_1 ho) h.1.1 h.1.2 ((mput_ne _ _ _ _ (by have := ho; unfold isX8 at this; omega)).trans ((mput_ne _ _ _ _ (by have := ho; unfold isX8 at this; omega)).trans ((mput_ne _ _ _ _ (by have := ho; unfold isX8 at this; omega)).trans ((mput_ne _ _ _ _ (by have := ho; unfold isX8 at this; omega)).trans ((mput_ne _ _ _ _ (by have := ho; unfold isX8 at this; omega)).trans ((mput_ne _ _ _ _ (by have := ho; unfold isX8 at this; omega)).trans (mput_ne _ _ _ _ (by have := ho; unfold isX8 at this; omega)))))))) ?_
  replace h := h.2
  refine a_aload_n (pc := 101) dX10_tellValues_101 rfl ?_
  refine a_aload_n (pc := 102) dX10_tellValues_102 rfl ?_
  refine a_iload_n (pc := 103) dX10_tellValues_103 rfl ?_
  refine a_callVi (pc := 104) (d := 0) (st := [.inl (M (o + 2) c), .inl 7, .inr 56]) (o := 55) [.inr o, .inl c] dX10_tellValues_104 l_X10_84 in_X10_aim se_X10_aim rfl rfl rfl ⟨Nat.le_of_ble_eq_true rfl, Nat.le_of_ble_eq_true rfl⟩ ⟨Nat.le_of_ble_eq_true rfl, Nat.le_of_ble_eq_true rfl⟩ (Nat.le_of_ble_eq_true rfl) ?_
  refine Calls.mono (fun r104 M104 hr104 hM104 h => ?_) h
  refine a_callNi (pc := 107) (d := 1) (st := [.inl 7, .inr 56]) [.inl (M (o + 2) c), .inl r104] dX10_tellValues_107 l_X10_87 st_X11_steps rfl ⟨Nat.le_of_ble_eq_true rfl, Nat.le_of_ble_eq_true rfl⟩ ⟨Nat.le_of_ble_eq_true rfl, Nat.le_of_ble_eq_true rfl⟩ (Nat.le_of_ble_eq_true rfl) ?_
  have hp107_1 := h.1
  replace h := h.2
  have hp107_2 := h.1
  replace h := h.2
  refine p_X11_steps hp107_1 hp107_2 ?_
  refine a_iast (pc := 110) dX10_tellValues_110 rfl (by decide) (by decide) ?_
  refine a_aload_n (pc := 111) dX10_tellValues_111 rfl ?_
  refine a_getr (pc := 112) dX10_tellValues_112 f_X10_19 rfl ?_
  refine a_bipush (pc := 115) dX10_tellValues_115 (by decide) (cnb rfl) ?_
  refine a_aload_n (pc := 117) dX10_tellValues_117 rfl ?_
  refine a_aload_n (pc := 118) dX10_tellValues_118 rfl ?_
  refine a_iload_n (pc := 119) dX10_tellValues_119 rfl ?_
  refine a_callVi (pc := 120) (d := 0) (st := [.inl 8, .inr 56]) (o := 55) [.inr o, .inl c] dX10_tellValues_120 l_X10_91 in_X10_othersAt se_X10_othersAt rfl rfl rfl ⟨Nat.le_of_ble_eq_true rfl, Nat.le_of_ble_eq_true rfl⟩ ⟨Nat.le_of_ble_eq_true rfl, Nat.le_of_ble_eq_true rfl⟩ (Nat.le_of_ble_eq_true rfl) ?_
  refine Calls.mono (fun r120 M120 hr120 hM120 h => ?_) h
  refine a_iast (pc := 123) dX10_tellValues_123 rfl (by decide) (by decide) ?_
  refine a_aload_n (pc := 124) dX10_tellValues_124 rfl ?_
  refine a_getr (pc := 125) dX10_tellValues_125 f_X10_19 rfl ?_
  refine a_bipush (pc := 128) dX10_tellValues_128 (by decide) (cnb rfl) ?_
  refine a_aload_n (pc := 130) dX10_tellValues_130 rfl ?_
  refine a_getiE (pc := 131) (M120 o 5) 5 dX10_tellValues_131 f_X10_27 (fi_X8_5 ho) rfl (mput_ne _ _ _ _ (by have := ho; unfold isX8 at this; omega)) ?_
  refine a_bipush (pc := 134) dX10_tellValues_134 (by decide) (cnb rfl) ?_
  refine a_iremn (pc := 136) dX10_tellValues_136 (by decide) h.1 ?_
  replace h := h.2
  refine a_iast (pc := 137) dX10_tellValues_137 rfl (by decide) (by decide) ?_
  refine a_aload_n (pc := 138) dX10_tellValues_138 rfl ?_
  refine a_getr (pc := 139) dX10_tellValues_139 f_X10_19 rfl ?_
  refine a_bipush (pc := 142) dX10_tellValues_142 (by decide) (cnb rfl) ?_
  refine a_aload_n (pc := 144) dX10_tellValues_144 rfl ?_
  refine a_callVi (pc := 145) (d := 0) (st := [.inl 10, .inr 56]) (o := o) [] dX10_tellValues_145 l_X10_94 in_X8_nextDraw se_X8_nextDraw hs_o rfl rfl ⟨Nat.le_of_ble_eq_true rfl, Nat.le_of_ble_eq_true rfl⟩ ⟨Nat.le_of_ble_eq_true rfl, Nat.le_of_ble_eq_true rfl⟩ (Nat.le_of_ble_eq_true rfl) ?_
  refine Calls.mono (fun r145 M145 hr145 hM145 h => ?_) h
  refine a_iast (pc := 148) dX10_tellValues_148 rfl (by decide) (by decide) ?_
  exact a_ret (pc := 149) dX10_tellValues_149 rfl h
set_option maxRecDepth 20000 in
theorem e_X10_tellValues {Q : Int → Me → Prop} {o : Nat} (ho : isX8 o) {c : Int} {M : Me} (h :
    (0 ≤ c ∧ c < 16) ∧
    (0 ≤ c ∧ c < 16) ∧
    (0 ≤ c ∧ c < 16) ∧
    (0 ≤ c ∧ c < 16) ∧
    (0 ≤ c ∧ c < 16) ∧
    (0 ≤ c ∧ c < 16) ∧
    (0 ≤ c ∧ c < 16) ∧
    Calls 0 mX10_aim [.inr 55, .inr o, .inl c] (mput (mput (mput (mput (mput (mput (mput M 56 0 c) 56 1 (M (o + 1) c)) 56 2 (M (o + 3) c)) 56 3 (M 7 c)) 56 4 (M 8 c)) 56 5 (M 9 c)) 56 6 (M (o + 4) c)) (fun r104 M104 =>
    0 ≤ M (o + 2) c ∧
    0 ≤ r104 ∧
    Calls 0 mX10_othersAt [.inr 55, .inr o, .inl c] (mput M104 56 7 (dst (M (o + 2) c) r104)) (fun r120 M120 =>
    0 ≤ (M120 o 5) ∧
    Calls 0 mX8_nextDraw [.inr o] (mput (mput M120 56 8 r120) 56 9 ((M120 o 5) % 100)) (fun r145 M145 =>
    Q 0 (mput M145 56 10 r145))))) : Calls 2 mX10_tellValues [.inr 55, .inr o, .inl c] M Q := Calls.of (by decide) (Nat.le_of_ble_eq_true rfl) (s_X10_tellValues_0 ho c M h)
set_option maxRecDepth 20000 in
theorem s_X10_oneStep_0 {Q : Int → Me → Prop}  (a b : Int) (M : Me) (h :
    0 ≤ b ∧
    0 ≤ a ∧
    Calls 0 mJ6_compare_7cf53 [.inl (b % 24), .inl (a % 24)] M (fun r8 M8 =>
    0 ≤ b ∧
    0 ≤ a ∧
    Calls 0 mJ6_compare_7cf53 [.inl (b / 24), .inl (a / 24)] M8 (fun r20 M20 =>
    ((r8 = 0 →
    cn (24 * r20) ∧
    cn (a + (24 * r20)) ∧
    Q (a + (24 * r20)) M20) ∧ (r8 ≠ 0 →
    cn (a + r8) ∧
    Q (a + r8) M20))))) :
    Go (km 1 mX10_oneStep Q) 0 [some (.inl a), some (.inl b), none, none] [] M := by
  refine a_iload_n (pc := 0) dX10_oneStep_0 rfl ?_
  refine a_bipush (pc := 1) dX10_oneStep_1 (by decide) (cnb rfl) ?_
  refine a_iremn (pc := 3) dX10_oneStep_3 (by decide) h.1 ?_
  replace h := h.2
  refine a_iload_n (pc := 4) dX10_oneStep_4 rfl ?_
  refine a_bipush (pc := 5) dX10_oneStep_5 (by decide) (cnb rfl) ?_
  refine a_iremn (pc := 7) dX10_oneStep_7 (by decide) h.1 ?_
  replace h := h.2
  refine a_callSi (pc := 8) (d := 0) (st := []) [.inl (b % 24), .inl (a % 24)] dX10_oneStep_8 l_X10_113 st_J6_compare_7cf53 rfl ⟨Nat.le_of_ble_eq_true rfl, Nat.le_of_ble_eq_true rfl⟩ ⟨Nat.le_of_ble_eq_true rfl, Nat.le_of_ble_eq_true rfl⟩ (Nat.le_of_ble_eq_true rfl) ?_
  refine Calls.mono (fun r8 M8 hr8 hM8 h => ?_) h
  refine a_istore_n (pc := 11) dX10_oneStep_11 (Nat.le_of_ble_eq_true rfl) ?_
  refine a_iload_n (pc := 12) dX10_oneStep_12 rfl ?_
  refine a_bipush (pc := 13) dX10_oneStep_13 (by decide) (cnb rfl) ?_
  refine a_idivn (pc := 15) dX10_oneStep_15 (by decide) h.1 ?_
  replace h := h.2
  refine a_iload_n (pc := 16) dX10_oneStep_16 rfl ?_
  refine a_bipush (pc := 17) dX10_oneStep_17 (by decide) (cnb rfl) ?_
  refine a_idivn (pc := 19) dX10_oneStep_19 (by decide) h.1 ?_
  replace h := h.2
  refine a_callSi (pc := 20) (d := 0) (st := []) [.inl (b / 24), .inl (a / 24)] dX10_oneStep_20 l_X10_113 st_J6_compare_7cf53 rfl ⟨Nat.le_of_ble_eq_true rfl, Nat.le_of_ble_eq_true rfl⟩ ⟨Nat.le_of_ble_eq_true rfl, Nat.le_of_ble_eq_true rfl⟩ (Nat.le_of_ble_eq_true rfl) ?_
  refine Calls.mono (fun r20 M20 hr20 hM20 h => ?_) h
  refine a_istore_n (pc := 23) dX10_oneStep_23 (Nat.le_of_ble_eq_true rfl) ?_
  refine a_iload_n (pc := 24) dX10_oneStep_24 rfl ?_
  refine a_if_eq (pc := 25) 34 dX10_oneStep_25 rfl ⟨fun hc => ?_, fun hc => ?_⟩
  · replace h := h.1 hc
    refine a_iload_n (pc := 34) dX10_oneStep_34 rfl ?_
    refine a_bipush (pc := 35) dX10_oneStep_35 (by decide) (cnb rfl) ?_
    refine a_iload_n (pc := 37) dX10_oneStep_37 rfl ?_
    refine a_imul (pc := 38) dX10_oneStep_38 h.1 ?_
    replace h := h.2
    refine a_iadd (pc := 39) dX10_oneStep_39 h.1 ?_
    replace h := h.2
    exact a_iretI (pc := 40) dX10_oneStep_40 rfl h
  · replace h := h.2 hc
    refine a_iload_n (pc := 28) dX10_oneStep_28 rfl ?_
    refine a_iload_n (pc := 29) dX10_oneStep_29 rfl ?_
    refine a_iadd (pc := 30) dX10_oneStep_30 h.1 ?_
    replace h := h.2
    refine a_goto (pc := 31) 40 dX10_oneStep_31 rfl ?_
    exact a_iretI (pc := 40) dX10_oneStep_40 rfl h
set_option maxRecDepth 20000 in
theorem e_X10_oneStep {Q : Int → Me → Prop}  {a b : Int} {M : Me} (h :
    0 ≤ b ∧
    0 ≤ a ∧
    Calls 0 mJ6_compare_7cf53 [.inl (b % 24), .inl (a % 24)] M (fun r8 M8 =>
    0 ≤ b ∧
    0 ≤ a ∧
    Calls 0 mJ6_compare_7cf53 [.inl (b / 24), .inl (a / 24)] M8 (fun r20 M20 =>
    ((r8 = 0 →
    cn (24 * r20) ∧
    cn (a + (24 * r20)) ∧
    Q (a + (24 * r20)) M20) ∧ (r8 ≠ 0 →
    cn (a + r8) ∧
    Q (a + r8) M20))))) : Calls 1 mX10_oneStep [.inl a, .inl b] M Q := Calls.of (by decide) (Nat.le_of_ble_eq_true rfl) (s_X10_oneStep_0  a b M h)
set_option maxRecDepth 20000 in
theorem s_X10_turn_0 {Q : Int → Me → Prop} {o : Nat} (ho : isX8 o) (c : Int) (M : Me) (h :
    (0 ≤ c ∧ c < 16) ∧
    Calls 0 mX10_aim [.inr 55, .inr o, .inl c] M (fun r9 M9 =>
    ((M (o + 2) c = r9 →
    (0 ≤ c ∧ c < 16) ∧
    cn (1 - (M9 (o + 5) c)) ∧
    (0 ≤ c ∧ c < 16) ∧
    (0 ≤ c ∧ c < 16) ∧
    ((1 - (M9 (o + 5) c) ≠ 0 →
    (0 ≤ c ∧ c < 16) ∧
    cn ((M9 (o + 4) c) + 1) ∧
    (0 ≤ c ∧ c < 16) ∧
    (0 ≤ c ∧ c < 16) ∧
    Q 1 (mput (mput (mput M9 (o + 5) c (1 - (M9 (o + 5) c))) (o + 4) c (min ((M9 (o + 4) c) + 1) 9999)) (o + 3) c 99)) ∧ (1 - (M9 (o + 5) c) = 0 →
    Q 0 (mput M9 (o + 5) c (1 - (M9 (o + 5) c)))))) ∧ (M (o + 2) c ≠ r9 →
    Q 0 M9)))) :
    Go (km 1 mX10_turn Q) 0 [some (.inr 55), some (.inr o), some (.inl c)] [] M := by
  obtain ⟨ss_o, hs_o⟩ := ob_X8 ho
  refine a_aload_n (pc := 0) dX10_turn_0 rfl ?_
  refine a_getr (pc := 1) dX10_turn_1 f_X10_81 (fr_X8_1 ho) ?_
  refine a_iload_n (pc := 4) dX10_turn_4 rfl ?_
  refine a_iald (pc := 5) dX10_turn_5 (ar_X8_1 ho) h.1.1 h.1.2  ?_
  replace h := h.2
  refine a_aload_n (pc := 6) dX10_turn_6 rfl ?_
  refine a_aload_n (pc := 7) dX10_turn_7 rfl ?_
  refine a_iload_n (pc := 8) dX10_turn_8 rfl ?_
  refine a_callVi (pc := 9) (d := 0) (st := [.inl (M (o + 2) c)]) (o := 55) [.inr o, .inl c] dX10_turn_9 l_X10_84 in_X10_aim se_X10_aim rfl rfl rfl ⟨Nat.le_of_ble_eq_true rfl, Nat.le_of_ble_eq_true rfl⟩ ⟨Nat.le_of_ble_eq_true rfl, Nat.le_of_ble_eq_true rfl⟩ (Nat.le_of_ble_eq_true rfl) ?_
  refine Calls.mono (fun r9 M9 hr9 hM9 h => ?_) h
  refine a_icmp_eq (pc := 12) 17 dX10_turn_12 rfl ⟨fun hc => ?_, fun hc => ?_⟩
  · replace h := h.1 hc
    refine a_aload_n (pc := 17) dX10_turn_17 rfl ?_
    refine a_getr (pc := 18) dX10_turn_18 f_X10_98 (fr_X8_4 ho) ?_
    refine a_iload_n (pc := 21) dX10_turn_21 rfl ?_
    refine a_iconst (pc := 22) dX10_turn_22 (cnb rfl) ?_
    refine a_aload_n (pc := 23) dX10_turn_23 rfl ?_
    refine a_getr (pc := 24) dX10_turn_24 f_X10_98 (fr_X8_4 ho) ?_
    refine a_iload_n (pc := 27) dX10_turn_27 rfl ?_
    refine a_iald (pc := 28) dX10_turn_28 (ar_X8_4 ho) h.1.1 h.1.2  ?_
    replace h := h.2
    refine a_isub (pc := 29) dX10_turn_29 h.1 ?_
    replace h := h.2
    refine a_iast (pc := 30) dX10_turn_30 (ar_X8_4 ho) h.1.1 h.1.2 ?_
    replace h := h.2
    refine a_aload_n (pc := 31) dX10_turn_31 rfl ?_
    refine a_getr (pc := 32) dX10_turn_32 f_X10_98 (fr_X8_4 ho) ?_
    refine a_iload_n (pc := 35) dX10_turn_35 rfl ?_
    refine a_ialdE (pc := 36) (1 - (M9 (o + 5) c)) dX10_turn_36 (ar_X8_4 ho) h.1.1 h.1.2 (mput_same _ _ _ _) ?_
    replace h := h.2
    refine a_if_ne (pc := 37) 42 dX10_turn_37 rfl ⟨fun hc => ?_, fun hc => ?_⟩
    · replace h := h.1 hc
      refine a_aload_n (pc := 42) dX10_turn_42 rfl ?_
      refine a_getr (pc := 43) dX10_turn_43 f_X10_78 (fr_X8_3 ho) ?_
      refine a_iload_n (pc := 46) dX10_turn_46 rfl ?_
      refine a_aload_n (pc := 47) dX10_turn_47 rfl ?_
      refine a_getr (pc := 48) dX10_turn_48 f_X10_78 (fr_X8_3 ho) ?_
      refine a_iload_n (pc := 51) dX10_turn_51 rfl ?_
      refine a_ialdE (pc := 52) (M9 (o + 4) c) dX10_turn_52 (ar_X8_3 ho) h.1.1 h.1.2 (mput_ne _ _ _ _ (by omega)) ?_
      replace h := h.2
      refine a_iconst (pc := 53) dX10_turn_53 (cnb rfl) ?_
      refine a_iadd (pc := 54) dX10_turn_54 h.1 ?_
      replace h := h.2
      refine a_sipush (pc := 55) dX10_turn_55 (by decide) (cnb rfl) ?_
      refine a_mmin (pc := 58) dX10_turn_58 ml_X10_118 mt_st_min mt_ini mt_cd_min ⟨Nat.le_of_ble_eq_true rfl, Nat.le_of_ble_eq_true rfl⟩ ⟨Nat.le_of_ble_eq_true rfl, Nat.le_of_ble_eq_true rfl⟩ (Nat.le_of_ble_eq_true rfl) ?_
      refine a_iast (pc := 61) dX10_turn_61 (ar_X8_3 ho) h.1.1 h.1.2 ?_
      replace h := h.2
      refine a_aload_n (pc := 62) dX10_turn_62 rfl ?_
      refine a_getr (pc := 63) dX10_turn_63 f_X10_66 (fr_X8_2 ho) ?_
      refine a_iload_n (pc := 66) dX10_turn_66 rfl ?_
      refine a_bipush (pc := 67) dX10_turn_67 (by decide) (cnb rfl) ?_
      refine a_iast (pc := 69) dX10_turn_69 (ar_X8_2 ho) h.1.1 h.1.2 ?_
      replace h := h.2
      refine a_iconst (pc := 70) dX10_turn_70 (cnb rfl) ?_
      exact a_iretI (pc := 71) dX10_turn_71 rfl h
    · replace h := h.2 hc
      refine a_iconst (pc := 40) dX10_turn_40 (cnb rfl) ?_
      exact a_iretI (pc := 41) dX10_turn_41 rfl h
  · replace h := h.2 hc
    refine a_iconst (pc := 15) dX10_turn_15 (cnb rfl) ?_
    exact a_iretI (pc := 16) dX10_turn_16 rfl h
set_option maxRecDepth 20000 in
theorem e_X10_turn {Q : Int → Me → Prop} {o : Nat} (ho : isX8 o) {c : Int} {M : Me} (h :
    (0 ≤ c ∧ c < 16) ∧
    Calls 0 mX10_aim [.inr 55, .inr o, .inl c] M (fun r9 M9 =>
    ((M (o + 2) c = r9 →
    (0 ≤ c ∧ c < 16) ∧
    cn (1 - (M9 (o + 5) c)) ∧
    (0 ≤ c ∧ c < 16) ∧
    (0 ≤ c ∧ c < 16) ∧
    ((1 - (M9 (o + 5) c) ≠ 0 →
    (0 ≤ c ∧ c < 16) ∧
    cn ((M9 (o + 4) c) + 1) ∧
    (0 ≤ c ∧ c < 16) ∧
    (0 ≤ c ∧ c < 16) ∧
    Q 1 (mput (mput (mput M9 (o + 5) c (1 - (M9 (o + 5) c))) (o + 4) c (min ((M9 (o + 4) c) + 1) 9999)) (o + 3) c 99)) ∧ (1 - (M9 (o + 5) c) = 0 →
    Q 0 (mput M9 (o + 5) c (1 - (M9 (o + 5) c)))))) ∧ (M (o + 2) c ≠ r9 →
    Q 0 M9)))) : Calls 1 mX10_turn [.inr 55, .inr o, .inl c] M Q := Calls.of (by decide) (Nat.le_of_ble_eq_true rfl) (s_X10_turn_0 ho c M h)
set_option maxRecDepth 20000 in
theorem s_X10_goAbout_0 {Q : Int → Me → Prop} {o : Nat} (ho : isX8 o) (c a : Int) (M : Me) (h :
    (0 ≤ c ∧ c < 16) ∧
    ((M 8 c ≠ 1 →
    (0 ≤ c ∧ c < 16) ∧
    cn (a + (M 9 c)) ∧
    Calls 1 mX10_turn [.inr 55, .inr o, .inl c] M (fun r35 M35 =>
    Go (km 2 mX10_goAbout Q) 43 [some (.inr 55), some (.inr o), some (.inl c), none, some (.inl (a + (M 9 c))), some (.inl r35), some (.inl 0)] [] M35)) ∧ (M 8 c = 1 →
    0 ≤ a ∧
    (0 ≤ c ∧ c < 16) ∧
    cn ((a / 2) + (M 9 c)) ∧
    Calls 1 mX10_turn [.inr 55, .inr o, .inl c] M (fun r35 M35 =>
    Go (km 2 mX10_goAbout Q) 43 [some (.inr 55), some (.inr o), some (.inl c), none, some (.inl ((a / 2) + (M 9 c))), some (.inl r35), some (.inl 0)] [] M35)))) :
    Go (km 2 mX10_goAbout Q) 0 [some (.inr 55), some (.inr o), some (.inl c), some (.inl a), none, none, none] [] M := by
  obtain ⟨ss_o, hs_o⟩ := ob_X8 ho
  refine a_aload_n (pc := 0) dX10_goAbout_0 rfl ?_
  refine a_getr (pc := 1) dX10_goAbout_1 f_X10_9 rfl ?_
  refine a_getr (pc := 4) dX10_goAbout_4 f_X10_72 rfl ?_
  refine a_iload_n (pc := 7) dX10_goAbout_7 rfl ?_
  refine a_iald (pc := 8) dX10_goAbout_8 rfl h.1.1 h.1.2  ?_
  replace h := h.2
  refine a_iconst (pc := 9) dX10_goAbout_9 (cnb rfl) ?_
  refine a_icmp_ne (pc := 10) 19 dX10_goAbout_10 rfl ⟨fun hc => ?_, fun hc => ?_⟩
  · replace h := h.1 hc
    refine a_iload_n (pc := 19) dX10_goAbout_19 rfl ?_
    refine a_aload_n (pc := 20) dX10_goAbout_20 rfl ?_
    refine a_getr (pc := 21) dX10_goAbout_21 f_X10_9 rfl ?_
    refine a_getr (pc := 24) dX10_goAbout_24 f_X10_75 rfl ?_
    refine a_iload_n (pc := 27) dX10_goAbout_27 rfl ?_
    refine a_iald (pc := 28) dX10_goAbout_28 rfl h.1.1 h.1.2  ?_
    replace h := h.2
    refine a_iadd (pc := 29) dX10_goAbout_29 h.1 ?_
    replace h := h.2
    refine a_istore (pc := 30) dX10_goAbout_30 (Nat.le_of_ble_eq_true rfl) ?_
    refine a_aload_n (pc := 32) dX10_goAbout_32 rfl ?_
    refine a_aload_n (pc := 33) dX10_goAbout_33 rfl ?_
    refine a_iload_n (pc := 34) dX10_goAbout_34 rfl ?_
    refine a_callVi (pc := 35) (d := 1) (st := []) (o := 55) [.inr o, .inl c] dX10_goAbout_35 l_X10_107 in_X10_turn se_X10_turn rfl rfl rfl ⟨Nat.le_of_ble_eq_true rfl, Nat.le_of_ble_eq_true rfl⟩ ⟨Nat.le_of_ble_eq_true rfl, Nat.le_of_ble_eq_true rfl⟩ (Nat.le_of_ble_eq_true rfl) ?_
    refine Calls.mono (fun r35 M35 hr35 hM35 h => ?_) h
    refine a_istore (pc := 38) dX10_goAbout_38 (Nat.le_of_ble_eq_true rfl) ?_
    refine a_iconst (pc := 40) dX10_goAbout_40 (cnb rfl) ?_
    refine a_istore (pc := 41) dX10_goAbout_41 (Nat.le_of_ble_eq_true rfl) ?_
    exact Go.weak h (And.intro rfl (And.intro rfl (And.intro rfl (And.intro rfl (And.intro rfl (And.intro rfl True.intro))))))
  · replace h := h.2 hc
    refine a_iload_n (pc := 13) dX10_goAbout_13 rfl ?_
    refine a_iconst (pc := 14) dX10_goAbout_14 (cnb rfl) ?_
    refine a_idivn (pc := 15) dX10_goAbout_15 (by decide) h.1 ?_
    replace h := h.2
    refine a_goto (pc := 16) 20 dX10_goAbout_16 rfl ?_
    refine a_aload_n (pc := 20) dX10_goAbout_20 rfl ?_
    refine a_getr (pc := 21) dX10_goAbout_21 f_X10_9 rfl ?_
    refine a_getr (pc := 24) dX10_goAbout_24 f_X10_75 rfl ?_
    refine a_iload_n (pc := 27) dX10_goAbout_27 rfl ?_
    refine a_iald (pc := 28) dX10_goAbout_28 rfl h.1.1 h.1.2  ?_
    replace h := h.2
    refine a_iadd (pc := 29) dX10_goAbout_29 h.1 ?_
    replace h := h.2
    refine a_istore (pc := 30) dX10_goAbout_30 (Nat.le_of_ble_eq_true rfl) ?_
    refine a_aload_n (pc := 32) dX10_goAbout_32 rfl ?_
    refine a_aload_n (pc := 33) dX10_goAbout_33 rfl ?_
    refine a_iload_n (pc := 34) dX10_goAbout_34 rfl ?_
    refine a_callVi (pc := 35) (d := 1) (st := []) (o := 55) [.inr o, .inl c] dX10_goAbout_35 l_X10_107 in_X10_turn se_X10_turn rfl rfl rfl ⟨Nat.le_of_ble_eq_true rfl, Nat.le_of_ble_eq_true rfl⟩ ⟨Nat.le_of_ble_eq_true rfl, Nat.le_of_ble_eq_true rfl⟩ (Nat.le_of_ble_eq_true rfl) ?_
    refine Calls.mono (fun r35 M35 hr35 hM35 h => ?_) h
    refine a_istore (pc := 38) dX10_goAbout_38 (Nat.le_of_ble_eq_true rfl) ?_
    refine a_iconst (pc := 40) dX10_goAbout_40 (cnb rfl) ?_
    refine a_istore (pc := 41) dX10_goAbout_41 (Nat.le_of_ble_eq_true rfl) ?_
    exact Go.weak h (And.intro rfl (And.intro rfl (And.intro rfl (And.intro rfl (And.intro rfl (And.intro rfl True.intro))))))
set_option maxRecDepth 20000 in
theorem e_X10_goAbout {Q : Int → Me → Prop} {o : Nat} (ho : isX8 o) {c a : Int} {M : Me} (h :
    (0 ≤ c ∧ c < 16) ∧
    ((M 8 c ≠ 1 →
    (0 ≤ c ∧ c < 16) ∧
    cn (a + (M 9 c)) ∧
    Calls 1 mX10_turn [.inr 55, .inr o, .inl c] M (fun r35 M35 =>
    Go (km 2 mX10_goAbout Q) 43 [some (.inr 55), some (.inr o), some (.inl c), none, some (.inl (a + (M 9 c))), some (.inl r35), some (.inl 0)] [] M35)) ∧ (M 8 c = 1 →
    0 ≤ a ∧
    (0 ≤ c ∧ c < 16) ∧
    cn ((a / 2) + (M 9 c)) ∧
    Calls 1 mX10_turn [.inr 55, .inr o, .inl c] M (fun r35 M35 =>
    Go (km 2 mX10_goAbout Q) 43 [some (.inr 55), some (.inr o), some (.inl c), none, some (.inl ((a / 2) + (M 9 c))), some (.inl r35), some (.inl 0)] [] M35)))) : Calls 2 mX10_goAbout [.inr 55, .inr o, .inl c, .inl a] M Q := Calls.of (by decide) (Nat.le_of_ble_eq_true rfl) (s_X10_goAbout_0 ho c a M h)
set_option maxRecDepth 20000 in
theorem s_X10_goAbout_43 {Q : Int → Me → Prop} {o : Nat} (ho : isX8 o) (x2 x4 x5 x6 : Int) (M : Me) (h :
    ((x4 ≤ x6 →
    Q x5 M) ∧ (x6 < x4 →
    (0 ≤ x2 ∧ x2 < 16) ∧
    Calls 0 mX10_aim [.inr 55, .inr o, .inl x2] M (fun r64 M64 =>
    Calls 1 mX10_oneStep [.inl (M (o + 2) x2), .inl r64] M64 (fun r67 M67 =>
    (0 ≤ x2 ∧ x2 < 16) ∧
    Calls 1 mX10_turn [.inr 55, .inr o, .inl x2] (mput M67 (o + 2) x2 r67) (fun r76 M76 =>
    cn (x5 + r76) ∧
    cn (x6 + 1) ∧
    Go (km 2 mX10_goAbout Q) 43 [some (.inr 55), some (.inr o), some (.inl x2), none, some (.inl x4), some (.inl (x5 + r76)), some (.inl (x6 + 1))] [] M76)))))) :
    Go (km 2 mX10_goAbout Q) 43 [some (.inr 55), some (.inr o), some (.inl x2), none, some (.inl x4), some (.inl x5), some (.inl x6)] [] M := by
  obtain ⟨ss_o, hs_o⟩ := ob_X8 ho
  refine a_iload (pc := 43) dX10_goAbout_43 rfl ?_
  refine a_iload (pc := 45) dX10_goAbout_45 rfl ?_
  refine a_icmp_ge (pc := 47) 88 dX10_goAbout_47 rfl ⟨fun hc => ?_, fun hc => ?_⟩
  · replace h := h.1 hc
    refine a_iload (pc := 88) dX10_goAbout_88 rfl ?_
    exact a_iretI (pc := 90) dX10_goAbout_90 rfl h
  · replace h := h.2 hc
    refine a_aload_n (pc := 50) dX10_goAbout_50 rfl ?_
    refine a_getr (pc := 51) dX10_goAbout_51 f_X10_81 (fr_X8_1 ho) ?_
    refine a_iload_n (pc := 54) dX10_goAbout_54 rfl ?_
    refine a_aload_n (pc := 55) dX10_goAbout_55 rfl ?_
    refine a_getr (pc := 56) dX10_goAbout_56 f_X10_81 (fr_X8_1 ho) ?_
    refine a_iload_n (pc := 59) dX10_goAbout_59 rfl ?_
    refine a_iald (pc := 60) dX10_goAbout_60 (ar_X8_1 ho) h.1.1 h.1.2  ?_
    replace h := h.2
    refine a_aload_n (pc := 61) dX10_goAbout_61 rfl ?_
    refine a_aload_n (pc := 62) dX10_goAbout_62 rfl ?_
    refine a_iload_n (pc := 63) dX10_goAbout_63 rfl ?_
    refine a_callVi (pc := 64) (d := 0) (st := [.inl (M (o + 2) x2), .inl x2, .inr (o + 2)]) (o := 55) [.inr o, .inl x2] dX10_goAbout_64 l_X10_84 in_X10_aim se_X10_aim rfl rfl rfl ⟨Nat.le_of_ble_eq_true rfl, Nat.le_of_ble_eq_true rfl⟩ ⟨Nat.le_of_ble_eq_true rfl, Nat.le_of_ble_eq_true rfl⟩ (Nat.le_of_ble_eq_true rfl) ?_
    refine Calls.mono (fun r64 M64 hr64 hM64 h => ?_) h
    refine a_callSi (pc := 67) (d := 1) (st := [.inl x2, .inr (o + 2)]) [.inl (M (o + 2) x2), .inl r64] dX10_goAbout_67 l_X10_110 st_X10_oneStep rfl ⟨Nat.le_of_ble_eq_true rfl, Nat.le_of_ble_eq_true rfl⟩ ⟨Nat.le_of_ble_eq_true rfl, Nat.le_of_ble_eq_true rfl⟩ (Nat.le_of_ble_eq_true rfl) ?_
    refine Calls.mono (fun r67 M67 hr67 hM67 h => ?_) h
    refine a_iast (pc := 70) dX10_goAbout_70 (ar_X8_1 ho) h.1.1 h.1.2 ?_
    replace h := h.2
    refine a_iload (pc := 71) dX10_goAbout_71 rfl ?_
    refine a_aload_n (pc := 73) dX10_goAbout_73 rfl ?_
    refine a_aload_n (pc := 74) dX10_goAbout_74 rfl ?_
    refine a_iload_n (pc := 75) dX10_goAbout_75 rfl ?_
    refine a_callVi (pc := 76) (d := 1) (st := [.inl x5]) (o := 55) [.inr o, .inl x2] dX10_goAbout_76 l_X10_107 in_X10_turn se_X10_turn rfl rfl rfl ⟨Nat.le_of_ble_eq_true rfl, Nat.le_of_ble_eq_true rfl⟩ ⟨Nat.le_of_ble_eq_true rfl, Nat.le_of_ble_eq_true rfl⟩ (Nat.le_of_ble_eq_true rfl) ?_
    refine Calls.mono (fun r76 M76 hr76 hM76 h => ?_) h
    refine a_iadd (pc := 79) dX10_goAbout_79 h.1 ?_
    replace h := h.2
    refine a_istore (pc := 80) dX10_goAbout_80 (Nat.le_of_ble_eq_true rfl) ?_
    refine a_iinc (pc := 82) dX10_goAbout_82 rfl h.1 (Nat.le_of_ble_eq_true rfl) ?_
    replace h := h.2
    refine a_goto (pc := 85) 43 dX10_goAbout_85 rfl ?_
    exact h
set_option maxRecDepth 20000 in
theorem s_X10_forget_0 {Q : Int → Me → Prop} {o : Nat} (ho : isX8 o) (c a : Int) (M : Me) (h :
    (0 ≤ c ∧ c < 16) ∧
    ((M 7 c ≠ 1 →
    (0 ≤ c ∧ c < 16) ∧
    cn ((M (o + 3) c) - a) ∧
    (0 ≤ c ∧ c < 16) ∧
    (0 ≤ c ∧ c < 16) ∧
    ((max 0 ((M (o + 3) c) - a) ≠ 0 →
    Q 0 (mput M (o + 3) c (max 0 ((M (o + 3) c) - a)))) ∧ (max 0 ((M (o + 3) c) - a) = 0 →
    (0 ≤ c ∧ c < 16) ∧
    Q 0 (mput (mput M (o + 3) c (max 0 ((M (o + 3) c) - a))) (o + 1) c 3)))) ∧ (M 7 c = 1 →
    0 ≤ a ∧
    (0 ≤ c ∧ c < 16) ∧
    cn ((M (o + 3) c) - (a / 2)) ∧
    (0 ≤ c ∧ c < 16) ∧
    (0 ≤ c ∧ c < 16) ∧
    ((max 0 ((M (o + 3) c) - (a / 2)) ≠ 0 →
    Q 0 (mput M (o + 3) c (max 0 ((M (o + 3) c) - (a / 2))))) ∧ (max 0 ((M (o + 3) c) - (a / 2)) = 0 →
    (0 ≤ c ∧ c < 16) ∧
    Q 0 (mput (mput M (o + 3) c (max 0 ((M (o + 3) c) - (a / 2)))) (o + 1) c 3)))))) :
    Go (km 1 mX10_forget Q) 0 [some (.inr 55), some (.inr o), some (.inl c), some (.inl a), none] [] M := by
  obtain ⟨ss_o, hs_o⟩ := ob_X8 ho
  refine a_aload_n (pc := 0) dX10_forget_0 rfl ?_
  refine a_getr (pc := 1) dX10_forget_1 f_X10_9 rfl ?_
  refine a_getr (pc := 4) dX10_forget_4 f_X10_69 rfl ?_
  refine a_iload_n (pc := 7) dX10_forget_7 rfl ?_
  refine a_iald (pc := 8) dX10_forget_8 rfl h.1.1 h.1.2  ?_
  replace h := h.2
  refine a_iconst (pc := 9) dX10_forget_9 (cnb rfl) ?_
  refine a_icmp_ne (pc := 10) 19 dX10_forget_10 rfl ⟨fun hc => ?_, fun hc => ?_⟩
  · replace h := h.1 hc
    refine a_iload_n (pc := 19) dX10_forget_19 rfl ?_
    refine a_istore (pc := 20) dX10_forget_20 (Nat.le_of_ble_eq_true rfl) ?_
    refine a_aload_n (pc := 22) dX10_forget_22 rfl ?_
    refine a_getr (pc := 23) dX10_forget_23 f_X10_66 (fr_X8_2 ho) ?_
    refine a_iload_n (pc := 26) dX10_forget_26 rfl ?_
    refine a_iconst (pc := 27) dX10_forget_27 (cnb rfl) ?_
    refine a_aload_n (pc := 28) dX10_forget_28 rfl ?_
    refine a_getr (pc := 29) dX10_forget_29 f_X10_66 (fr_X8_2 ho) ?_
    refine a_iload_n (pc := 32) dX10_forget_32 rfl ?_
    refine a_iald (pc := 33) dX10_forget_33 (ar_X8_2 ho) h.1.1 h.1.2  ?_
    replace h := h.2
    refine a_iload (pc := 34) dX10_forget_34 rfl ?_
    refine a_isub (pc := 36) dX10_forget_36 h.1 ?_
    replace h := h.2
    refine a_mmax (pc := 37) dX10_forget_37 ml_X10_123 mt_st_max mt_ini mt_cd_max ⟨Nat.le_of_ble_eq_true rfl, Nat.le_of_ble_eq_true rfl⟩ ⟨Nat.le_of_ble_eq_true rfl, Nat.le_of_ble_eq_true rfl⟩ (Nat.le_of_ble_eq_true rfl) ?_
    refine a_iast (pc := 40) dX10_forget_40 (ar_X8_2 ho) h.1.1 h.1.2 ?_
    replace h := h.2
    refine a_aload_n (pc := 41) dX10_forget_41 rfl ?_
    refine a_getr (pc := 42) dX10_forget_42 f_X10_66 (fr_X8_2 ho) ?_
    refine a_iload_n (pc := 45) dX10_forget_45 rfl ?_
    refine a_ialdE (pc := 46) (max 0 ((M (o + 3) c) - a)) dX10_forget_46 (ar_X8_2 ho) h.1.1 h.1.2 (mput_same _ _ _ _) ?_
    replace h := h.2
    refine a_if_ne (pc := 47) 57 dX10_forget_47 rfl ⟨fun hc => ?_, fun hc => ?_⟩
    · replace h := h.1 hc
      exact a_ret (pc := 57) dX10_forget_57 rfl h
    · replace h := h.2 hc
      refine a_aload_n (pc := 50) dX10_forget_50 rfl ?_
      refine a_getr (pc := 51) dX10_forget_51 f_X10_37 (fr_X8_0 ho) ?_
      refine a_iload_n (pc := 54) dX10_forget_54 rfl ?_
      refine a_iconst (pc := 55) dX10_forget_55 (cnb rfl) ?_
      refine a_iast (pc := 56) dX10_forget_56 (ar_X8_0 ho) h.1.1 h.1.2 ?_
      replace h := h.2
      exact a_ret (pc := 57) dX10_forget_57 rfl h
  · replace h := h.2 hc
    refine a_iload_n (pc := 13) dX10_forget_13 rfl ?_
    refine a_iconst (pc := 14) dX10_forget_14 (cnb rfl) ?_
    refine a_idivn (pc := 15) dX10_forget_15 (by decide) h.1 ?_
    replace h := h.2
    refine a_goto (pc := 16) 20 dX10_forget_16 rfl ?_
    refine a_istore (pc := 20) dX10_forget_20 (Nat.le_of_ble_eq_true rfl) ?_
    refine a_aload_n (pc := 22) dX10_forget_22 rfl ?_
    refine a_getr (pc := 23) dX10_forget_23 f_X10_66 (fr_X8_2 ho) ?_
    refine a_iload_n (pc := 26) dX10_forget_26 rfl ?_
    refine a_iconst (pc := 27) dX10_forget_27 (cnb rfl) ?_
    refine a_aload_n (pc := 28) dX10_forget_28 rfl ?_
    refine a_getr (pc := 29) dX10_forget_29 f_X10_66 (fr_X8_2 ho) ?_
    refine a_iload_n (pc := 32) dX10_forget_32 rfl ?_
    refine a_iald (pc := 33) dX10_forget_33 (ar_X8_2 ho) h.1.1 h.1.2  ?_
    replace h := h.2
    refine a_iload (pc := 34) dX10_forget_34 rfl ?_
    refine a_isub (pc := 36) dX10_forget_36 h.1 ?_
    replace h := h.2
    refine a_mmax (pc := 37) dX10_forget_37 ml_X10_123 mt_st_max mt_ini mt_cd_max ⟨Nat.le_of_ble_eq_true rfl, Nat.le_of_ble_eq_true rfl⟩ ⟨Nat.le_of_ble_eq_true rfl, Nat.le_of_ble_eq_true rfl⟩ (Nat.le_of_ble_eq_true rfl) ?_
    refine a_iast (pc := 40) dX10_forget_40 (ar_X8_2 ho) h.1.1 h.1.2 ?_
    replace h := h.2
    refine a_aload_n (pc := 41) dX10_forget_41 rfl ?_
    refine a_getr (pc := 42) dX10_forget_42 f_X10_66 (fr_X8_2 ho) ?_
    refine a_iload_n (pc := 45) dX10_forget_45 rfl ?_
    refine a_ialdE (pc := 46) (max 0 ((M (o + 3) c) - (a / 2))) dX10_forget_46 (ar_X8_2 ho) h.1.1 h.1.2 (mput_same _ _ _ _) ?_
    replace h := h.2
    refine a_if_ne (pc := 47) 57 dX10_forget_47 rfl ⟨fun hc => ?_, fun hc => ?_⟩
    · replace h := h.1 hc
      exact a_ret (pc := 57) dX10_forget_57 rfl h
    · replace h := h.2 hc
      refine a_aload_n (pc := 50) dX10_forget_50 rfl ?_
      refine a_getr (pc := 51) dX10_forget_51 f_X10_37 (fr_X8_0 ho) ?_
      refine a_iload_n (pc := 54) dX10_forget_54 rfl ?_
      refine a_iconst (pc := 55) dX10_forget_55 (cnb rfl) ?_
      refine a_iast (pc := 56) dX10_forget_56 (ar_X8_0 ho) h.1.1 h.1.2 ?_
      replace h := h.2
      exact a_ret (pc := 57) dX10_forget_57 rfl h
set_option maxRecDepth 20000 in
theorem e_X10_forget {Q : Int → Me → Prop} {o : Nat} (ho : isX8 o) {c a : Int} {M : Me} (h :
    (0 ≤ c ∧ c < 16) ∧
    ((M 7 c ≠ 1 →
    (0 ≤ c ∧ c < 16) ∧
    cn ((M (o + 3) c) - a) ∧
    (0 ≤ c ∧ c < 16) ∧
    (0 ≤ c ∧ c < 16) ∧
    ((max 0 ((M (o + 3) c) - a) ≠ 0 →
    Q 0 (mput M (o + 3) c (max 0 ((M (o + 3) c) - a)))) ∧ (max 0 ((M (o + 3) c) - a) = 0 →
    (0 ≤ c ∧ c < 16) ∧
    Q 0 (mput (mput M (o + 3) c (max 0 ((M (o + 3) c) - a))) (o + 1) c 3)))) ∧ (M 7 c = 1 →
    0 ≤ a ∧
    (0 ≤ c ∧ c < 16) ∧
    cn ((M (o + 3) c) - (a / 2)) ∧
    (0 ≤ c ∧ c < 16) ∧
    (0 ≤ c ∧ c < 16) ∧
    ((max 0 ((M (o + 3) c) - (a / 2)) ≠ 0 →
    Q 0 (mput M (o + 3) c (max 0 ((M (o + 3) c) - (a / 2))))) ∧ (max 0 ((M (o + 3) c) - (a / 2)) = 0 →
    (0 ≤ c ∧ c < 16) ∧
    Q 0 (mput (mput M (o + 3) c (max 0 ((M (o + 3) c) - (a / 2)))) (o + 1) c 3)))))) : Calls 1 mX10_forget [.inr 55, .inr o, .inl c, .inl a] M Q := Calls.of (by decide) (Nat.le_of_ble_eq_true rfl) (s_X10_forget_0 ho c a M h)
set_option maxRecDepth 20000 in
theorem s_X10_grow_0 {Q : Int → Me → Prop} {o : Nat} (ho : isX8 o) (c : Int) (M : Me) (h :
    Calls 2 mX10_tellValues [.inr 55, .inr o, .inl c] M (fun r3 M3 =>
    Calls 3 mX3_fells [.inr 22, .inr 56] M3 (fun r14 M14 =>
    Calls 3 mX3_worthOf [.inr 22, .inl 118, .inl 1, .inl 9, .inr 56] M14 (fun r31 M31 =>
    Calls 3 mX3_worthOf [.inr 22, .inl 102, .inl 0, .inl 99, .inr 56] M31 (fun r49 M49 =>
    ((r14 = 0 →
    (0 ≤ c ∧ c < 16) ∧
    ((M49 (o + 1) c ≠ 0 →
    (0 ≤ c ∧ c < 16) ∧
    ((M49 (o + 1) c ≠ 1 →
    Calls 2 mX10_goAbout [.inr 55, .inr o, .inl c, .inl r31] M49 (fun r114 M114 =>
    Calls 1 mX10_forget [.inr 55, .inr o, .inl c, .inl r49] M114 (fun r124 M124 =>
    Q r114 M124))) ∧ (M49 (o + 1) c = 1 →
    (0 ≤ c ∧ c < 16) ∧
    Calls 1 mX10_forget [.inr 55, .inr o, .inl c, .inl r49] (mput M49 (o + 1) c 2) (fun r124 M124 =>
    Q 0 M124)))) ∧ (M49 (o + 1) c = 0 →
    (0 ≤ c ∧ c < 16) ∧
    Calls 1 mX10_forget [.inr 55, .inr o, .inl c, .inl r49] (mput M49 (o + 1) c 1) (fun r124 M124 =>
    Q 0 M124)))) ∧ (r14 ≠ 0 →
    (0 ≤ c ∧ c < 16) ∧
    Q 0 (mput M49 (o + 1) c 4)))))))) :
    Go (km 4 mX10_grow Q) 0 [some (.inr 55), some (.inr o), some (.inl c), none, none, none, none] [] M := by
  obtain ⟨ss_o, hs_o⟩ := ob_X8 ho
  refine a_aload_n (pc := 0) dX10_grow_0 rfl ?_
  refine a_aload_n (pc := 1) dX10_grow_1 rfl ?_
  refine a_iload_n (pc := 2) dX10_grow_2 rfl ?_
  refine a_callVv (pc := 3) (d := 2) (st := []) (o := 55) [.inr o, .inl c] dX10_grow_3 l_X10_44 in_X10_tellValues se_X10_tellValues rfl rfl rfl ⟨Nat.le_of_ble_eq_true rfl, Nat.le_of_ble_eq_true rfl⟩ ⟨Nat.le_of_ble_eq_true rfl, Nat.le_of_ble_eq_true rfl⟩ (Nat.le_of_ble_eq_true rfl) ?_
  refine Calls.mono (fun r3 M3 hr3 hM3 h => ?_) h
  refine a_aload_n (pc := 6) dX10_grow_6 rfl ?_
  refine a_getr (pc := 7) dX10_grow_7 f_X10_15 rfl ?_
  refine a_aload_n (pc := 10) dX10_grow_10 rfl ?_
  refine a_getr (pc := 11) dX10_grow_11 f_X10_19 rfl ?_
  refine a_callVi (pc := 14) (d := 3) (st := []) (o := 22) [.inr 56] dX10_grow_14 l_X10_48 in_X3_fells se_X3_fells rfl rfl rfl ⟨Nat.le_of_ble_eq_true rfl, Nat.le_of_ble_eq_true rfl⟩ ⟨Nat.le_of_ble_eq_true rfl, Nat.le_of_ble_eq_true rfl⟩ (Nat.le_of_ble_eq_true rfl) ?_
  refine Calls.mono (fun r14 M14 hr14 hM14 h => ?_) h
  refine a_istore_n (pc := 17) dX10_grow_17 (Nat.le_of_ble_eq_true rfl) ?_
  refine a_aload_n (pc := 18) dX10_grow_18 rfl ?_
  refine a_getr (pc := 19) dX10_grow_19 f_X10_15 rfl ?_
  refine a_bipush (pc := 22) dX10_grow_22 (by decide) (cnb rfl) ?_
  refine a_iconst (pc := 24) dX10_grow_24 (cnb rfl) ?_
  refine a_bipush (pc := 25) dX10_grow_25 (by decide) (cnb rfl) ?_
  refine a_aload_n (pc := 27) dX10_grow_27 rfl ?_
  refine a_getr (pc := 28) dX10_grow_28 f_X10_19 rfl ?_
  refine a_callVi (pc := 31) (d := 3) (st := []) (o := 22) [.inl 118, .inl 1, .inl 9, .inr 56] dX10_grow_31 l_X10_54 in_X3_worthOf se_X3_worthOf rfl rfl rfl ⟨Nat.le_of_ble_eq_true rfl, Nat.le_of_ble_eq_true rfl⟩ ⟨Nat.le_of_ble_eq_true rfl, Nat.le_of_ble_eq_true rfl⟩ (Nat.le_of_ble_eq_true rfl) ?_
  refine Calls.mono (fun r31 M31 hr31 hM31 h => ?_) h
  refine a_istore (pc := 34) dX10_grow_34 (Nat.le_of_ble_eq_true rfl) ?_
  refine a_aload_n (pc := 36) dX10_grow_36 rfl ?_
  refine a_getr (pc := 37) dX10_grow_37 f_X10_15 rfl ?_
  refine a_bipush (pc := 40) dX10_grow_40 (by decide) (cnb rfl) ?_
  refine a_iconst (pc := 42) dX10_grow_42 (cnb rfl) ?_
  refine a_bipush (pc := 43) dX10_grow_43 (by decide) (cnb rfl) ?_
  refine a_aload_n (pc := 45) dX10_grow_45 rfl ?_
  refine a_getr (pc := 46) dX10_grow_46 f_X10_19 rfl ?_
  refine a_callVi (pc := 49) (d := 3) (st := []) (o := 22) [.inl 102, .inl 0, .inl 99, .inr 56] dX10_grow_49 l_X10_54 in_X3_worthOf se_X3_worthOf rfl rfl rfl ⟨Nat.le_of_ble_eq_true rfl, Nat.le_of_ble_eq_true rfl⟩ ⟨Nat.le_of_ble_eq_true rfl, Nat.le_of_ble_eq_true rfl⟩ (Nat.le_of_ble_eq_true rfl) ?_
  refine Calls.mono (fun r49 M49 hr49 hM49 h => ?_) h
  refine a_istore (pc := 52) dX10_grow_52 (Nat.le_of_ble_eq_true rfl) ?_
  refine a_iload_n (pc := 54) dX10_grow_54 rfl ?_
  refine a_if_eq (pc := 55) 67 dX10_grow_55 rfl ⟨fun hc => ?_, fun hc => ?_⟩
  · replace h := h.1 hc
    refine a_iconst (pc := 67) dX10_grow_67 (cnb rfl) ?_
    refine a_istore (pc := 68) dX10_grow_68 (Nat.le_of_ble_eq_true rfl) ?_
    refine a_aload_n (pc := 70) dX10_grow_70 rfl ?_
    refine a_getr (pc := 71) dX10_grow_71 f_X10_37 (fr_X8_0 ho) ?_
    refine a_iload_n (pc := 74) dX10_grow_74 rfl ?_
    refine a_iald (pc := 75) dX10_grow_75 (ar_X8_0 ho) h.1.1 h.1.2  ?_
    replace h := h.2
    refine a_if_ne (pc := 76) 89 dX10_grow_76 rfl ⟨fun hc => ?_, fun hc => ?_⟩
    · replace h := h.1 hc
      refine a_aload_n (pc := 89) dX10_grow_89 rfl ?_
      refine a_getr (pc := 90) dX10_grow_90 f_X10_37 (fr_X8_0 ho) ?_
      refine a_iload_n (pc := 93) dX10_grow_93 rfl ?_
      refine a_iald (pc := 94) dX10_grow_94 (ar_X8_0 ho) h.1.1 h.1.2  ?_
      replace h := h.2
      refine a_iconst (pc := 95) dX10_grow_95 (cnb rfl) ?_
      refine a_icmp_ne (pc := 96) 109 dX10_grow_96 rfl ⟨fun hc => ?_, fun hc => ?_⟩
      · replace h := h.1 hc
        refine a_aload_n (pc := 109) dX10_grow_109 rfl ?_
        refine a_aload_n (pc := 110) dX10_grow_110 rfl ?_
        refine a_iload_n (pc := 111) dX10_grow_111 rfl ?_
        refine a_iload (pc := 112) dX10_grow_112 rfl ?_
        refine a_callVi (pc := 114) (d := 2) (st := []) (o := 55) [.inr o, .inl c, .inl r31] dX10_grow_114 l_X10_58 in_X10_goAbout se_X10_goAbout rfl rfl rfl ⟨Nat.le_of_ble_eq_true rfl, Nat.le_of_ble_eq_true rfl⟩ ⟨Nat.le_of_ble_eq_true rfl, Nat.le_of_ble_eq_true rfl⟩ (Nat.le_of_ble_eq_true rfl) ?_
        refine Calls.mono (fun r114 M114 hr114 hM114 h => ?_) h
        refine a_istore (pc := 117) dX10_grow_117 (Nat.le_of_ble_eq_true rfl) ?_
        refine a_aload_n (pc := 119) dX10_grow_119 rfl ?_
        refine a_aload_n (pc := 120) dX10_grow_120 rfl ?_
        refine a_iload_n (pc := 121) dX10_grow_121 rfl ?_
        refine a_iload (pc := 122) dX10_grow_122 rfl ?_
        refine a_callVv (pc := 124) (d := 1) (st := []) (o := 55) [.inr o, .inl c, .inl r49] dX10_grow_124 l_X10_62 in_X10_forget se_X10_forget rfl rfl rfl ⟨Nat.le_of_ble_eq_true rfl, Nat.le_of_ble_eq_true rfl⟩ ⟨Nat.le_of_ble_eq_true rfl, Nat.le_of_ble_eq_true rfl⟩ (Nat.le_of_ble_eq_true rfl) ?_
        refine Calls.mono (fun r124 M124 hr124 hM124 h => ?_) h
        refine a_iload (pc := 127) dX10_grow_127 rfl ?_
        exact a_iretI (pc := 129) dX10_grow_129 rfl h
      · replace h := h.2 hc
        refine a_aload_n (pc := 99) dX10_grow_99 rfl ?_
        refine a_getr (pc := 100) dX10_grow_100 f_X10_37 (fr_X8_0 ho) ?_
        refine a_iload_n (pc := 103) dX10_grow_103 rfl ?_
        refine a_iconst (pc := 104) dX10_grow_104 (cnb rfl) ?_
        refine a_iast (pc := 105) dX10_grow_105 (ar_X8_0 ho) h.1.1 h.1.2 ?_
        replace h := h.2
        refine a_goto (pc := 106) 119 dX10_grow_106 rfl ?_
        refine a_aload_n (pc := 119) dX10_grow_119 rfl ?_
        refine a_aload_n (pc := 120) dX10_grow_120 rfl ?_
        refine a_iload_n (pc := 121) dX10_grow_121 rfl ?_
        refine a_iload (pc := 122) dX10_grow_122 rfl ?_
        refine a_callVv (pc := 124) (d := 1) (st := []) (o := 55) [.inr o, .inl c, .inl r49] dX10_grow_124 l_X10_62 in_X10_forget se_X10_forget rfl rfl rfl ⟨Nat.le_of_ble_eq_true rfl, Nat.le_of_ble_eq_true rfl⟩ ⟨Nat.le_of_ble_eq_true rfl, Nat.le_of_ble_eq_true rfl⟩ (Nat.le_of_ble_eq_true rfl) ?_
        refine Calls.mono (fun r124 M124 hr124 hM124 h => ?_) h
        refine a_iload (pc := 127) dX10_grow_127 rfl ?_
        exact a_iretI (pc := 129) dX10_grow_129 rfl h
    · replace h := h.2 hc
      refine a_aload_n (pc := 79) dX10_grow_79 rfl ?_
      refine a_getr (pc := 80) dX10_grow_80 f_X10_37 (fr_X8_0 ho) ?_
      refine a_iload_n (pc := 83) dX10_grow_83 rfl ?_
      refine a_iconst (pc := 84) dX10_grow_84 (cnb rfl) ?_
      refine a_iast (pc := 85) dX10_grow_85 (ar_X8_0 ho) h.1.1 h.1.2 ?_
      replace h := h.2
      refine a_goto (pc := 86) 119 dX10_grow_86 rfl ?_
      refine a_aload_n (pc := 119) dX10_grow_119 rfl ?_
      refine a_aload_n (pc := 120) dX10_grow_120 rfl ?_
      refine a_iload_n (pc := 121) dX10_grow_121 rfl ?_
      refine a_iload (pc := 122) dX10_grow_122 rfl ?_
      refine a_callVv (pc := 124) (d := 1) (st := []) (o := 55) [.inr o, .inl c, .inl r49] dX10_grow_124 l_X10_62 in_X10_forget se_X10_forget rfl rfl rfl ⟨Nat.le_of_ble_eq_true rfl, Nat.le_of_ble_eq_true rfl⟩ ⟨Nat.le_of_ble_eq_true rfl, Nat.le_of_ble_eq_true rfl⟩ (Nat.le_of_ble_eq_true rfl) ?_
      refine Calls.mono (fun r124 M124 hr124 hM124 h => ?_) h
      refine a_iload (pc := 127) dX10_grow_127 rfl ?_
      exact a_iretI (pc := 129) dX10_grow_129 rfl h
  · replace h := h.2 hc
    refine a_aload_n (pc := 58) dX10_grow_58 rfl ?_
    refine a_getr (pc := 59) dX10_grow_59 f_X10_37 (fr_X8_0 ho) ?_
    refine a_iload_n (pc := 62) dX10_grow_62 rfl ?_
    refine a_iconst (pc := 63) dX10_grow_63 (cnb rfl) ?_
    refine a_iast (pc := 64) dX10_grow_64 (ar_X8_0 ho) h.1.1 h.1.2 ?_
    replace h := h.2
    refine a_iconst (pc := 65) dX10_grow_65 (cnb rfl) ?_
    exact a_iretI (pc := 66) dX10_grow_66 rfl h
set_option maxRecDepth 20000 in
theorem e_X10_grow {Q : Int → Me → Prop} {o : Nat} (ho : isX8 o) {c : Int} {M : Me} (h :
    Calls 2 mX10_tellValues [.inr 55, .inr o, .inl c] M (fun r3 M3 =>
    Calls 3 mX3_fells [.inr 22, .inr 56] M3 (fun r14 M14 =>
    Calls 3 mX3_worthOf [.inr 22, .inl 118, .inl 1, .inl 9, .inr 56] M14 (fun r31 M31 =>
    Calls 3 mX3_worthOf [.inr 22, .inl 102, .inl 0, .inl 99, .inr 56] M31 (fun r49 M49 =>
    ((r14 = 0 →
    (0 ≤ c ∧ c < 16) ∧
    ((M49 (o + 1) c ≠ 0 →
    (0 ≤ c ∧ c < 16) ∧
    ((M49 (o + 1) c ≠ 1 →
    Calls 2 mX10_goAbout [.inr 55, .inr o, .inl c, .inl r31] M49 (fun r114 M114 =>
    Calls 1 mX10_forget [.inr 55, .inr o, .inl c, .inl r49] M114 (fun r124 M124 =>
    Q r114 M124))) ∧ (M49 (o + 1) c = 1 →
    (0 ≤ c ∧ c < 16) ∧
    Calls 1 mX10_forget [.inr 55, .inr o, .inl c, .inl r49] (mput M49 (o + 1) c 2) (fun r124 M124 =>
    Q 0 M124)))) ∧ (M49 (o + 1) c = 0 →
    (0 ≤ c ∧ c < 16) ∧
    Calls 1 mX10_forget [.inr 55, .inr o, .inl c, .inl r49] (mput M49 (o + 1) c 1) (fun r124 M124 =>
    Q 0 M124)))) ∧ (r14 ≠ 0 →
    (0 ≤ c ∧ c < 16) ∧
    Q 0 (mput M49 (o + 1) c 4)))))))) : Calls 4 mX10_grow [.inr 55, .inr o, .inl c] M Q := Calls.of (by decide) (Nat.le_of_ble_eq_true rfl) (s_X10_grow_0 ho c M h)
set_option maxRecDepth 20000 in
theorem s_X10_season_0 {Q : Int → Me → Prop} {o : Nat} (ho : isX8 o) (M : Me) (h :
    ((M o 5 < 9999 →
    Go (km 5 mX10_season Q) 16 [some (.inr 55), some (.inr o), some (.inl 0), some (.inl 0)] [] M) ∧ (9999 ≤ M o 5 →
    Q 0 M))) :
    Go (km 5 mX10_season Q) 0 [some (.inr 55), some (.inr o), none, none] [] M := by
  obtain ⟨ss_o, hs_o⟩ := ob_X8 ho
  refine a_aload_n (pc := 0) dX10_season_0 rfl ?_
  refine a_geti (pc := 1) 5 dX10_season_1 f_X10_27 (fi_X8_5 ho) rfl ?_
  refine a_sipush (pc := 4) dX10_season_4 (by decide) (cnb rfl) ?_
  refine a_icmp_lt (pc := 7) 12 dX10_season_7 rfl ⟨fun hc => ?_, fun hc => ?_⟩
  · replace h := h.1 hc
    refine a_iconst (pc := 12) dX10_season_12 (cnb rfl) ?_
    refine a_istore_n (pc := 13) dX10_season_13 (Nat.le_of_ble_eq_true rfl) ?_
    refine a_iconst (pc := 14) dX10_season_14 (cnb rfl) ?_
    refine a_istore_n (pc := 15) dX10_season_15 (Nat.le_of_ble_eq_true rfl) ?_
    exact h
  · replace h := h.2 hc
    refine a_iconst (pc := 10) dX10_season_10 (cnb rfl) ?_
    exact a_iretI (pc := 11) dX10_season_11 rfl h
set_option maxRecDepth 20000 in
theorem e_X10_season {Q : Int → Me → Prop} {o : Nat} (ho : isX8 o) {M : Me} (h :
    ((M o 5 < 9999 →
    Go (km 5 mX10_season Q) 16 [some (.inr 55), some (.inr o), some (.inl 0), some (.inl 0)] [] M) ∧ (9999 ≤ M o 5 →
    Q 0 M))) : Calls 5 mX10_season [.inr 55, .inr o] M Q := Calls.of (by decide) (Nat.le_of_ble_eq_true rfl) (s_X10_season_0 ho  M h)
set_option maxRecDepth 20000 in
theorem s_X10_season_16 {Q : Int → Me → Prop} {o : Nat} (ho : isX8 o) (x2 x3 : Int) (M : Me) (h :
    ((M 3 8 ≤ x3 →
    cn ((M o 5) + 1) ∧
    Q x2 (mput M o 5 ((M o 5) + 1))) ∧ (x3 < M 3 8 →
    (0 ≤ x3 ∧ x3 < 16) ∧
    ((M (o + 1) x3 = 3 →
    cn (x3 + 1) ∧
    Go (km 5 mX10_season Q) 16 [some (.inr 55), some (.inr o), some (.inl x2), some (.inl (x3 + 1))] [] M) ∧ (M (o + 1) x3 ≠ 3 →
    (0 ≤ x3 ∧ x3 < 16) ∧
    ((M (o + 1) x3 = 4 →
    cn (x3 + 1) ∧
    Go (km 5 mX10_season Q) 16 [some (.inr 55), some (.inr o), some (.inl x2), some (.inl (x3 + 1))] [] M) ∧ (M (o + 1) x3 ≠ 4 →
    Calls 4 mX10_grow [.inr 55, .inr o, .inl x3] M (fun r51 M51 =>
    cn (x2 + r51) ∧
    cn (x3 + 1) ∧
    Go (km 5 mX10_season Q) 16 [some (.inr 55), some (.inr o), some (.inl (x2 + r51)), some (.inl (x3 + 1))] [] M51)))))))) :
    Go (km 5 mX10_season Q) 16 [some (.inr 55), some (.inr o), some (.inl x2), some (.inl x3)] [] M := by
  obtain ⟨ss_o, hs_o⟩ := ob_X8 ho
  refine a_iload_n (pc := 16) dX10_season_16 rfl ?_
  refine a_aload_n (pc := 17) dX10_season_17 rfl ?_
  refine a_getr (pc := 18) dX10_season_18 f_X10_9 rfl ?_
  refine a_geti (pc := 21) 8 dX10_season_21 f_X10_32 rfl rfl ?_
  refine a_icmp_ge (pc := 24) 62 dX10_season_24 rfl ⟨fun hc => ?_, fun hc => ?_⟩
  · replace h := h.1 hc
    refine a_aload_n (pc := 62) dX10_season_62 rfl ?_
    refine a_dup (pc := 63) dX10_season_63 ?_
    refine a_geti (pc := 64) 5 dX10_season_64 f_X10_27 (fi_X8_5 ho) rfl ?_
    refine a_iconst (pc := 67) dX10_season_67 (cnb rfl) ?_
    refine a_iadd (pc := 68) dX10_season_68 h.1 ?_
    replace h := h.2
    refine a_puti (pc := 69) 5 dX10_season_69 f_X10_27 (fi_X8_5 ho) rfl (Or.inl rfl) ?_
    refine a_iload_n (pc := 72) dX10_season_72 rfl ?_
    exact a_iretI (pc := 73) dX10_season_73 rfl h
  · replace h := h.2 hc
    refine a_aload_n (pc := 27) dX10_season_27 rfl ?_
    refine a_getr (pc := 28) dX10_season_28 f_X10_37 (fr_X8_0 ho) ?_
    refine a_iload_n (pc := 31) dX10_season_31 rfl ?_
    refine a_iald (pc := 32) dX10_season_32 (ar_X8_0 ho) h.1.1 h.1.2  ?_
    replace h := h.2
    refine a_iconst (pc := 33) dX10_season_33 (cnb rfl) ?_
    refine a_icmp_eq (pc := 34) 56 dX10_season_34 rfl ⟨fun hc => ?_, fun hc => ?_⟩
    · replace h := h.1 hc
      refine a_iinc (pc := 56) dX10_season_56 rfl h.1 (Nat.le_of_ble_eq_true rfl) ?_
      replace h := h.2
      refine a_goto (pc := 59) 16 dX10_season_59 rfl ?_
      exact h
    · replace h := h.2 hc
      refine a_aload_n (pc := 37) dX10_season_37 rfl ?_
      refine a_getr (pc := 38) dX10_season_38 f_X10_37 (fr_X8_0 ho) ?_
      refine a_iload_n (pc := 41) dX10_season_41 rfl ?_
      refine a_iald (pc := 42) dX10_season_42 (ar_X8_0 ho) h.1.1 h.1.2  ?_
      replace h := h.2
      refine a_iconst (pc := 43) dX10_season_43 (cnb rfl) ?_
      refine a_icmp_eq (pc := 44) 56 dX10_season_44 rfl ⟨fun hc => ?_, fun hc => ?_⟩
      · replace h := h.1 hc
        refine a_iinc (pc := 56) dX10_season_56 rfl h.1 (Nat.le_of_ble_eq_true rfl) ?_
        replace h := h.2
        refine a_goto (pc := 59) 16 dX10_season_59 rfl ?_
        exact h
      · replace h := h.2 hc
        refine a_iload_n (pc := 47) dX10_season_47 rfl ?_
        refine a_aload_n (pc := 48) dX10_season_48 rfl ?_
        refine a_aload_n (pc := 49) dX10_season_49 rfl ?_
        refine a_iload_n (pc := 50) dX10_season_50 rfl ?_
        refine a_callVi (pc := 51) (d := 4) (st := [.inl x2]) (o := 55) [.inr o, .inl x3] dX10_season_51 l_X10_40 in_X10_grow se_X10_grow rfl rfl rfl ⟨Nat.le_of_ble_eq_true rfl, Nat.le_of_ble_eq_true rfl⟩ ⟨Nat.le_of_ble_eq_true rfl, Nat.le_of_ble_eq_true rfl⟩ (Nat.le_of_ble_eq_true rfl) ?_
        refine Calls.mono (fun r51 M51 hr51 hM51 h => ?_) h
        refine a_iadd (pc := 54) dX10_season_54 h.1 ?_
        replace h := h.2
        refine a_istore_n (pc := 55) dX10_season_55 (Nat.le_of_ble_eq_true rfl) ?_
        refine a_iinc (pc := 56) dX10_season_56 rfl h.1 (Nat.le_of_ble_eq_true rfl) ?_
        replace h := h.2
        refine a_goto (pc := 59) 16 dX10_season_59 rfl ?_
        exact h
set_option maxRecDepth 20000 in
theorem s_X10_go_0 {Q : Int → Me → Prop} {o : Nat} (ho : isX8 o) (a : Int) (M : Me) (h :
    Go (km 6 mX10_go Q) 5 [some (.inr 55), some (.inr o), some (.inl a), some (.inl 0), some (.inl 0)] [] M) :
    Go (km 6 mX10_go Q) 0 [some (.inr 55), some (.inr o), some (.inl a), none, none] [] M := by
  obtain ⟨ss_o, hs_o⟩ := ob_X8 ho
  refine a_iconst (pc := 0) dX10_go_0 (cnb rfl) ?_
  refine a_istore_n (pc := 1) dX10_go_1 (Nat.le_of_ble_eq_true rfl) ?_
  refine a_iconst (pc := 2) dX10_go_2 (cnb rfl) ?_
  refine a_istore (pc := 3) dX10_go_3 (Nat.le_of_ble_eq_true rfl) ?_
  exact h
set_option maxRecDepth 20000 in
theorem e_X10_go {Q : Int → Me → Prop} {o : Nat} (ho : isX8 o) {a : Int} {M : Me} (h :
    Go (km 6 mX10_go Q) 5 [some (.inr 55), some (.inr o), some (.inl a), some (.inl 0), some (.inl 0)] [] M) : Calls 6 mX10_go [.inr 55, .inr o, .inl a] M Q := Calls.of (by decide) (Nat.le_of_ble_eq_true rfl) (s_X10_go_0 ho a M h)
set_option maxRecDepth 20000 in
theorem s_X10_go_5 {Q : Int → Me → Prop} {o : Nat} (ho : isX8 o) (x2 x3 x4 : Int) (M : Me) (h :
    ((x2 ≤ x4 →
    Q x3 M) ∧ (x4 < x2 →
    Calls 5 mX10_season [.inr 55, .inr o] M (fun r14 M14 =>
    cn (x3 + r14) ∧
    cn (x4 + 1) ∧
    Go (km 6 mX10_go Q) 5 [some (.inr 55), some (.inr o), some (.inl x2), some (.inl (x3 + r14)), some (.inl (x4 + 1))] [] M14)))) :
    Go (km 6 mX10_go Q) 5 [some (.inr 55), some (.inr o), some (.inl x2), some (.inl x3), some (.inl x4)] [] M := by
  obtain ⟨ss_o, hs_o⟩ := ob_X8 ho
  refine a_iload (pc := 5) dX10_go_5 rfl ?_
  refine a_iload_n (pc := 7) dX10_go_7 rfl ?_
  refine a_icmp_ge (pc := 8) 25 dX10_go_8 rfl ⟨fun hc => ?_, fun hc => ?_⟩
  · replace h := h.1 hc
    refine a_iload_n (pc := 25) dX10_go_25 rfl ?_
    exact a_iretI (pc := 26) dX10_go_26 rfl h
  · replace h := h.2 hc
    refine a_iload_n (pc := 11) dX10_go_11 rfl ?_
    refine a_aload_n (pc := 12) dX10_go_12 rfl ?_
    refine a_aload_n (pc := 13) dX10_go_13 rfl ?_
    refine a_callVi (pc := 14) (d := 5) (st := [.inl x3]) (o := 55) [.inr o] dX10_go_14 l_X10_23 in_X10_season se_X10_season rfl rfl rfl ⟨Nat.le_of_ble_eq_true rfl, Nat.le_of_ble_eq_true rfl⟩ ⟨Nat.le_of_ble_eq_true rfl, Nat.le_of_ble_eq_true rfl⟩ (Nat.le_of_ble_eq_true rfl) ?_
    refine Calls.mono (fun r14 M14 hr14 hM14 h => ?_) h
    refine a_iadd (pc := 17) dX10_go_17 h.1 ?_
    replace h := h.2
    refine a_istore_n (pc := 18) dX10_go_18 (Nat.le_of_ble_eq_true rfl) ?_
    refine a_iinc (pc := 19) dX10_go_19 rfl h.1 (Nat.le_of_ble_eq_true rfl) ?_
    replace h := h.2
    refine a_goto (pc := 22) 5 dX10_go_22 rfl ?_
    exact h
set_option maxRecDepth 20000 in
theorem s_X12_goalOf_0 {Q : Int → Me → Prop}  (a : Int) (M : Me) (h :
    cn (64 + a) ∧
    (0 ≤ 64 + a ∧ 64 + a < 82) ∧
    ((M 77 (64 + a) ≠ 1 →
    (0 ≤ a ∧ a < 16) ∧
    Q (M 87 a) M) ∧ (M 77 (64 + a) = 1 →
    (0 ≤ a ∧ a < 16) ∧
    Q (M 80 a) M))) :
    Go (km 0 mX12_goalOf Q) 0 [some (.inr 76), some (.inl a)] [] M := by
  refine a_aload_n (pc := 0) dX12_goalOf_0 rfl ?_
  refine a_getr (pc := 1) dX12_goalOf_1 f_X12_7 rfl ?_
  refine a_bipush (pc := 4) dX12_goalOf_4 (by decide) (cnb rfl) ?_
  refine a_iload_n (pc := 6) dX12_goalOf_6 rfl ?_
  refine a_iadd (pc := 7) dX12_goalOf_7 h.1 ?_
  replace h := h.2
  refine a_iald (pc := 8) dX12_goalOf_8 rfl h.1.1 h.1.2  ?_
  replace h := h.2
  refine a_iconst (pc := 9) dX12_goalOf_9 (cnb rfl) ?_
  refine a_icmp_ne (pc := 10) 22 dX12_goalOf_10 rfl ⟨fun hc => ?_, fun hc => ?_⟩
  · replace h := h.1 hc
    refine a_aload_n (pc := 22) dX12_goalOf_22 rfl ?_
    refine a_getr (pc := 23) dX12_goalOf_23 f_X12_40 rfl ?_
    refine a_iload_n (pc := 26) dX12_goalOf_26 rfl ?_
    refine a_iald (pc := 27) dX12_goalOf_27 rfl h.1.1 h.1.2  ?_
    replace h := h.2
    exact a_iretI (pc := 28) dX12_goalOf_28 rfl h
  · replace h := h.2 hc
    refine a_aload_n (pc := 13) dX12_goalOf_13 rfl ?_
    refine a_getr (pc := 14) dX12_goalOf_14 f_X12_19 rfl ?_
    refine a_iload_n (pc := 17) dX12_goalOf_17 rfl ?_
    refine a_iald (pc := 18) dX12_goalOf_18 rfl h.1.1 h.1.2  ?_
    replace h := h.2
    refine a_goto (pc := 19) 28 dX12_goalOf_19 rfl ?_
    exact a_iretI (pc := 28) dX12_goalOf_28 rfl h
set_option maxRecDepth 20000 in
theorem e_X12_goalOf {Q : Int → Me → Prop}  {a : Int} {M : Me} (h :
    cn (64 + a) ∧
    (0 ≤ 64 + a ∧ 64 + a < 82) ∧
    ((M 77 (64 + a) ≠ 1 →
    (0 ≤ a ∧ a < 16) ∧
    Q (M 87 a) M) ∧ (M 77 (64 + a) = 1 →
    (0 ≤ a ∧ a < 16) ∧
    Q (M 80 a) M))) : Calls 0 mX12_goalOf [.inr 76, .inl a] M Q := Calls.of (by decide) (Nat.le_of_ble_eq_true rfl) (s_X12_goalOf_0  a M h)
set_option maxRecDepth 20000 in
theorem s_X12_othersAt_0 {Q : Int → Me → Prop}  (a : Int) (M : Me) (h :
    Go (km 0 mX12_othersAt Q) 4 [some (.inr 76), some (.inl a), some (.inl 0), some (.inl 0)] [] M) :
    Go (km 0 mX12_othersAt Q) 0 [some (.inr 76), some (.inl a), none, none] [] M := by
  refine a_iconst (pc := 0) dX12_othersAt_0 (cnb rfl) ?_
  refine a_istore_n (pc := 1) dX12_othersAt_1 (Nat.le_of_ble_eq_true rfl) ?_
  refine a_iconst (pc := 2) dX12_othersAt_2 (cnb rfl) ?_
  refine a_istore_n (pc := 3) dX12_othersAt_3 (Nat.le_of_ble_eq_true rfl) ?_
  exact h
set_option maxRecDepth 20000 in
theorem e_X12_othersAt {Q : Int → Me → Prop}  {a : Int} {M : Me} (h :
    Go (km 0 mX12_othersAt Q) 4 [some (.inr 76), some (.inl a), some (.inl 0), some (.inl 0)] [] M) : Calls 0 mX12_othersAt [.inr 76, .inl a] M Q := Calls.of (by decide) (Nat.le_of_ble_eq_true rfl) (s_X12_othersAt_0  a M h)
set_option maxRecDepth 20000 in
theorem s_X12_othersAt_4 {Q : Int → Me → Prop}  (x1 x2 x3 : Int) (M : Me) (h :
    ((M 76 11 ≤ x3 →
    Q x2 M) ∧ (x3 < M 76 11 →
    ((x3 = x1 →
    cn (x3 + 1) ∧
    Go (km 0 mX12_othersAt Q) 4 [some (.inr 76), some (.inl x1), some (.inl x2), some (.inl (x3 + 1))] [] M) ∧ (x3 ≠ x1 →
    cn (0 + x3) ∧
    (0 ≤ 0 + x3 ∧ 0 + x3 < 82) ∧
    ((M 77 (0 + x3) ≠ 2 →
    cn (x3 + 1) ∧
    Go (km 0 mX12_othersAt Q) 4 [some (.inr 76), some (.inl x1), some (.inl x2), some (.inl (x3 + 1))] [] M) ∧ (M 77 (0 + x3) = 2 →
    cn (16 + x3) ∧
    (0 ≤ 16 + x3 ∧ 16 + x3 < 82) ∧
    cn (16 + x1) ∧
    (0 ≤ 16 + x1 ∧ 16 + x1 < 82) ∧
    ((M 77 (16 + x3) ≠ M 77 (16 + x1) →
    cn (x3 + 1) ∧
    Go (km 0 mX12_othersAt Q) 4 [some (.inr 76), some (.inl x1), some (.inl x2), some (.inl (x3 + 1))] [] M) ∧ (M 77 (16 + x3) = M 77 (16 + x1) →
    cn (x2 + 1) ∧
    cn (x3 + 1) ∧
    Go (km 0 mX12_othersAt Q) 4 [some (.inr 76), some (.inl x1), some (.inl (x2 + 1)), some (.inl (x3 + 1))] [] M))))))))) :
    Go (km 0 mX12_othersAt Q) 4 [some (.inr 76), some (.inl x1), some (.inl x2), some (.inl x3)] [] M := by
  refine a_iload_n (pc := 4) dX12_othersAt_4 rfl ?_
  refine a_aload_n (pc := 5) dX12_othersAt_5 rfl ?_
  refine a_geti (pc := 6) 11 dX12_othersAt_6 f_X12_152 rfl rfl ?_
  refine a_icmp_ge (pc := 9) 60 dX12_othersAt_9 rfl ⟨fun hc => ?_, fun hc => ?_⟩
  · replace h := h.1 hc
    refine a_iload_n (pc := 60) dX12_othersAt_60 rfl ?_
    exact a_iretI (pc := 61) dX12_othersAt_61 rfl h
  · replace h := h.2 hc
    refine a_iload_n (pc := 12) dX12_othersAt_12 rfl ?_
    refine a_iload_n (pc := 13) dX12_othersAt_13 rfl ?_
    refine a_icmp_eq (pc := 14) 54 dX12_othersAt_14 rfl ⟨fun hc => ?_, fun hc => ?_⟩
    · replace h := h.1 hc
      refine a_iinc (pc := 54) dX12_othersAt_54 rfl h.1 (Nat.le_of_ble_eq_true rfl) ?_
      replace h := h.2
      refine a_goto (pc := 57) 4 dX12_othersAt_57 rfl ?_
      exact h
    · replace h := h.2 hc
      refine a_aload_n (pc := 17) dX12_othersAt_17 rfl ?_
      refine a_getr (pc := 18) dX12_othersAt_18 f_X12_7 rfl ?_
      refine a_iconst (pc := 21) dX12_othersAt_21 (cnb rfl) ?_
      refine a_iload_n (pc := 22) dX12_othersAt_22 rfl ?_
      refine a_iadd (pc := 23) dX12_othersAt_23 h.1 ?_
      replace h := h.2
      refine a_iald (pc := 24) dX12_othersAt_24 rfl h.1.1 h.1.2  ?_
      replace h := h.2
      refine a_iconst (pc := 25) dX12_othersAt_25 (cnb rfl) ?_
      refine a_icmp_ne (pc := 26) 54 dX12_othersAt_26 rfl ⟨fun hc => ?_, fun hc => ?_⟩
      · replace h := h.1 hc
        refine a_iinc (pc := 54) dX12_othersAt_54 rfl h.1 (Nat.le_of_ble_eq_true rfl) ?_
        replace h := h.2
        refine a_goto (pc := 57) 4 dX12_othersAt_57 rfl ?_
        exact h
      · replace h := h.2 hc
        refine a_aload_n (pc := 29) dX12_othersAt_29 rfl ?_
        refine a_getr (pc := 30) dX12_othersAt_30 f_X12_7 rfl ?_
        refine a_bipush (pc := 33) dX12_othersAt_33 (by decide) (cnb rfl) ?_
        refine a_iload_n (pc := 35) dX12_othersAt_35 rfl ?_
        refine a_iadd (pc := 36) dX12_othersAt_36 h.1 ?_
        replace h := h.2
        refine a_iald (pc := 37) dX12_othersAt_37 rfl h.1.1 h.1.2  ?_
        replace h := h.2
        refine a_aload_n (pc := 38) dX12_othersAt_38 rfl ?_
        refine a_getr (pc := 39) dX12_othersAt_39 f_X12_7 rfl ?_
        refine a_bipush (pc := 42) dX12_othersAt_42 (by decide) (cnb rfl) ?_
        refine a_iload_n (pc := 44) dX12_othersAt_44 rfl ?_
        refine a_iadd (pc := 45) dX12_othersAt_45 h.1 ?_
        replace h := h.2
        refine a_iald (pc := 46) dX12_othersAt_46 rfl h.1.1 h.1.2  ?_
        replace h := h.2
        refine a_icmp_ne (pc := 47) 54 dX12_othersAt_47 rfl ⟨fun hc => ?_, fun hc => ?_⟩
        · replace h := h.1 hc
          refine a_iinc (pc := 54) dX12_othersAt_54 rfl h.1 (Nat.le_of_ble_eq_true rfl) ?_
          replace h := h.2
          refine a_goto (pc := 57) 4 dX12_othersAt_57 rfl ?_
          exact h
        · replace h := h.2 hc
          refine a_iload_n (pc := 50) dX12_othersAt_50 rfl ?_
          refine a_iconst (pc := 51) dX12_othersAt_51 (cnb rfl) ?_
          refine a_iadd (pc := 52) dX12_othersAt_52 h.1 ?_
          replace h := h.2
          refine a_istore_n (pc := 53) dX12_othersAt_53 (Nat.le_of_ble_eq_true rfl) ?_
          refine a_iinc (pc := 54) dX12_othersAt_54 rfl h.1 (Nat.le_of_ble_eq_true rfl) ?_
          replace h := h.2
          refine a_goto (pc := 57) 4 dX12_othersAt_57 rfl ?_
          exact h
set_option maxRecDepth 20000 in
theorem s_X12_feels_0 {Q : Int → Me → Prop}  (a b : Int) (M : Me) (h :
    cn (0 + a) ∧
    (0 ≤ 0 + a ∧ 0 + a < 82) ∧
    cn (32 + a) ∧
    (0 ≤ 32 + a ∧ 32 + a < 82) ∧
    (0 ≤ a ∧ a < 16) ∧
    (0 ≤ a ∧ a < 16) ∧
    (0 ≤ a ∧ a < 16) ∧
    cn (48 + a) ∧
    (0 ≤ 48 + a ∧ 48 + a < 82) ∧
    cn (16 + a) ∧
    (0 ≤ 16 + a ∧ 16 + a < 82) ∧
    Calls 0 mX12_goalOf [.inr 76, .inl a] (mput (mput (mput (mput (mput (mput (mput M 101 0 a) 101 1 (M 77 (0 + a))) 101 2 (M 77 (32 + a))) 101 3 (M 83 a)) 101 4 (M 84 a)) 101 5 (M 85 a)) 101 6 (M 77 (48 + a))) (fun r105 M105 =>
    0 ≤ M 77 (16 + a) ∧
    0 ≤ r105 ∧
    Calls 0 mX12_othersAt [.inr 76, .inl a] (mput M105 101 7 (dst (M 77 (16 + a)) r105)) (fun r120 M120 =>
    0 ≤ (M120 77 80) ∧
    Q 0 (mput (mput (mput M120 101 8 r120) 101 9 ((M120 77 80) % 100)) 101 10 b)))) :
    Go (km 2 mX12_feels Q) 0 [some (.inr 76), some (.inl a), some (.inl b)] [] M := by
  refine a_aload_n (pc := 0) dX12_feels_0 rfl ?_
  refine a_getr (pc := 1) dX12_feels_1 f_X12_83 rfl ?_
  refine a_iconst (pc := 4) dX12_feels_4 (cnb rfl) ?_
  refine a_iload_n (pc := 5) dX12_feels_5 rfl ?_
  refine a_iast (pc := 6) dX12_feels_6 rfl (by decide) (by decide) ?_
  refine a_aload_n (pc := 7) dX12_feels_7 rfl ?_
  refine a_getr (pc := 8) dX12_feels_8 f_X12_83 rfl ?_
  refine a_iconst (pc := 11) dX12_feels_11 (cnb rfl) ?_
  refine a_aload_n (pc := 12) dX12_feels_12 rfl ?_
  refine a_getr (pc := 13) dX12_feels_13 f_X12_7 rfl ?_
  refine a_iconst (pc := 16) dX12_feels_16 (cnb rfl) ?_
  refine a_iload_n (pc := 17) dX12_feels_17 rfl ?_
  refine a_iadd (pc := 18) dX12_feels_18 h.1 ?_
  replace h := h.2
  refine a_ialdE (pc := 19) (M 77 (0 + a)) dX12_feels_19 rfl h.1.1 h.1.2 (mput_ne _ _ _ _ (by decide)) ?_
  replace h := h.2
  refine a_iast (pc := 20) dX12_feels_20 rfl (by decide) (by decide) ?_
  refine a_aload_n (pc := 21) dX12_feels_21 rfl ?_
  refine a_getr (pc := 22) dX12_feels_22 f_X12_83 rfl ?_
  refine a_iconst (pc := 25) dX12_feels_25 (cnb rfl) ?_
  refine a_aload_n (pc := 26) dX12_feels_26 rfl ?_
  refine a_getr (pc := 27) dX12_feels_27 f_X12_7 rfl ?_
  refine a_bipush (pc := 30) dX12_feels_30 (by decide) (cnb rfl) ?_
  refine a_iload_n (pc := 32) dX12_feels_32 rfl ?_
  refine a_iadd (pc := 33) dX12_feels_33 h.1 ?_
  replace h := h.2
  refine a_ialdE (pc := 34) (M 77 (32 + a)) dX12_feels_34 rfl h.1.1 h.1.2 ((mput_ne _ _ _ _ (by decide)).trans (mput_ne _ _ _ _ (by decide))) ?_
  replace h := h.2
  refine a_iast (pc := 35) dX12_feels_35 rfl (by decide) (by decide) ?_
  refine a_aload_n (pc := 36) dX12_feels_36 rfl ?_
  refine a_getr (pc := 37) dX12_feels_37 f_X12_83 rfl ?_
  refine a_iconst (pc := 40) dX12_feels_40 (cnb rfl) ?_
  refine a_aload_n (pc := 41) dX12_feels_41 rfl ?_
  refine a_getr (pc := 42) dX12_feels_42 f_X12_28 rfl ?_
  refine a_iload_n (pc := 45) dX12_feels_45 rfl ?_
  refine a_ialdE (pc := 46) (M 83 a) dX12_feels_46 rfl h.1.1 h.1.2 ((mput_ne _ _ _ _ (by decide)).trans ((mput_ne _ _ _ _ (by decide)).trans (mput_ne _ _ _ _ (by decide)))) ?_
  replace h := h.2
  refine a_iast (pc := 47) dX12_feels_47 rfl (by decide) (by decide) ?_
  refine a_aload_n (pc := 48) dX12_feels_48 rfl ?_
  refine a_getr (pc := 49) dX12_feels_49 f_X12_83 rfl ?_
  refine a_iconst (pc := 52) dX12_feels_52 (cnb rfl) ?_
  refine a_aload_n (pc := 53) dX12_feels_53 rfl ?_
  refine a_getr (pc := 54) dX12_feels_54 f_X12_31 rfl ?_
  refine a_iload_n (pc := 57) dX12_feels_57 rfl ?_
  refine a_ialdE (pc := 58) (M 84 a) dX12_feels_58 rfl h.1.1 h.1.2 ((mput_ne _ _ _ _ (by decide)).trans ((mput_ne _ _ _ _ (by decide)).trans ((mput_ne _ _ _ _ (by decide)).trans (mput_ne _ _ _ _ (by decide))))) ?_
  replace h := h.2
  refine a_iast (pc := 59) dX12_feels_59 rfl (by decide) (by decide) ?_
  refine a_aload_n (pc := 60) dX12_feels_60 rfl ?_
  refine a_getr (pc := 61) dX12_feels_61 f_X12_83 rfl ?_
  refine a_iconst (pc := 64) dX12_feels_64 (cnb rfl) ?_
  refine a_aload_n (pc := 65) dX12_feels_65 rfl ?_
  refine a_getr (pc := 66) dX12_feels_66 f_X12_34 rfl ?_
  refine a_iload_n (pc := 69) dX12_feels_69 rfl ?_
  refine a_ialdE (pc := 70) (M 85 a) dX12_feels_70 rfl h.1.1 h.1.2 ((mput_ne _ _ _ _ (by decide)).trans ((mput_ne _ _ _ _ (by decide)).trans ((mput_ne _ _ _ _ (by decide)).trans ((mput_ne _ _ _ _ (by decide)).trans (mput_ne _ _ _ _ (by decide)))))) ?_
  replace h := h.2
  refine a_iast (pc := 71) dX12_feels_71 rfl (by decide) (by decide) ?_
  refine a_aload_n (pc := 72) dX12_feels_72 rfl ?_
  refine a_getr (pc := 73) dX12_feels_73 f_X12_83 rfl ?_
  refine a_bipush (pc := 76) dX12_feels_76 (by decide) (cnb rfl) ?_
  refine a_aload_n (pc := 78) dX12_feels_78 rfl ?_
  refine a_getr (pc := 79) dX12_feels_79 f_X12_7 rfl ?_
  refine a_bipush (pc := 82) dX12_feels_82 (by decide) (cnb rfl) ?_
  refine a_iload_n (pc := 84) dX12_feels_84 rfl ?_
  refine a_iadd (pc := 85) dX12_feels_85 h.1 ?_
  replace h := h.2
  refine a_ialdE (pc := 86) (M 77 (48 + a)) dX12_feels_86 rfl h.1.1 h.1.2 ((mput_ne _ _ _ _ (by decide)).trans ((mput_ne _ _ _ _ (by decide)).trans ((mput_ne _ _ _ _ (by decide)).trans ((mput_ne _ _ _ _ (by decide)).trans ((mput_ne _ _ _ _ (by decide)).trans (mput_ne _ _ _ _ (by decide))))))) ?_
  replace h := h.2
  refine a_iast (pc := 87) dX12_feels_87 rfl (by decide) (by decide) ?_
  refine a_aload_n (pc := 88) dX12_feels_88 rfl ?_
  refine a_getr (pc := 89) dX12_feels_89 f_X12_83 rfl ?_
  refine a_bipush (pc := 92) dX12_feels_92 (by decide) (cnb rfl) ?_
  refine a_aload_n (pc := 94) dX12_feels_94 rfl ?_
  refine a_getr (pc := 95) dX12_feels_95 f_X12_7 rfl ?_
  refine a_bipush (pc := 98) dX12_feels_98 (by decide) (cnb rfl) ?_
  refine a_iload_n (pc := 100) dX12_feels_100 rfl ?_
  refine a_iadd (pc := 101) dX12_feels_101 h.1 ?_
  replace h := h.2
  refine a_ialdE (pc := 102) (M 77 (16 + a)) dX12_feels_102 rfl h.1.1 h.1.2 ((mput_ne _ _ _ _ (by decide)).trans ((mput_ne _ _ _ _ (by decide)).trans ((mput_ne _ _ _ _ (by decide)).trans ((mput_ne _ _ _ _ (by decide)).trans ((mput_ne _ _ _ _ (by decide)).trans ((mput_ne _ _ _ _ (by decide)).trans (mput_ne _ _ _ _ (by decide)))))))) ?_
  replace h := h.2
  refine a_aload_n (pc := 103) dX12_feels_103 rfl ?_
  refine a_iload_n (pc := 104) dX12_feels_104 rfl ?_
  refine a_callVi (pc := 105) (d := 0) (st := [.inl (M 77 (16 + a)), .inl 7, .inr 101]) (o := 76) [.inl a] dX12_feels_105 l_X12_300 in_X12_goalOf se_X12_goalOf rfl rfl rfl ⟨Nat.le_of_ble_eq_true rfl, Nat.le_of_ble_eq_true rfl⟩ ⟨Nat.le_of_ble_eq_true rfl, Nat.le_of_ble_eq_true rfl⟩ (Nat.le_of_ble_eq_true rfl) ?_
  refine Calls.mono (fun r105 M105 hr105 hM105 h => ?_) h
  refine a_callSi (pc := 108) (d := 1) (st := [.inl 7, .inr 101]) [.inl (M 77 (16 + a)), .inl r105] dX12_feels_108 l_X12_303 st_X12_stepsBetween rfl ⟨Nat.le_of_ble_eq_true rfl, Nat.le_of_ble_eq_true rfl⟩ ⟨Nat.le_of_ble_eq_true rfl, Nat.le_of_ble_eq_true rfl⟩ (Nat.le_of_ble_eq_true rfl) ?_
  have hp108_1 := h.1
  replace h := h.2
  have hp108_2 := h.1
  replace h := h.2
  refine p_X12_stepsBetween hp108_1 hp108_2 ?_
  refine a_iast (pc := 111) dX12_feels_111 rfl (by decide) (by decide) ?_
  refine a_aload_n (pc := 112) dX12_feels_112 rfl ?_
  refine a_getr (pc := 113) dX12_feels_113 f_X12_83 rfl ?_
  refine a_bipush (pc := 116) dX12_feels_116 (by decide) (cnb rfl) ?_
  refine a_aload_n (pc := 118) dX12_feels_118 rfl ?_
  refine a_iload_n (pc := 119) dX12_feels_119 rfl ?_
  refine a_callVi (pc := 120) (d := 0) (st := [.inl 8, .inr 101]) (o := 76) [.inl a] dX12_feels_120 l_X12_306 in_X12_othersAt se_X12_othersAt rfl rfl rfl ⟨Nat.le_of_ble_eq_true rfl, Nat.le_of_ble_eq_true rfl⟩ ⟨Nat.le_of_ble_eq_true rfl, Nat.le_of_ble_eq_true rfl⟩ (Nat.le_of_ble_eq_true rfl) ?_
  refine Calls.mono (fun r120 M120 hr120 hM120 h => ?_) h
  refine a_iast (pc := 123) dX12_feels_123 rfl (by decide) (by decide) ?_
  refine a_aload_n (pc := 124) dX12_feels_124 rfl ?_
  refine a_getr (pc := 125) dX12_feels_125 f_X12_83 rfl ?_
  refine a_bipush (pc := 128) dX12_feels_128 (by decide) (cnb rfl) ?_
  refine a_aload_n (pc := 130) dX12_feels_130 rfl ?_
  refine a_getr (pc := 131) dX12_feels_131 f_X12_7 rfl ?_
  refine a_bipush (pc := 134) dX12_feels_134 (by decide) (cnb rfl) ?_
  refine a_ialdE (pc := 136) (M120 77 80) dX12_feels_136 rfl (by decide) (by decide) (mput_ne _ _ _ _ (by decide)) ?_
  refine a_bipush (pc := 137) dX12_feels_137 (by decide) (cnb rfl) ?_
  refine a_iremn (pc := 139) dX12_feels_139 (by decide) h.1 ?_
  replace h := h.2
  refine a_iast (pc := 140) dX12_feels_140 rfl (by decide) (by decide) ?_
  refine a_aload_n (pc := 141) dX12_feels_141 rfl ?_
  refine a_getr (pc := 142) dX12_feels_142 f_X12_83 rfl ?_
  refine a_bipush (pc := 145) dX12_feels_145 (by decide) (cnb rfl) ?_
  refine a_iload_n (pc := 147) dX12_feels_147 rfl ?_
  refine a_iast (pc := 148) dX12_feels_148 rfl (by decide) (by decide) ?_
  exact a_ret (pc := 149) dX12_feels_149 rfl h
set_option maxRecDepth 20000 in
theorem e_X12_feels {Q : Int → Me → Prop}  {a b : Int} {M : Me} (h :
    cn (0 + a) ∧
    (0 ≤ 0 + a ∧ 0 + a < 82) ∧
    cn (32 + a) ∧
    (0 ≤ 32 + a ∧ 32 + a < 82) ∧
    (0 ≤ a ∧ a < 16) ∧
    (0 ≤ a ∧ a < 16) ∧
    (0 ≤ a ∧ a < 16) ∧
    cn (48 + a) ∧
    (0 ≤ 48 + a ∧ 48 + a < 82) ∧
    cn (16 + a) ∧
    (0 ≤ 16 + a ∧ 16 + a < 82) ∧
    Calls 0 mX12_goalOf [.inr 76, .inl a] (mput (mput (mput (mput (mput (mput (mput M 101 0 a) 101 1 (M 77 (0 + a))) 101 2 (M 77 (32 + a))) 101 3 (M 83 a)) 101 4 (M 84 a)) 101 5 (M 85 a)) 101 6 (M 77 (48 + a))) (fun r105 M105 =>
    0 ≤ M 77 (16 + a) ∧
    0 ≤ r105 ∧
    Calls 0 mX12_othersAt [.inr 76, .inl a] (mput M105 101 7 (dst (M 77 (16 + a)) r105)) (fun r120 M120 =>
    0 ≤ (M120 77 80) ∧
    Q 0 (mput (mput (mput M120 101 8 r120) 101 9 ((M120 77 80) % 100)) 101 10 b)))) : Calls 2 mX12_feels [.inr 76, .inl a, .inl b] M Q := Calls.of (by decide) (Nat.le_of_ble_eq_true rfl) (s_X12_feels_0  a b M h)
set_option maxRecDepth 20000 in
theorem s_X12_turnsIfThere_0 {Q : Int → Me → Prop}  (a : Int) (M : Me) (h :
    cn (16 + a) ∧
    (0 ≤ 16 + a ∧ 16 + a < 82) ∧
    Calls 0 mX12_goalOf [.inr 76, .inl a] M (fun r11 M11 =>
    ((M 77 (16 + a) = r11 →
    cn (64 + a) ∧
    (0 ≤ 64 + a ∧ 64 + a < 82) ∧
    ((M11 77 (64 + a) ≠ 0 →
    cn (64 + a) ∧
    cn (64 + a) ∧
    (0 ≤ 64 + a ∧ 64 + a < 82) ∧
    cn (1 - (M11 77 (64 + a))) ∧
    (0 ≤ 64 + a ∧ 64 + a < 82) ∧
    Q 0 (mput M11 77 (64 + a) (1 - (M11 77 (64 + a))))) ∧ (M11 77 (64 + a) = 0 →
    cn (48 + a) ∧
    cn (48 + a) ∧
    (0 ≤ 48 + a ∧ 48 + a < 82) ∧
    cn ((M11 77 (48 + a)) + 1) ∧
    (0 ≤ 48 + a ∧ 48 + a < 82) ∧
    cn (32 + a) ∧
    (0 ≤ 32 + a ∧ 32 + a < 82) ∧
    cn ((M11 76 44) + 1) ∧
    cn (64 + a) ∧
    cn (64 + a) ∧
    (0 ≤ 64 + a ∧ 64 + a < 82) ∧
    cn (1 - ((mput (mput M11 77 (48 + a) (min 9999 ((M11 77 (48 + a)) + 1))) 77 (32 + a) 99) 77 (64 + a))) ∧
    (0 ≤ 64 + a ∧ 64 + a < 82) ∧
    Q 0 (mput (mput (mput (mput M11 77 (48 + a) (min 9999 ((M11 77 (48 + a)) + 1))) 77 (32 + a) 99) 76 44 ((M11 76 44) + 1)) 77 (64 + a) (1 - ((mput (mput M11 77 (48 + a) (min 9999 ((M11 77 (48 + a)) + 1))) 77 (32 + a) 99) 77 (64 + a))))))) ∧ (M 77 (16 + a) ≠ r11 →
    Q 0 M11)))) :
    Go (km 1 mX12_turnsIfThere Q) 0 [some (.inr 76), some (.inl a)] [] M := by
  refine a_aload_n (pc := 0) dX12_turnsIfThere_0 rfl ?_
  refine a_getr (pc := 1) dX12_turnsIfThere_1 f_X12_7 rfl ?_
  refine a_bipush (pc := 4) dX12_turnsIfThere_4 (by decide) (cnb rfl) ?_
  refine a_iload_n (pc := 6) dX12_turnsIfThere_6 rfl ?_
  refine a_iadd (pc := 7) dX12_turnsIfThere_7 h.1 ?_
  replace h := h.2
  refine a_iald (pc := 8) dX12_turnsIfThere_8 rfl h.1.1 h.1.2  ?_
  replace h := h.2
  refine a_aload_n (pc := 9) dX12_turnsIfThere_9 rfl ?_
  refine a_iload_n (pc := 10) dX12_turnsIfThere_10 rfl ?_
  refine a_callVi (pc := 11) (d := 0) (st := [.inl (M 77 (16 + a))]) (o := 76) [.inl a] dX12_turnsIfThere_11 l_X12_300 in_X12_goalOf se_X12_goalOf rfl rfl rfl ⟨Nat.le_of_ble_eq_true rfl, Nat.le_of_ble_eq_true rfl⟩ ⟨Nat.le_of_ble_eq_true rfl, Nat.le_of_ble_eq_true rfl⟩ (Nat.le_of_ble_eq_true rfl) ?_
  refine Calls.mono (fun r11 M11 hr11 hM11 h => ?_) h
  refine a_icmp_eq (pc := 14) 18 dX12_turnsIfThere_14 rfl ⟨fun hc => ?_, fun hc => ?_⟩
  · replace h := h.1 hc
    refine a_aload_n (pc := 18) dX12_turnsIfThere_18 rfl ?_
    refine a_getr (pc := 19) dX12_turnsIfThere_19 f_X12_7 rfl ?_
    refine a_bipush (pc := 22) dX12_turnsIfThere_22 (by decide) (cnb rfl) ?_
    refine a_iload_n (pc := 24) dX12_turnsIfThere_24 rfl ?_
    refine a_iadd (pc := 25) dX12_turnsIfThere_25 h.1 ?_
    replace h := h.2
    refine a_iald (pc := 26) dX12_turnsIfThere_26 rfl h.1.1 h.1.2  ?_
    replace h := h.2
    refine a_if_ne (pc := 27) 77 dX12_turnsIfThere_27 rfl ⟨fun hc => ?_, fun hc => ?_⟩
    · replace h := h.1 hc
      refine a_aload_n (pc := 77) dX12_turnsIfThere_77 rfl ?_
      refine a_getr (pc := 78) dX12_turnsIfThere_78 f_X12_7 rfl ?_
      refine a_bipush (pc := 81) dX12_turnsIfThere_81 (by decide) (cnb rfl) ?_
      refine a_iload_n (pc := 83) dX12_turnsIfThere_83 rfl ?_
      refine a_iadd (pc := 84) dX12_turnsIfThere_84 h.1 ?_
      replace h := h.2
      refine a_iconst (pc := 85) dX12_turnsIfThere_85 (cnb rfl) ?_
      refine a_aload_n (pc := 86) dX12_turnsIfThere_86 rfl ?_
      refine a_getr (pc := 87) dX12_turnsIfThere_87 f_X12_7 rfl ?_
      refine a_bipush (pc := 90) dX12_turnsIfThere_90 (by decide) (cnb rfl) ?_
      refine a_iload_n (pc := 92) dX12_turnsIfThere_92 rfl ?_
      refine a_iadd (pc := 93) dX12_turnsIfThere_93 h.1 ?_
      replace h := h.2
      refine a_iald (pc := 94) dX12_turnsIfThere_94 rfl h.1.1 h.1.2  ?_
      replace h := h.2
      refine a_isub (pc := 95) dX12_turnsIfThere_95 h.1 ?_
      replace h := h.2
      refine a_iast (pc := 96) dX12_turnsIfThere_96 rfl h.1.1 h.1.2 ?_
      replace h := h.2
      exact a_ret (pc := 97) dX12_turnsIfThere_97 rfl h
    · replace h := h.2 hc
      refine a_aload_n (pc := 30) dX12_turnsIfThere_30 rfl ?_
      refine a_getr (pc := 31) dX12_turnsIfThere_31 f_X12_7 rfl ?_
      refine a_bipush (pc := 34) dX12_turnsIfThere_34 (by decide) (cnb rfl) ?_
      refine a_iload_n (pc := 36) dX12_turnsIfThere_36 rfl ?_
      refine a_iadd (pc := 37) dX12_turnsIfThere_37 h.1 ?_
      replace h := h.2
      refine a_sipush (pc := 38) dX12_turnsIfThere_38 (by decide) (cnb rfl) ?_
      refine a_aload_n (pc := 41) dX12_turnsIfThere_41 rfl ?_
      refine a_getr (pc := 42) dX12_turnsIfThere_42 f_X12_7 rfl ?_
      refine a_bipush (pc := 45) dX12_turnsIfThere_45 (by decide) (cnb rfl) ?_
      refine a_iload_n (pc := 47) dX12_turnsIfThere_47 rfl ?_
      refine a_iadd (pc := 48) dX12_turnsIfThere_48 h.1 ?_
      replace h := h.2
      refine a_iald (pc := 49) dX12_turnsIfThere_49 rfl h.1.1 h.1.2  ?_
      replace h := h.2
      refine a_iconst (pc := 50) dX12_turnsIfThere_50 (cnb rfl) ?_
      refine a_iadd (pc := 51) dX12_turnsIfThere_51 h.1 ?_
      replace h := h.2
      refine a_callSi (pc := 52) (d := 0) (st := [.inl (48 + a), .inr 77]) [.inl 9999, .inl ((M11 77 (48 + a)) + 1)] dX12_turnsIfThere_52 l_X12_309 st_X12_min rfl ⟨Nat.le_of_ble_eq_true rfl, Nat.le_of_ble_eq_true rfl⟩ ⟨Nat.le_of_ble_eq_true rfl, Nat.le_of_ble_eq_true rfl⟩ (Nat.le_of_ble_eq_true rfl) ?_
      refine p_X12_min ?_
      refine a_iast (pc := 55) dX12_turnsIfThere_55 rfl h.1.1 h.1.2 ?_
      replace h := h.2
      refine a_aload_n (pc := 56) dX12_turnsIfThere_56 rfl ?_
      refine a_getr (pc := 57) dX12_turnsIfThere_57 f_X12_7 rfl ?_
      refine a_bipush (pc := 60) dX12_turnsIfThere_60 (by decide) (cnb rfl) ?_
      refine a_iload_n (pc := 62) dX12_turnsIfThere_62 rfl ?_
      refine a_iadd (pc := 63) dX12_turnsIfThere_63 h.1 ?_
      replace h := h.2
      refine a_bipush (pc := 64) dX12_turnsIfThere_64 (by decide) (cnb rfl) ?_
      refine a_iast (pc := 66) dX12_turnsIfThere_66 rfl h.1.1 h.1.2 ?_
      replace h := h.2
      refine a_aload_n (pc := 67) dX12_turnsIfThere_67 rfl ?_
      refine a_aload_n (pc := 68) dX12_turnsIfThere_68 rfl ?_
      refine a_getiE (pc := 69) (M11 76 44) 44 dX12_turnsIfThere_69 f_X12_312 rfl rfl ((mput_ne _ _ _ _ (by decide)).trans (mput_ne _ _ _ _ (by decide))) ?_
      refine a_iconst (pc := 72) dX12_turnsIfThere_72 (cnb rfl) ?_
      refine a_iadd (pc := 73) dX12_turnsIfThere_73 h.1 ?_
      replace h := h.2
      refine a_puti (pc := 74) 44 dX12_turnsIfThere_74 f_X12_312 rfl rfl (Or.inl rfl) ?_
      refine a_aload_n (pc := 77) dX12_turnsIfThere_77 rfl ?_
      refine a_getr (pc := 78) dX12_turnsIfThere_78 f_X12_7 rfl ?_
      refine a_bipush (pc := 81) dX12_turnsIfThere_81 (by decide) (cnb rfl) ?_
      refine a_iload_n (pc := 83) dX12_turnsIfThere_83 rfl ?_
      refine a_iadd (pc := 84) dX12_turnsIfThere_84 h.1 ?_
      replace h := h.2
      refine a_iconst (pc := 85) dX12_turnsIfThere_85 (cnb rfl) ?_
      refine a_aload_n (pc := 86) dX12_turnsIfThere_86 rfl ?_
      refine a_getr (pc := 87) dX12_turnsIfThere_87 f_X12_7 rfl ?_
      refine a_bipush (pc := 90) dX12_turnsIfThere_90 (by decide) (cnb rfl) ?_
      refine a_iload_n (pc := 92) dX12_turnsIfThere_92 rfl ?_
      refine a_iadd (pc := 93) dX12_turnsIfThere_93 h.1 ?_
      replace h := h.2
      refine a_ialdE (pc := 94) ((mput (mput M11 77 (48 + a) (min 9999 ((M11 77 (48 + a)) + 1))) 77 (32 + a) 99) 77 (64 + a)) dX12_turnsIfThere_94 rfl h.1.1 h.1.2 (mput_ne _ _ _ _ (by decide)) ?_
      replace h := h.2
      refine a_isub (pc := 95) dX12_turnsIfThere_95 h.1 ?_
      replace h := h.2
      refine a_iast (pc := 96) dX12_turnsIfThere_96 rfl h.1.1 h.1.2 ?_
      replace h := h.2
      exact a_ret (pc := 97) dX12_turnsIfThere_97 rfl h
  · replace h := h.2 hc
    exact a_ret (pc := 17) dX12_turnsIfThere_17 rfl h
set_option maxRecDepth 20000 in
theorem e_X12_turnsIfThere {Q : Int → Me → Prop}  {a : Int} {M : Me} (h :
    cn (16 + a) ∧
    (0 ≤ 16 + a ∧ 16 + a < 82) ∧
    Calls 0 mX12_goalOf [.inr 76, .inl a] M (fun r11 M11 =>
    ((M 77 (16 + a) = r11 →
    cn (64 + a) ∧
    (0 ≤ 64 + a ∧ 64 + a < 82) ∧
    ((M11 77 (64 + a) ≠ 0 →
    cn (64 + a) ∧
    cn (64 + a) ∧
    (0 ≤ 64 + a ∧ 64 + a < 82) ∧
    cn (1 - (M11 77 (64 + a))) ∧
    (0 ≤ 64 + a ∧ 64 + a < 82) ∧
    Q 0 (mput M11 77 (64 + a) (1 - (M11 77 (64 + a))))) ∧ (M11 77 (64 + a) = 0 →
    cn (48 + a) ∧
    cn (48 + a) ∧
    (0 ≤ 48 + a ∧ 48 + a < 82) ∧
    cn ((M11 77 (48 + a)) + 1) ∧
    (0 ≤ 48 + a ∧ 48 + a < 82) ∧
    cn (32 + a) ∧
    (0 ≤ 32 + a ∧ 32 + a < 82) ∧
    cn ((M11 76 44) + 1) ∧
    cn (64 + a) ∧
    cn (64 + a) ∧
    (0 ≤ 64 + a ∧ 64 + a < 82) ∧
    cn (1 - ((mput (mput M11 77 (48 + a) (min 9999 ((M11 77 (48 + a)) + 1))) 77 (32 + a) 99) 77 (64 + a))) ∧
    (0 ≤ 64 + a ∧ 64 + a < 82) ∧
    Q 0 (mput (mput (mput (mput M11 77 (48 + a) (min 9999 ((M11 77 (48 + a)) + 1))) 77 (32 + a) 99) 76 44 ((M11 76 44) + 1)) 77 (64 + a) (1 - ((mput (mput M11 77 (48 + a) (min 9999 ((M11 77 (48 + a)) + 1))) 77 (32 + a) 99) 77 (64 + a))))))) ∧ (M 77 (16 + a) ≠ r11 →
    Q 0 M11)))) : Calls 1 mX12_turnsIfThere [.inr 76, .inl a] M Q := Calls.of (by decide) (Nat.le_of_ble_eq_true rfl) (s_X12_turnsIfThere_0  a M h)
set_option maxRecDepth 20000 in
theorem s_X12_steps_0 {Q : Int → Me → Prop}  (a : Int) (M : Me) (h :
    cn (16 + a) ∧
    (0 ≤ 16 + a ∧ 16 + a < 82) ∧
    0 ≤ (M 77 (16 + a)) ∧
    cn (16 + a) ∧
    (0 ≤ 16 + a ∧ 16 + a < 82) ∧
    0 ≤ (M 77 (16 + a)) ∧
    Calls 0 mX12_goalOf [.inr 76, .inl a] M (fun r28 M28 =>
    0 ≤ r28 ∧
    Calls 0 mX12_goalOf [.inr 76, .inl a] M28 (fun r38 M38 =>
    0 ≤ r38 ∧
    (((M 77 (16 + a)) % 24 = r28 % 24 →
    (((M 77 (16 + a)) / 24 = r38 / 24 →
    Q 0 M38) ∧ ((M 77 (16 + a)) / 24 ≠ r38 / 24 →
    cn (16 + a) ∧
    cn (16 + a) ∧
    (0 ≤ 16 + a ∧ 16 + a < 82) ∧
    ((r38 / 24 ≤ (M 77 (16 + a)) / 24 →
    cn ((M38 77 (16 + a)) + (-24)) ∧
    (0 ≤ 16 + a ∧ 16 + a < 82) ∧
    Q 0 (mput M38 77 (16 + a) ((M38 77 (16 + a)) + (-24)))) ∧ ((M 77 (16 + a)) / 24 < r38 / 24 →
    cn ((M38 77 (16 + a)) + 24) ∧
    (0 ≤ 16 + a ∧ 16 + a < 82) ∧
    Q 0 (mput M38 77 (16 + a) ((M38 77 (16 + a)) + 24))))))) ∧ ((M 77 (16 + a)) % 24 ≠ r28 % 24 →
    cn (16 + a) ∧
    cn (16 + a) ∧
    (0 ≤ 16 + a ∧ 16 + a < 82) ∧
    ((r28 % 24 ≤ (M 77 (16 + a)) % 24 →
    cn ((M38 77 (16 + a)) + (-1)) ∧
    (0 ≤ 16 + a ∧ 16 + a < 82) ∧
    Q 0 (mput M38 77 (16 + a) ((M38 77 (16 + a)) + (-1)))) ∧ ((M 77 (16 + a)) % 24 < r28 % 24 →
    cn ((M38 77 (16 + a)) + 1) ∧
    (0 ≤ 16 + a ∧ 16 + a < 82) ∧
    Q 0 (mput M38 77 (16 + a) ((M38 77 (16 + a)) + 1))))))))) :
    Go (km 1 mX12_steps Q) 0 [some (.inr 76), some (.inl a), none, none, none, none] [] M := by
  refine a_aload_n (pc := 0) dX12_steps_0 rfl ?_
  refine a_getr (pc := 1) dX12_steps_1 f_X12_7 rfl ?_
  refine a_bipush (pc := 4) dX12_steps_4 (by decide) (cnb rfl) ?_
  refine a_iload_n (pc := 6) dX12_steps_6 rfl ?_
  refine a_iadd (pc := 7) dX12_steps_7 h.1 ?_
  replace h := h.2
  refine a_iald (pc := 8) dX12_steps_8 rfl h.1.1 h.1.2  ?_
  replace h := h.2
  refine a_bipush (pc := 9) dX12_steps_9 (by decide) (cnb rfl) ?_
  refine a_iremn (pc := 11) dX12_steps_11 (by decide) h.1 ?_
  replace h := h.2
  refine a_istore_n (pc := 12) dX12_steps_12 (Nat.le_of_ble_eq_true rfl) ?_
  refine a_aload_n (pc := 13) dX12_steps_13 rfl ?_
  refine a_getr (pc := 14) dX12_steps_14 f_X12_7 rfl ?_
  refine a_bipush (pc := 17) dX12_steps_17 (by decide) (cnb rfl) ?_
  refine a_iload_n (pc := 19) dX12_steps_19 rfl ?_
  refine a_iadd (pc := 20) dX12_steps_20 h.1 ?_
  replace h := h.2
  refine a_iald (pc := 21) dX12_steps_21 rfl h.1.1 h.1.2  ?_
  replace h := h.2
  refine a_bipush (pc := 22) dX12_steps_22 (by decide) (cnb rfl) ?_
  refine a_idivn (pc := 24) dX12_steps_24 (by decide) h.1 ?_
  replace h := h.2
  refine a_istore_n (pc := 25) dX12_steps_25 (Nat.le_of_ble_eq_true rfl) ?_
  refine a_aload_n (pc := 26) dX12_steps_26 rfl ?_
  refine a_iload_n (pc := 27) dX12_steps_27 rfl ?_
  refine a_callVi (pc := 28) (d := 0) (st := []) (o := 76) [.inl a] dX12_steps_28 l_X12_300 in_X12_goalOf se_X12_goalOf rfl rfl rfl ⟨Nat.le_of_ble_eq_true rfl, Nat.le_of_ble_eq_true rfl⟩ ⟨Nat.le_of_ble_eq_true rfl, Nat.le_of_ble_eq_true rfl⟩ (Nat.le_of_ble_eq_true rfl) ?_
  refine Calls.mono (fun r28 M28 hr28 hM28 h => ?_) h
  refine a_bipush (pc := 31) dX12_steps_31 (by decide) (cnb rfl) ?_
  refine a_iremn (pc := 33) dX12_steps_33 (by decide) h.1 ?_
  replace h := h.2
  refine a_istore (pc := 34) dX12_steps_34 (Nat.le_of_ble_eq_true rfl) ?_
  refine a_aload_n (pc := 36) dX12_steps_36 rfl ?_
  refine a_iload_n (pc := 37) dX12_steps_37 rfl ?_
  refine a_callVi (pc := 38) (d := 0) (st := []) (o := 76) [.inl a] dX12_steps_38 l_X12_300 in_X12_goalOf se_X12_goalOf rfl rfl rfl ⟨Nat.le_of_ble_eq_true rfl, Nat.le_of_ble_eq_true rfl⟩ ⟨Nat.le_of_ble_eq_true rfl, Nat.le_of_ble_eq_true rfl⟩ (Nat.le_of_ble_eq_true rfl) ?_
  refine Calls.mono (fun r38 M38 hr38 hM38 h => ?_) h
  refine a_bipush (pc := 41) dX12_steps_41 (by decide) (cnb rfl) ?_
  refine a_idivn (pc := 43) dX12_steps_43 (by decide) h.1 ?_
  replace h := h.2
  refine a_istore (pc := 44) dX12_steps_44 (Nat.le_of_ble_eq_true rfl) ?_
  refine a_iload_n (pc := 46) dX12_steps_46 rfl ?_
  refine a_iload (pc := 47) dX12_steps_47 rfl ?_
  refine a_icmp_eq (pc := 49) 85 dX12_steps_49 rfl ⟨fun hc => ?_, fun hc => ?_⟩
  · replace h := h.1 hc
    refine a_iload_n (pc := 85) dX12_steps_85 rfl ?_
    refine a_iload (pc := 86) dX12_steps_86 rfl ?_
    refine a_icmp_eq (pc := 88) 123 dX12_steps_88 rfl ⟨fun hc => ?_, fun hc => ?_⟩
    · replace h := h.1 hc
      exact a_ret (pc := 123) dX12_steps_123 rfl h
    · replace h := h.2 hc
      refine a_aload_n (pc := 91) dX12_steps_91 rfl ?_
      refine a_getr (pc := 92) dX12_steps_92 f_X12_7 rfl ?_
      refine a_bipush (pc := 95) dX12_steps_95 (by decide) (cnb rfl) ?_
      refine a_iload_n (pc := 97) dX12_steps_97 rfl ?_
      refine a_iadd (pc := 98) dX12_steps_98 h.1 ?_
      replace h := h.2
      refine a_aload_n (pc := 99) dX12_steps_99 rfl ?_
      refine a_getr (pc := 100) dX12_steps_100 f_X12_7 rfl ?_
      refine a_bipush (pc := 103) dX12_steps_103 (by decide) (cnb rfl) ?_
      refine a_iload_n (pc := 105) dX12_steps_105 rfl ?_
      refine a_iadd (pc := 106) dX12_steps_106 h.1 ?_
      replace h := h.2
      refine a_iald (pc := 107) dX12_steps_107 rfl h.1.1 h.1.2  ?_
      replace h := h.2
      refine a_iload (pc := 108) dX12_steps_108 rfl ?_
      refine a_iload_n (pc := 110) dX12_steps_110 rfl ?_
      refine a_icmp_le (pc := 111) 119 dX12_steps_111 rfl ⟨fun hc => ?_, fun hc => ?_⟩
      · replace h := h.1 hc
        refine a_bipush (pc := 119) dX12_steps_119 (by decide) (cnb rfl) ?_
        refine a_iadd (pc := 121) dX12_steps_121 h.1 ?_
        replace h := h.2
        refine a_iast (pc := 122) dX12_steps_122 rfl h.1.1 h.1.2 ?_
        replace h := h.2
        exact a_ret (pc := 123) dX12_steps_123 rfl h
      · replace h := h.2 hc
        refine a_bipush (pc := 114) dX12_steps_114 (by decide) (cnb rfl) ?_
        refine a_goto (pc := 116) 121 dX12_steps_116 rfl ?_
        refine a_iadd (pc := 121) dX12_steps_121 h.1 ?_
        replace h := h.2
        refine a_iast (pc := 122) dX12_steps_122 rfl h.1.1 h.1.2 ?_
        replace h := h.2
        exact a_ret (pc := 123) dX12_steps_123 rfl h
  · replace h := h.2 hc
    refine a_aload_n (pc := 52) dX12_steps_52 rfl ?_
    refine a_getr (pc := 53) dX12_steps_53 f_X12_7 rfl ?_
    refine a_bipush (pc := 56) dX12_steps_56 (by decide) (cnb rfl) ?_
    refine a_iload_n (pc := 58) dX12_steps_58 rfl ?_
    refine a_iadd (pc := 59) dX12_steps_59 h.1 ?_
    replace h := h.2
    refine a_aload_n (pc := 60) dX12_steps_60 rfl ?_
    refine a_getr (pc := 61) dX12_steps_61 f_X12_7 rfl ?_
    refine a_bipush (pc := 64) dX12_steps_64 (by decide) (cnb rfl) ?_
    refine a_iload_n (pc := 66) dX12_steps_66 rfl ?_
    refine a_iadd (pc := 67) dX12_steps_67 h.1 ?_
    replace h := h.2
    refine a_iald (pc := 68) dX12_steps_68 rfl h.1.1 h.1.2  ?_
    replace h := h.2
    refine a_iload (pc := 69) dX12_steps_69 rfl ?_
    refine a_iload_n (pc := 71) dX12_steps_71 rfl ?_
    refine a_icmp_le (pc := 72) 79 dX12_steps_72 rfl ⟨fun hc => ?_, fun hc => ?_⟩
    · replace h := h.1 hc
      refine a_iconst (pc := 79) dX12_steps_79 (cnb rfl) ?_
      refine a_iadd (pc := 80) dX12_steps_80 h.1 ?_
      replace h := h.2
      refine a_iast (pc := 81) dX12_steps_81 rfl h.1.1 h.1.2 ?_
      replace h := h.2
      refine a_goto (pc := 82) 123 dX12_steps_82 rfl ?_
      exact a_ret (pc := 123) dX12_steps_123 rfl h
    · replace h := h.2 hc
      refine a_iconst (pc := 75) dX12_steps_75 (cnb rfl) ?_
      refine a_goto (pc := 76) 80 dX12_steps_76 rfl ?_
      refine a_iadd (pc := 80) dX12_steps_80 h.1 ?_
      replace h := h.2
      refine a_iast (pc := 81) dX12_steps_81 rfl h.1.1 h.1.2 ?_
      replace h := h.2
      refine a_goto (pc := 82) 123 dX12_steps_82 rfl ?_
      exact a_ret (pc := 123) dX12_steps_123 rfl h
set_option maxRecDepth 20000 in
theorem e_X12_steps {Q : Int → Me → Prop}  {a : Int} {M : Me} (h :
    cn (16 + a) ∧
    (0 ≤ 16 + a ∧ 16 + a < 82) ∧
    0 ≤ (M 77 (16 + a)) ∧
    cn (16 + a) ∧
    (0 ≤ 16 + a ∧ 16 + a < 82) ∧
    0 ≤ (M 77 (16 + a)) ∧
    Calls 0 mX12_goalOf [.inr 76, .inl a] M (fun r28 M28 =>
    0 ≤ r28 ∧
    Calls 0 mX12_goalOf [.inr 76, .inl a] M28 (fun r38 M38 =>
    0 ≤ r38 ∧
    (((M 77 (16 + a)) % 24 = r28 % 24 →
    (((M 77 (16 + a)) / 24 = r38 / 24 →
    Q 0 M38) ∧ ((M 77 (16 + a)) / 24 ≠ r38 / 24 →
    cn (16 + a) ∧
    cn (16 + a) ∧
    (0 ≤ 16 + a ∧ 16 + a < 82) ∧
    ((r38 / 24 ≤ (M 77 (16 + a)) / 24 →
    cn ((M38 77 (16 + a)) + (-24)) ∧
    (0 ≤ 16 + a ∧ 16 + a < 82) ∧
    Q 0 (mput M38 77 (16 + a) ((M38 77 (16 + a)) + (-24)))) ∧ ((M 77 (16 + a)) / 24 < r38 / 24 →
    cn ((M38 77 (16 + a)) + 24) ∧
    (0 ≤ 16 + a ∧ 16 + a < 82) ∧
    Q 0 (mput M38 77 (16 + a) ((M38 77 (16 + a)) + 24))))))) ∧ ((M 77 (16 + a)) % 24 ≠ r28 % 24 →
    cn (16 + a) ∧
    cn (16 + a) ∧
    (0 ≤ 16 + a ∧ 16 + a < 82) ∧
    ((r28 % 24 ≤ (M 77 (16 + a)) % 24 →
    cn ((M38 77 (16 + a)) + (-1)) ∧
    (0 ≤ 16 + a ∧ 16 + a < 82) ∧
    Q 0 (mput M38 77 (16 + a) ((M38 77 (16 + a)) + (-1)))) ∧ ((M 77 (16 + a)) % 24 < r28 % 24 →
    cn ((M38 77 (16 + a)) + 1) ∧
    (0 ≤ 16 + a ∧ 16 + a < 82) ∧
    Q 0 (mput M38 77 (16 + a) ((M38 77 (16 + a)) + 1))))))))) : Calls 1 mX12_steps [.inr 76, .inl a] M Q := Calls.of (by decide) (Nat.le_of_ble_eq_true rfl) (s_X12_steps_0  a M h)
set_option maxRecDepth 20000 in
theorem s_X12_goesAbout_0 {Q : Int → Me → Prop}  (a b : Int) (M : Me) (h :
    (0 ≤ a ∧ a < 16) ∧
    ((M 84 a ≠ 1 →
    (0 ≤ a ∧ a < 16) ∧
    cn (b + (M 85 a)) ∧
    Calls 1 mX12_turnsIfThere [.inr 76, .inl a] M (fun r27 M27 =>
    Go (km 2 mX12_goesAbout Q) 33 [some (.inr 76), some (.inl a), none, some (.inl (b + (M 85 a))), some (.inl 0)] [] M27)) ∧ (M 84 a = 1 →
    0 ≤ b ∧
    (0 ≤ a ∧ a < 16) ∧
    cn ((b / 2) + (M 85 a)) ∧
    Calls 1 mX12_turnsIfThere [.inr 76, .inl a] M (fun r27 M27 =>
    Go (km 2 mX12_goesAbout Q) 33 [some (.inr 76), some (.inl a), none, some (.inl ((b / 2) + (M 85 a))), some (.inl 0)] [] M27)))) :
    Go (km 2 mX12_goesAbout Q) 0 [some (.inr 76), some (.inl a), some (.inl b), none, none] [] M := by
  refine a_aload_n (pc := 0) dX12_goesAbout_0 rfl ?_
  refine a_getr (pc := 1) dX12_goesAbout_1 f_X12_31 rfl ?_
  refine a_iload_n (pc := 4) dX12_goesAbout_4 rfl ?_
  refine a_iald (pc := 5) dX12_goesAbout_5 rfl h.1.1 h.1.2  ?_
  replace h := h.2
  refine a_iconst (pc := 6) dX12_goesAbout_6 (cnb rfl) ?_
  refine a_icmp_ne (pc := 7) 16 dX12_goesAbout_7 rfl ⟨fun hc => ?_, fun hc => ?_⟩
  · replace h := h.1 hc
    refine a_iload_n (pc := 16) dX12_goesAbout_16 rfl ?_
    refine a_aload_n (pc := 17) dX12_goesAbout_17 rfl ?_
    refine a_getr (pc := 18) dX12_goesAbout_18 f_X12_34 rfl ?_
    refine a_iload_n (pc := 21) dX12_goesAbout_21 rfl ?_
    refine a_iald (pc := 22) dX12_goesAbout_22 rfl h.1.1 h.1.2  ?_
    replace h := h.2
    refine a_iadd (pc := 23) dX12_goesAbout_23 h.1 ?_
    replace h := h.2
    refine a_istore_n (pc := 24) dX12_goesAbout_24 (Nat.le_of_ble_eq_true rfl) ?_
    refine a_aload_n (pc := 25) dX12_goesAbout_25 rfl ?_
    refine a_iload_n (pc := 26) dX12_goesAbout_26 rfl ?_
    refine a_callVv (pc := 27) (d := 1) (st := []) (o := 76) [.inl a] dX12_goesAbout_27 l_X12_315 in_X12_turnsIfThere se_X12_turnsIfThere rfl rfl rfl ⟨Nat.le_of_ble_eq_true rfl, Nat.le_of_ble_eq_true rfl⟩ ⟨Nat.le_of_ble_eq_true rfl, Nat.le_of_ble_eq_true rfl⟩ (Nat.le_of_ble_eq_true rfl) ?_
    refine Calls.mono (fun r27 M27 hr27 hM27 h => ?_) h
    refine a_iconst (pc := 30) dX12_goesAbout_30 (cnb rfl) ?_
    refine a_istore (pc := 31) dX12_goesAbout_31 (Nat.le_of_ble_eq_true rfl) ?_
    exact Go.weak h (And.intro rfl (And.intro rfl (And.intro rfl (And.intro rfl True.intro))))
  · replace h := h.2 hc
    refine a_iload_n (pc := 10) dX12_goesAbout_10 rfl ?_
    refine a_iconst (pc := 11) dX12_goesAbout_11 (cnb rfl) ?_
    refine a_idivn (pc := 12) dX12_goesAbout_12 (by decide) h.1 ?_
    replace h := h.2
    refine a_goto (pc := 13) 17 dX12_goesAbout_13 rfl ?_
    refine a_aload_n (pc := 17) dX12_goesAbout_17 rfl ?_
    refine a_getr (pc := 18) dX12_goesAbout_18 f_X12_34 rfl ?_
    refine a_iload_n (pc := 21) dX12_goesAbout_21 rfl ?_
    refine a_iald (pc := 22) dX12_goesAbout_22 rfl h.1.1 h.1.2  ?_
    replace h := h.2
    refine a_iadd (pc := 23) dX12_goesAbout_23 h.1 ?_
    replace h := h.2
    refine a_istore_n (pc := 24) dX12_goesAbout_24 (Nat.le_of_ble_eq_true rfl) ?_
    refine a_aload_n (pc := 25) dX12_goesAbout_25 rfl ?_
    refine a_iload_n (pc := 26) dX12_goesAbout_26 rfl ?_
    refine a_callVv (pc := 27) (d := 1) (st := []) (o := 76) [.inl a] dX12_goesAbout_27 l_X12_315 in_X12_turnsIfThere se_X12_turnsIfThere rfl rfl rfl ⟨Nat.le_of_ble_eq_true rfl, Nat.le_of_ble_eq_true rfl⟩ ⟨Nat.le_of_ble_eq_true rfl, Nat.le_of_ble_eq_true rfl⟩ (Nat.le_of_ble_eq_true rfl) ?_
    refine Calls.mono (fun r27 M27 hr27 hM27 h => ?_) h
    refine a_iconst (pc := 30) dX12_goesAbout_30 (cnb rfl) ?_
    refine a_istore (pc := 31) dX12_goesAbout_31 (Nat.le_of_ble_eq_true rfl) ?_
    exact Go.weak h (And.intro rfl (And.intro rfl (And.intro rfl (And.intro rfl True.intro))))
set_option maxRecDepth 20000 in
theorem e_X12_goesAbout {Q : Int → Me → Prop}  {a b : Int} {M : Me} (h :
    (0 ≤ a ∧ a < 16) ∧
    ((M 84 a ≠ 1 →
    (0 ≤ a ∧ a < 16) ∧
    cn (b + (M 85 a)) ∧
    Calls 1 mX12_turnsIfThere [.inr 76, .inl a] M (fun r27 M27 =>
    Go (km 2 mX12_goesAbout Q) 33 [some (.inr 76), some (.inl a), none, some (.inl (b + (M 85 a))), some (.inl 0)] [] M27)) ∧ (M 84 a = 1 →
    0 ≤ b ∧
    (0 ≤ a ∧ a < 16) ∧
    cn ((b / 2) + (M 85 a)) ∧
    Calls 1 mX12_turnsIfThere [.inr 76, .inl a] M (fun r27 M27 =>
    Go (km 2 mX12_goesAbout Q) 33 [some (.inr 76), some (.inl a), none, some (.inl ((b / 2) + (M 85 a))), some (.inl 0)] [] M27)))) : Calls 2 mX12_goesAbout [.inr 76, .inl a, .inl b] M Q := Calls.of (by decide) (Nat.le_of_ble_eq_true rfl) (s_X12_goesAbout_0  a b M h)
set_option maxRecDepth 20000 in
theorem s_X12_goesAbout_33 {Q : Int → Me → Prop}  (x1 x3 x4 : Int) (M : Me) (h :
    ((x3 ≤ x4 →
    Q 0 M) ∧ (x4 < x3 →
    Calls 1 mX12_steps [.inr 76, .inl x1] M (fun r41 M41 =>
    Calls 1 mX12_turnsIfThere [.inr 76, .inl x1] M41 (fun r46 M46 =>
    cn (x4 + 1) ∧
    Go (km 2 mX12_goesAbout Q) 33 [some (.inr 76), some (.inl x1), none, some (.inl x3), some (.inl (x4 + 1))] [] M46))))) :
    Go (km 2 mX12_goesAbout Q) 33 [some (.inr 76), some (.inl x1), none, some (.inl x3), some (.inl x4)] [] M := by
  refine a_iload (pc := 33) dX12_goesAbout_33 rfl ?_
  refine a_iload_n (pc := 35) dX12_goesAbout_35 rfl ?_
  refine a_icmp_ge (pc := 36) 55 dX12_goesAbout_36 rfl ⟨fun hc => ?_, fun hc => ?_⟩
  · replace h := h.1 hc
    exact a_ret (pc := 55) dX12_goesAbout_55 rfl h
  · replace h := h.2 hc
    refine a_aload_n (pc := 39) dX12_goesAbout_39 rfl ?_
    refine a_iload_n (pc := 40) dX12_goesAbout_40 rfl ?_
    refine a_callVv (pc := 41) (d := 1) (st := []) (o := 76) [.inl x1] dX12_goesAbout_41 l_X12_318 in_X12_steps se_X12_steps rfl rfl rfl ⟨Nat.le_of_ble_eq_true rfl, Nat.le_of_ble_eq_true rfl⟩ ⟨Nat.le_of_ble_eq_true rfl, Nat.le_of_ble_eq_true rfl⟩ (Nat.le_of_ble_eq_true rfl) ?_
    refine Calls.mono (fun r41 M41 hr41 hM41 h => ?_) h
    refine a_aload_n (pc := 44) dX12_goesAbout_44 rfl ?_
    refine a_iload_n (pc := 45) dX12_goesAbout_45 rfl ?_
    refine a_callVv (pc := 46) (d := 1) (st := []) (o := 76) [.inl x1] dX12_goesAbout_46 l_X12_315 in_X12_turnsIfThere se_X12_turnsIfThere rfl rfl rfl ⟨Nat.le_of_ble_eq_true rfl, Nat.le_of_ble_eq_true rfl⟩ ⟨Nat.le_of_ble_eq_true rfl, Nat.le_of_ble_eq_true rfl⟩ (Nat.le_of_ble_eq_true rfl) ?_
    refine Calls.mono (fun r46 M46 hr46 hM46 h => ?_) h
    refine a_iinc (pc := 49) dX12_goesAbout_49 rfl h.1 (Nat.le_of_ble_eq_true rfl) ?_
    replace h := h.2
    refine a_goto (pc := 52) 33 dX12_goesAbout_52 rfl ?_
    exact h
set_option maxRecDepth 20000 in
theorem s_X12_turnOf_0 {Q : Int → Me → Prop}  (a : Int) (M : Me) (h :
    cn (25173 * (M 77 81)) ∧
    cn ((25173 * (M 77 81)) + 13849) ∧
    0 ≤ ((25173 * (M 77 81)) + 13849) ∧
    0 ≤ (((25173 * (M 77 81)) + 13849) % 65536) ∧
    Calls 2 mX12_feels [.inr 76, .inl a, .inl ((((25173 * (M 77 81)) + 13849) % 65536) % 10)] (mput M 77 81 (((25173 * (M 77 81)) + 13849) % 65536)) (fun r38 M38 =>
    Calls 2 mX12_holdsAny [.inr 76, .inl 120] M38 (fun r44 M44 =>
    Calls 2 mX12_byLaw [.inr 76, .inl 118, .inl 9, .inl 1] M44 (fun r54 M54 =>
    Calls 2 mX12_byLaw [.inr 76, .inl 102, .inl 99, .inl 0] M54 (fun r64 M64 =>
    ((r44 = 0 →
    cn (0 + a) ∧
    (0 ≤ 0 + a ∧ 0 + a < 82) ∧
    ((M64 77 (0 + a) ≠ 2 →
    cn (0 + a) ∧
    cn (0 + a) ∧
    (0 ≤ 0 + a ∧ 0 + a < 82) ∧
    cn ((M64 77 (0 + a)) + 1) ∧
    (0 ≤ 0 + a ∧ 0 + a < 82) ∧
    cn (32 + a) ∧
    cn (32 + a) ∧
    (0 ≤ 32 + a ∧ 32 + a < 82) ∧
    (0 ≤ a ∧ a < 16) ∧
    ((M64 83 a ≠ 1 →
    cn (((mput M64 77 (0 + a) ((M64 77 (0 + a)) + 1)) 77 (32 + a)) - r64) ∧
    (0 ≤ 32 + a ∧ 32 + a < 82) ∧
    cn (32 + a) ∧
    (0 ≤ 32 + a ∧ 32 + a < 82) ∧
    ((max 0 (((mput M64 77 (0 + a) ((M64 77 (0 + a)) + 1)) 77 (32 + a)) - r64) ≠ 0 →
    Q 0 (mput (mput M64 77 (0 + a) ((M64 77 (0 + a)) + 1)) 77 (32 + a) (max 0 (((mput M64 77 (0 + a) ((M64 77 (0 + a)) + 1)) 77 (32 + a)) - r64)))) ∧ (max 0 (((mput M64 77 (0 + a) ((M64 77 (0 + a)) + 1)) 77 (32 + a)) - r64) = 0 →
    cn (0 + a) ∧
    (0 ≤ 0 + a ∧ 0 + a < 82) ∧
    Q 0 (mput (mput (mput M64 77 (0 + a) ((M64 77 (0 + a)) + 1)) 77 (32 + a) (max 0 (((mput M64 77 (0 + a) ((M64 77 (0 + a)) + 1)) 77 (32 + a)) - r64))) 77 (0 + a) 3)))) ∧ (M64 83 a = 1 →
    0 ≤ r64 ∧
    cn (((mput M64 77 (0 + a) ((M64 77 (0 + a)) + 1)) 77 (32 + a)) - (r64 / 2)) ∧
    (0 ≤ 32 + a ∧ 32 + a < 82) ∧
    cn (32 + a) ∧
    (0 ≤ 32 + a ∧ 32 + a < 82) ∧
    ((max 0 (((mput M64 77 (0 + a) ((M64 77 (0 + a)) + 1)) 77 (32 + a)) - (r64 / 2)) ≠ 0 →
    Q 0 (mput (mput M64 77 (0 + a) ((M64 77 (0 + a)) + 1)) 77 (32 + a) (max 0 (((mput M64 77 (0 + a) ((M64 77 (0 + a)) + 1)) 77 (32 + a)) - (r64 / 2))))) ∧ (max 0 (((mput M64 77 (0 + a) ((M64 77 (0 + a)) + 1)) 77 (32 + a)) - (r64 / 2)) = 0 →
    cn (0 + a) ∧
    (0 ≤ 0 + a ∧ 0 + a < 82) ∧
    Q 0 (mput (mput (mput M64 77 (0 + a) ((M64 77 (0 + a)) + 1)) 77 (32 + a) (max 0 (((mput M64 77 (0 + a) ((M64 77 (0 + a)) + 1)) 77 (32 + a)) - (r64 / 2)))) 77 (0 + a) 3)))))) ∧ (M64 77 (0 + a) = 2 →
    Calls 2 mX12_goesAbout [.inr 76, .inl a, .inl r54] M64 (fun r98 M98 =>
    cn (32 + a) ∧
    cn (32 + a) ∧
    (0 ≤ 32 + a ∧ 32 + a < 82) ∧
    (0 ≤ a ∧ a < 16) ∧
    ((M98 83 a ≠ 1 →
    cn ((M98 77 (32 + a)) - r64) ∧
    (0 ≤ 32 + a ∧ 32 + a < 82) ∧
    cn (32 + a) ∧
    (0 ≤ 32 + a ∧ 32 + a < 82) ∧
    ((max 0 ((M98 77 (32 + a)) - r64) ≠ 0 →
    Q 0 (mput M98 77 (32 + a) (max 0 ((M98 77 (32 + a)) - r64)))) ∧ (max 0 ((M98 77 (32 + a)) - r64) = 0 →
    cn (0 + a) ∧
    (0 ≤ 0 + a ∧ 0 + a < 82) ∧
    Q 0 (mput (mput M98 77 (32 + a) (max 0 ((M98 77 (32 + a)) - r64))) 77 (0 + a) 3)))) ∧ (M98 83 a = 1 →
    0 ≤ r64 ∧
    cn ((M98 77 (32 + a)) - (r64 / 2)) ∧
    (0 ≤ 32 + a ∧ 32 + a < 82) ∧
    cn (32 + a) ∧
    (0 ≤ 32 + a ∧ 32 + a < 82) ∧
    ((max 0 ((M98 77 (32 + a)) - (r64 / 2)) ≠ 0 →
    Q 0 (mput M98 77 (32 + a) (max 0 ((M98 77 (32 + a)) - (r64 / 2))))) ∧ (max 0 ((M98 77 (32 + a)) - (r64 / 2)) = 0 →
    cn (0 + a) ∧
    (0 ≤ 0 + a ∧ 0 + a < 82) ∧
    Q 0 (mput (mput M98 77 (32 + a) (max 0 ((M98 77 (32 + a)) - (r64 / 2)))) 77 (0 + a) 3))))))))) ∧ (r44 ≠ 0 →
    cn (0 + a) ∧
    (0 ≤ 0 + a ∧ 0 + a < 82) ∧
    Q 0 (mput M64 77 (0 + a) 4)))))))) :
    Go (km 3 mX12_turnOf Q) 0 [some (.inr 76), some (.inl a), none, none, none] [] M := by
  refine a_aload_n (pc := 0) dX12_turnOf_0 rfl ?_
  refine a_getr (pc := 1) dX12_turnOf_1 f_X12_7 rfl ?_
  refine a_bipush (pc := 4) dX12_turnOf_4 (by decide) (cnb rfl) ?_
  refine a_sipush (pc := 6) dX12_turnOf_6 (by decide) (cnb rfl) ?_
  refine a_aload_n (pc := 9) dX12_turnOf_9 rfl ?_
  refine a_getr (pc := 10) dX12_turnOf_10 f_X12_7 rfl ?_
  refine a_bipush (pc := 13) dX12_turnOf_13 (by decide) (cnb rfl) ?_
  refine a_iald (pc := 15) dX12_turnOf_15 rfl (by decide) (by decide)  ?_
  refine a_imul (pc := 16) dX12_turnOf_16 h.1 ?_
  replace h := h.2
  refine a_sipush (pc := 17) dX12_turnOf_17 (by decide) (cnb rfl) ?_
  refine a_iadd (pc := 20) dX12_turnOf_20 h.1 ?_
  replace h := h.2
  refine a_ldc_w (pc := 21) (n := 65536) dX12_turnOf_21 k_X12_321 (by decide) (cnb rfl) ?_
  refine a_iremn (pc := 24) dX12_turnOf_24 (by decide) h.1 ?_
  replace h := h.2
  refine a_iast (pc := 25) dX12_turnOf_25 rfl (by decide) (by decide) ?_
  refine a_aload_n (pc := 26) dX12_turnOf_26 rfl ?_
  refine a_iload_n (pc := 27) dX12_turnOf_27 rfl ?_
  refine a_aload_n (pc := 28) dX12_turnOf_28 rfl ?_
  refine a_getr (pc := 29) dX12_turnOf_29 f_X12_7 rfl ?_
  refine a_bipush (pc := 32) dX12_turnOf_32 (by decide) (cnb rfl) ?_
  refine a_ialdE (pc := 34) (((25173 * (M 77 81)) + 13849) % 65536) dX12_turnOf_34 rfl (by decide) (by decide) (mput_same _ _ _ _) ?_
  refine a_bipush (pc := 35) dX12_turnOf_35 (by decide) (cnb rfl) ?_
  refine a_iremn (pc := 37) dX12_turnOf_37 (by decide) h.1 ?_
  replace h := h.2
  refine a_callVv (pc := 38) (d := 2) (st := []) (o := 76) [.inl a, .inl ((((25173 * (M 77 81)) + 13849) % 65536) % 10)] dX12_turnOf_38 l_X12_322 in_X12_feels se_X12_feels rfl rfl rfl ⟨Nat.le_of_ble_eq_true rfl, Nat.le_of_ble_eq_true rfl⟩ ⟨Nat.le_of_ble_eq_true rfl, Nat.le_of_ble_eq_true rfl⟩ (Nat.le_of_ble_eq_true rfl) ?_
  refine Calls.mono (fun r38 M38 hr38 hM38 h => ?_) h
  refine a_aload_n (pc := 41) dX12_turnOf_41 rfl ?_
  refine a_bipush (pc := 42) dX12_turnOf_42 (by decide) (cnb rfl) ?_
  refine a_callVi (pc := 44) (d := 2) (st := []) (o := 76) [.inl 120] dX12_turnOf_44 l_X12_325 in_X12_holdsAny se_X12_holdsAny rfl rfl rfl ⟨Nat.le_of_ble_eq_true rfl, Nat.le_of_ble_eq_true rfl⟩ ⟨Nat.le_of_ble_eq_true rfl, Nat.le_of_ble_eq_true rfl⟩ (Nat.le_of_ble_eq_true rfl) ?_
  refine Calls.mono (fun r44 M44 hr44 hM44 h => ?_) h
  refine a_istore_n (pc := 47) dX12_turnOf_47 (Nat.le_of_ble_eq_true rfl) ?_
  refine a_aload_n (pc := 48) dX12_turnOf_48 rfl ?_
  refine a_bipush (pc := 49) dX12_turnOf_49 (by decide) (cnb rfl) ?_
  refine a_bipush (pc := 51) dX12_turnOf_51 (by decide) (cnb rfl) ?_
  refine a_iconst (pc := 53) dX12_turnOf_53 (cnb rfl) ?_
  refine a_callVi (pc := 54) (d := 2) (st := []) (o := 76) [.inl 118, .inl 9, .inl 1] dX12_turnOf_54 l_X12_328 in_X12_byLaw se_X12_byLaw rfl rfl rfl ⟨Nat.le_of_ble_eq_true rfl, Nat.le_of_ble_eq_true rfl⟩ ⟨Nat.le_of_ble_eq_true rfl, Nat.le_of_ble_eq_true rfl⟩ (Nat.le_of_ble_eq_true rfl) ?_
  refine Calls.mono (fun r54 M54 hr54 hM54 h => ?_) h
  refine a_istore_n (pc := 57) dX12_turnOf_57 (Nat.le_of_ble_eq_true rfl) ?_
  refine a_aload_n (pc := 58) dX12_turnOf_58 rfl ?_
  refine a_bipush (pc := 59) dX12_turnOf_59 (by decide) (cnb rfl) ?_
  refine a_bipush (pc := 61) dX12_turnOf_61 (by decide) (cnb rfl) ?_
  refine a_iconst (pc := 63) dX12_turnOf_63 (cnb rfl) ?_
  refine a_callVi (pc := 64) (d := 2) (st := []) (o := 76) [.inl 102, .inl 99, .inl 0] dX12_turnOf_64 l_X12_328 in_X12_byLaw se_X12_byLaw rfl rfl rfl ⟨Nat.le_of_ble_eq_true rfl, Nat.le_of_ble_eq_true rfl⟩ ⟨Nat.le_of_ble_eq_true rfl, Nat.le_of_ble_eq_true rfl⟩ (Nat.le_of_ble_eq_true rfl) ?_
  refine Calls.mono (fun r64 M64 hr64 hM64 h => ?_) h
  refine a_istore (pc := 67) dX12_turnOf_67 (Nat.le_of_ble_eq_true rfl) ?_
  refine a_iload_n (pc := 69) dX12_turnOf_69 rfl ?_
  refine a_if_eq (pc := 70) 83 dX12_turnOf_70 rfl ⟨fun hc => ?_, fun hc => ?_⟩
  · replace h := h.1 hc
    refine a_aload_n (pc := 83) dX12_turnOf_83 rfl ?_
    refine a_getr (pc := 84) dX12_turnOf_84 f_X12_7 rfl ?_
    refine a_iconst (pc := 87) dX12_turnOf_87 (cnb rfl) ?_
    refine a_iload_n (pc := 88) dX12_turnOf_88 rfl ?_
    refine a_iadd (pc := 89) dX12_turnOf_89 h.1 ?_
    replace h := h.2
    refine a_iald (pc := 90) dX12_turnOf_90 rfl h.1.1 h.1.2  ?_
    replace h := h.2
    refine a_iconst (pc := 91) dX12_turnOf_91 (cnb rfl) ?_
    refine a_icmp_ne (pc := 92) 104 dX12_turnOf_92 rfl ⟨fun hc => ?_, fun hc => ?_⟩
    · replace h := h.1 hc
      refine a_aload_n (pc := 104) dX12_turnOf_104 rfl ?_
      refine a_getr (pc := 105) dX12_turnOf_105 f_X12_7 rfl ?_
      refine a_iconst (pc := 108) dX12_turnOf_108 (cnb rfl) ?_
      refine a_iload_n (pc := 109) dX12_turnOf_109 rfl ?_
      refine a_iadd (pc := 110) dX12_turnOf_110 h.1 ?_
      replace h := h.2
      refine a_aload_n (pc := 111) dX12_turnOf_111 rfl ?_
      refine a_getr (pc := 112) dX12_turnOf_112 f_X12_7 rfl ?_
      refine a_iconst (pc := 115) dX12_turnOf_115 (cnb rfl) ?_
      refine a_iload_n (pc := 116) dX12_turnOf_116 rfl ?_
      refine a_iadd (pc := 117) dX12_turnOf_117 h.1 ?_
      replace h := h.2
      refine a_iald (pc := 118) dX12_turnOf_118 rfl h.1.1 h.1.2  ?_
      replace h := h.2
      refine a_iconst (pc := 119) dX12_turnOf_119 (cnb rfl) ?_
      refine a_iadd (pc := 120) dX12_turnOf_120 h.1 ?_
      replace h := h.2
      refine a_iast (pc := 121) dX12_turnOf_121 rfl h.1.1 h.1.2 ?_
      replace h := h.2
      refine a_aload_n (pc := 122) dX12_turnOf_122 rfl ?_
      refine a_getr (pc := 123) dX12_turnOf_123 f_X12_7 rfl ?_
      refine a_bipush (pc := 126) dX12_turnOf_126 (by decide) (cnb rfl) ?_
      refine a_iload_n (pc := 128) dX12_turnOf_128 rfl ?_
      refine a_iadd (pc := 129) dX12_turnOf_129 h.1 ?_
      replace h := h.2
      refine a_iconst (pc := 130) dX12_turnOf_130 (cnb rfl) ?_
      refine a_aload_n (pc := 131) dX12_turnOf_131 rfl ?_
      refine a_getr (pc := 132) dX12_turnOf_132 f_X12_7 rfl ?_
      refine a_bipush (pc := 135) dX12_turnOf_135 (by decide) (cnb rfl) ?_
      refine a_iload_n (pc := 137) dX12_turnOf_137 rfl ?_
      refine a_iadd (pc := 138) dX12_turnOf_138 h.1 ?_
      replace h := h.2
      refine a_iald (pc := 139) dX12_turnOf_139 rfl h.1.1 h.1.2  ?_
      replace h := h.2
      refine a_aload_n (pc := 140) dX12_turnOf_140 rfl ?_
      refine a_getr (pc := 141) dX12_turnOf_141 f_X12_28 rfl ?_
      refine a_iload_n (pc := 144) dX12_turnOf_144 rfl ?_
      refine a_ialdE (pc := 145) (M64 83 a) dX12_turnOf_145 rfl h.1.1 h.1.2 (mput_ne _ _ _ _ (by decide)) ?_
      replace h := h.2
      refine a_iconst (pc := 146) dX12_turnOf_146 (cnb rfl) ?_
      refine a_icmp_ne (pc := 147) 157 dX12_turnOf_147 rfl ⟨fun hc => ?_, fun hc => ?_⟩
      · replace h := h.1 hc
        refine a_iload (pc := 157) dX12_turnOf_157 rfl ?_
        refine a_isub (pc := 159) dX12_turnOf_159 h.1 ?_
        replace h := h.2
        refine a_callSi (pc := 160) (d := 0) (st := [.inl (32 + a), .inr 77]) [.inl 0, .inl (((mput M64 77 (0 + a) ((M64 77 (0 + a)) + 1)) 77 (32 + a)) - r64)] dX12_turnOf_160 l_X12_334 st_X12_max rfl ⟨Nat.le_of_ble_eq_true rfl, Nat.le_of_ble_eq_true rfl⟩ ⟨Nat.le_of_ble_eq_true rfl, Nat.le_of_ble_eq_true rfl⟩ (Nat.le_of_ble_eq_true rfl) ?_
        refine p_X12_max ?_
        refine a_iast (pc := 163) dX12_turnOf_163 rfl h.1.1 h.1.2 ?_
        replace h := h.2
        refine a_aload_n (pc := 164) dX12_turnOf_164 rfl ?_
        refine a_getr (pc := 165) dX12_turnOf_165 f_X12_7 rfl ?_
        refine a_bipush (pc := 168) dX12_turnOf_168 (by decide) (cnb rfl) ?_
        refine a_iload_n (pc := 170) dX12_turnOf_170 rfl ?_
        refine a_iadd (pc := 171) dX12_turnOf_171 h.1 ?_
        replace h := h.2
        refine a_ialdE (pc := 172) (max 0 (((mput M64 77 (0 + a) ((M64 77 (0 + a)) + 1)) 77 (32 + a)) - r64)) dX12_turnOf_172 rfl h.1.1 h.1.2 (mput_same _ _ _ _) ?_
        replace h := h.2
        refine a_if_ne (pc := 173) 185 dX12_turnOf_173 rfl ⟨fun hc => ?_, fun hc => ?_⟩
        · replace h := h.1 hc
          exact a_ret (pc := 185) dX12_turnOf_185 rfl h
        · replace h := h.2 hc
          refine a_aload_n (pc := 176) dX12_turnOf_176 rfl ?_
          refine a_getr (pc := 177) dX12_turnOf_177 f_X12_7 rfl ?_
          refine a_iconst (pc := 180) dX12_turnOf_180 (cnb rfl) ?_
          refine a_iload_n (pc := 181) dX12_turnOf_181 rfl ?_
          refine a_iadd (pc := 182) dX12_turnOf_182 h.1 ?_
          replace h := h.2
          refine a_iconst (pc := 183) dX12_turnOf_183 (cnb rfl) ?_
          refine a_iast (pc := 184) dX12_turnOf_184 rfl h.1.1 h.1.2 ?_
          replace h := h.2
          exact a_ret (pc := 185) dX12_turnOf_185 rfl h
      · replace h := h.2 hc
        refine a_iload (pc := 150) dX12_turnOf_150 rfl ?_
        refine a_iconst (pc := 152) dX12_turnOf_152 (cnb rfl) ?_
        refine a_idivn (pc := 153) dX12_turnOf_153 (by decide) h.1 ?_
        replace h := h.2
        refine a_goto (pc := 154) 159 dX12_turnOf_154 rfl ?_
        refine a_isub (pc := 159) dX12_turnOf_159 h.1 ?_
        replace h := h.2
        refine a_callSi (pc := 160) (d := 0) (st := [.inl (32 + a), .inr 77]) [.inl 0, .inl (((mput M64 77 (0 + a) ((M64 77 (0 + a)) + 1)) 77 (32 + a)) - (r64 / 2))] dX12_turnOf_160 l_X12_334 st_X12_max rfl ⟨Nat.le_of_ble_eq_true rfl, Nat.le_of_ble_eq_true rfl⟩ ⟨Nat.le_of_ble_eq_true rfl, Nat.le_of_ble_eq_true rfl⟩ (Nat.le_of_ble_eq_true rfl) ?_
        refine p_X12_max ?_
        refine a_iast (pc := 163) dX12_turnOf_163 rfl h.1.1 h.1.2 ?_
        replace h := h.2
        refine a_aload_n (pc := 164) dX12_turnOf_164 rfl ?_
        refine a_getr (pc := 165) dX12_turnOf_165 f_X12_7 rfl ?_
        refine a_bipush (pc := 168) dX12_turnOf_168 (by decide) (cnb rfl) ?_
        refine a_iload_n (pc := 170) dX12_turnOf_170 rfl ?_
        refine a_iadd (pc := 171) dX12_turnOf_171 h.1 ?_
        replace h := h.2
        refine a_ialdE (pc := 172) (max 0 (((mput M64 77 (0 + a) ((M64 77 (0 + a)) + 1)) 77 (32 + a)) - (r64 / 2))) dX12_turnOf_172 rfl h.1.1 h.1.2 (mput_same _ _ _ _) ?_
        replace h := h.2
        refine a_if_ne (pc := 173) 185 dX12_turnOf_173 rfl ⟨fun hc => ?_, fun hc => ?_⟩
        · replace h := h.1 hc
          exact a_ret (pc := 185) dX12_turnOf_185 rfl h
        · replace h := h.2 hc
          refine a_aload_n (pc := 176) dX12_turnOf_176 rfl ?_
          refine a_getr (pc := 177) dX12_turnOf_177 f_X12_7 rfl ?_
          refine a_iconst (pc := 180) dX12_turnOf_180 (cnb rfl) ?_
          refine a_iload_n (pc := 181) dX12_turnOf_181 rfl ?_
          refine a_iadd (pc := 182) dX12_turnOf_182 h.1 ?_
          replace h := h.2
          refine a_iconst (pc := 183) dX12_turnOf_183 (cnb rfl) ?_
          refine a_iast (pc := 184) dX12_turnOf_184 rfl h.1.1 h.1.2 ?_
          replace h := h.2
          exact a_ret (pc := 185) dX12_turnOf_185 rfl h
    · replace h := h.2 hc
      refine a_aload_n (pc := 95) dX12_turnOf_95 rfl ?_
      refine a_iload_n (pc := 96) dX12_turnOf_96 rfl ?_
      refine a_iload_n (pc := 97) dX12_turnOf_97 rfl ?_
      refine a_callVv (pc := 98) (d := 2) (st := []) (o := 76) [.inl a, .inl r54] dX12_turnOf_98 l_X12_331 in_X12_goesAbout se_X12_goesAbout rfl rfl rfl ⟨Nat.le_of_ble_eq_true rfl, Nat.le_of_ble_eq_true rfl⟩ ⟨Nat.le_of_ble_eq_true rfl, Nat.le_of_ble_eq_true rfl⟩ (Nat.le_of_ble_eq_true rfl) ?_
      refine Calls.mono (fun r98 M98 hr98 hM98 h => ?_) h
      refine a_goto (pc := 101) 122 dX12_turnOf_101 rfl ?_
      refine a_aload_n (pc := 122) dX12_turnOf_122 rfl ?_
      refine a_getr (pc := 123) dX12_turnOf_123 f_X12_7 rfl ?_
      refine a_bipush (pc := 126) dX12_turnOf_126 (by decide) (cnb rfl) ?_
      refine a_iload_n (pc := 128) dX12_turnOf_128 rfl ?_
      refine a_iadd (pc := 129) dX12_turnOf_129 h.1 ?_
      replace h := h.2
      refine a_iconst (pc := 130) dX12_turnOf_130 (cnb rfl) ?_
      refine a_aload_n (pc := 131) dX12_turnOf_131 rfl ?_
      refine a_getr (pc := 132) dX12_turnOf_132 f_X12_7 rfl ?_
      refine a_bipush (pc := 135) dX12_turnOf_135 (by decide) (cnb rfl) ?_
      refine a_iload_n (pc := 137) dX12_turnOf_137 rfl ?_
      refine a_iadd (pc := 138) dX12_turnOf_138 h.1 ?_
      replace h := h.2
      refine a_iald (pc := 139) dX12_turnOf_139 rfl h.1.1 h.1.2  ?_
      replace h := h.2
      refine a_aload_n (pc := 140) dX12_turnOf_140 rfl ?_
      refine a_getr (pc := 141) dX12_turnOf_141 f_X12_28 rfl ?_
      refine a_iload_n (pc := 144) dX12_turnOf_144 rfl ?_
      refine a_iald (pc := 145) dX12_turnOf_145 rfl h.1.1 h.1.2  ?_
      replace h := h.2
      refine a_iconst (pc := 146) dX12_turnOf_146 (cnb rfl) ?_
      refine a_icmp_ne (pc := 147) 157 dX12_turnOf_147 rfl ⟨fun hc => ?_, fun hc => ?_⟩
      · replace h := h.1 hc
        refine a_iload (pc := 157) dX12_turnOf_157 rfl ?_
        refine a_isub (pc := 159) dX12_turnOf_159 h.1 ?_
        replace h := h.2
        refine a_callSi (pc := 160) (d := 0) (st := [.inl (32 + a), .inr 77]) [.inl 0, .inl ((M98 77 (32 + a)) - r64)] dX12_turnOf_160 l_X12_334 st_X12_max rfl ⟨Nat.le_of_ble_eq_true rfl, Nat.le_of_ble_eq_true rfl⟩ ⟨Nat.le_of_ble_eq_true rfl, Nat.le_of_ble_eq_true rfl⟩ (Nat.le_of_ble_eq_true rfl) ?_
        refine p_X12_max ?_
        refine a_iast (pc := 163) dX12_turnOf_163 rfl h.1.1 h.1.2 ?_
        replace h := h.2
        refine a_aload_n (pc := 164) dX12_turnOf_164 rfl ?_
        refine a_getr (pc := 165) dX12_turnOf_165 f_X12_7 rfl ?_
        refine a_bipush (pc := 168) dX12_turnOf_168 (by decide) (cnb rfl) ?_
        refine a_iload_n (pc := 170) dX12_turnOf_170 rfl ?_
        refine a_iadd (pc := 171) dX12_turnOf_171 h.1 ?_
        replace h := h.2
        refine a_ialdE (pc := 172) (max 0 ((M98 77 (32 + a)) - r64)) dX12_turnOf_172 rfl h.1.1 h.1.2 (mput_same _ _ _ _) ?_
        replace h := h.2
        refine a_if_ne (pc := 173) 185 dX12_turnOf_173 rfl ⟨fun hc => ?_, fun hc => ?_⟩
        · replace h := h.1 hc
          exact a_ret (pc := 185) dX12_turnOf_185 rfl h
        · replace h := h.2 hc
          refine a_aload_n (pc := 176) dX12_turnOf_176 rfl ?_
          refine a_getr (pc := 177) dX12_turnOf_177 f_X12_7 rfl ?_
          refine a_iconst (pc := 180) dX12_turnOf_180 (cnb rfl) ?_
          refine a_iload_n (pc := 181) dX12_turnOf_181 rfl ?_
          refine a_iadd (pc := 182) dX12_turnOf_182 h.1 ?_
          replace h := h.2
          refine a_iconst (pc := 183) dX12_turnOf_183 (cnb rfl) ?_
          refine a_iast (pc := 184) dX12_turnOf_184 rfl h.1.1 h.1.2 ?_
          replace h := h.2
          exact a_ret (pc := 185) dX12_turnOf_185 rfl h
      · replace h := h.2 hc
        refine a_iload (pc := 150) dX12_turnOf_150 rfl ?_
        refine a_iconst (pc := 152) dX12_turnOf_152 (cnb rfl) ?_
        refine a_idivn (pc := 153) dX12_turnOf_153 (by decide) h.1 ?_
        replace h := h.2
        refine a_goto (pc := 154) 159 dX12_turnOf_154 rfl ?_
        refine a_isub (pc := 159) dX12_turnOf_159 h.1 ?_
        replace h := h.2
        refine a_callSi (pc := 160) (d := 0) (st := [.inl (32 + a), .inr 77]) [.inl 0, .inl ((M98 77 (32 + a)) - (r64 / 2))] dX12_turnOf_160 l_X12_334 st_X12_max rfl ⟨Nat.le_of_ble_eq_true rfl, Nat.le_of_ble_eq_true rfl⟩ ⟨Nat.le_of_ble_eq_true rfl, Nat.le_of_ble_eq_true rfl⟩ (Nat.le_of_ble_eq_true rfl) ?_
        refine p_X12_max ?_
        refine a_iast (pc := 163) dX12_turnOf_163 rfl h.1.1 h.1.2 ?_
        replace h := h.2
        refine a_aload_n (pc := 164) dX12_turnOf_164 rfl ?_
        refine a_getr (pc := 165) dX12_turnOf_165 f_X12_7 rfl ?_
        refine a_bipush (pc := 168) dX12_turnOf_168 (by decide) (cnb rfl) ?_
        refine a_iload_n (pc := 170) dX12_turnOf_170 rfl ?_
        refine a_iadd (pc := 171) dX12_turnOf_171 h.1 ?_
        replace h := h.2
        refine a_ialdE (pc := 172) (max 0 ((M98 77 (32 + a)) - (r64 / 2))) dX12_turnOf_172 rfl h.1.1 h.1.2 (mput_same _ _ _ _) ?_
        replace h := h.2
        refine a_if_ne (pc := 173) 185 dX12_turnOf_173 rfl ⟨fun hc => ?_, fun hc => ?_⟩
        · replace h := h.1 hc
          exact a_ret (pc := 185) dX12_turnOf_185 rfl h
        · replace h := h.2 hc
          refine a_aload_n (pc := 176) dX12_turnOf_176 rfl ?_
          refine a_getr (pc := 177) dX12_turnOf_177 f_X12_7 rfl ?_
          refine a_iconst (pc := 180) dX12_turnOf_180 (cnb rfl) ?_
          refine a_iload_n (pc := 181) dX12_turnOf_181 rfl ?_
          refine a_iadd (pc := 182) dX12_turnOf_182 h.1 ?_
          replace h := h.2
          refine a_iconst (pc := 183) dX12_turnOf_183 (cnb rfl) ?_
          refine a_iast (pc := 184) dX12_turnOf_184 rfl h.1.1 h.1.2 ?_
          replace h := h.2
          exact a_ret (pc := 185) dX12_turnOf_185 rfl h
  · replace h := h.2 hc
    refine a_aload_n (pc := 73) dX12_turnOf_73 rfl ?_
    refine a_getr (pc := 74) dX12_turnOf_74 f_X12_7 rfl ?_
    refine a_iconst (pc := 77) dX12_turnOf_77 (cnb rfl) ?_
    refine a_iload_n (pc := 78) dX12_turnOf_78 rfl ?_
    refine a_iadd (pc := 79) dX12_turnOf_79 h.1 ?_
    replace h := h.2
    refine a_iconst (pc := 80) dX12_turnOf_80 (cnb rfl) ?_
    refine a_iast (pc := 81) dX12_turnOf_81 rfl h.1.1 h.1.2 ?_
    replace h := h.2
    exact a_ret (pc := 82) dX12_turnOf_82 rfl h
set_option maxRecDepth 20000 in
theorem e_X12_turnOf {Q : Int → Me → Prop}  {a : Int} {M : Me} (h :
    cn (25173 * (M 77 81)) ∧
    cn ((25173 * (M 77 81)) + 13849) ∧
    0 ≤ ((25173 * (M 77 81)) + 13849) ∧
    0 ≤ (((25173 * (M 77 81)) + 13849) % 65536) ∧
    Calls 2 mX12_feels [.inr 76, .inl a, .inl ((((25173 * (M 77 81)) + 13849) % 65536) % 10)] (mput M 77 81 (((25173 * (M 77 81)) + 13849) % 65536)) (fun r38 M38 =>
    Calls 2 mX12_holdsAny [.inr 76, .inl 120] M38 (fun r44 M44 =>
    Calls 2 mX12_byLaw [.inr 76, .inl 118, .inl 9, .inl 1] M44 (fun r54 M54 =>
    Calls 2 mX12_byLaw [.inr 76, .inl 102, .inl 99, .inl 0] M54 (fun r64 M64 =>
    ((r44 = 0 →
    cn (0 + a) ∧
    (0 ≤ 0 + a ∧ 0 + a < 82) ∧
    ((M64 77 (0 + a) ≠ 2 →
    cn (0 + a) ∧
    cn (0 + a) ∧
    (0 ≤ 0 + a ∧ 0 + a < 82) ∧
    cn ((M64 77 (0 + a)) + 1) ∧
    (0 ≤ 0 + a ∧ 0 + a < 82) ∧
    cn (32 + a) ∧
    cn (32 + a) ∧
    (0 ≤ 32 + a ∧ 32 + a < 82) ∧
    (0 ≤ a ∧ a < 16) ∧
    ((M64 83 a ≠ 1 →
    cn (((mput M64 77 (0 + a) ((M64 77 (0 + a)) + 1)) 77 (32 + a)) - r64) ∧
    (0 ≤ 32 + a ∧ 32 + a < 82) ∧
    cn (32 + a) ∧
    (0 ≤ 32 + a ∧ 32 + a < 82) ∧
    ((max 0 (((mput M64 77 (0 + a) ((M64 77 (0 + a)) + 1)) 77 (32 + a)) - r64) ≠ 0 →
    Q 0 (mput (mput M64 77 (0 + a) ((M64 77 (0 + a)) + 1)) 77 (32 + a) (max 0 (((mput M64 77 (0 + a) ((M64 77 (0 + a)) + 1)) 77 (32 + a)) - r64)))) ∧ (max 0 (((mput M64 77 (0 + a) ((M64 77 (0 + a)) + 1)) 77 (32 + a)) - r64) = 0 →
    cn (0 + a) ∧
    (0 ≤ 0 + a ∧ 0 + a < 82) ∧
    Q 0 (mput (mput (mput M64 77 (0 + a) ((M64 77 (0 + a)) + 1)) 77 (32 + a) (max 0 (((mput M64 77 (0 + a) ((M64 77 (0 + a)) + 1)) 77 (32 + a)) - r64))) 77 (0 + a) 3)))) ∧ (M64 83 a = 1 →
    0 ≤ r64 ∧
    cn (((mput M64 77 (0 + a) ((M64 77 (0 + a)) + 1)) 77 (32 + a)) - (r64 / 2)) ∧
    (0 ≤ 32 + a ∧ 32 + a < 82) ∧
    cn (32 + a) ∧
    (0 ≤ 32 + a ∧ 32 + a < 82) ∧
    ((max 0 (((mput M64 77 (0 + a) ((M64 77 (0 + a)) + 1)) 77 (32 + a)) - (r64 / 2)) ≠ 0 →
    Q 0 (mput (mput M64 77 (0 + a) ((M64 77 (0 + a)) + 1)) 77 (32 + a) (max 0 (((mput M64 77 (0 + a) ((M64 77 (0 + a)) + 1)) 77 (32 + a)) - (r64 / 2))))) ∧ (max 0 (((mput M64 77 (0 + a) ((M64 77 (0 + a)) + 1)) 77 (32 + a)) - (r64 / 2)) = 0 →
    cn (0 + a) ∧
    (0 ≤ 0 + a ∧ 0 + a < 82) ∧
    Q 0 (mput (mput (mput M64 77 (0 + a) ((M64 77 (0 + a)) + 1)) 77 (32 + a) (max 0 (((mput M64 77 (0 + a) ((M64 77 (0 + a)) + 1)) 77 (32 + a)) - (r64 / 2)))) 77 (0 + a) 3)))))) ∧ (M64 77 (0 + a) = 2 →
    Calls 2 mX12_goesAbout [.inr 76, .inl a, .inl r54] M64 (fun r98 M98 =>
    cn (32 + a) ∧
    cn (32 + a) ∧
    (0 ≤ 32 + a ∧ 32 + a < 82) ∧
    (0 ≤ a ∧ a < 16) ∧
    ((M98 83 a ≠ 1 →
    cn ((M98 77 (32 + a)) - r64) ∧
    (0 ≤ 32 + a ∧ 32 + a < 82) ∧
    cn (32 + a) ∧
    (0 ≤ 32 + a ∧ 32 + a < 82) ∧
    ((max 0 ((M98 77 (32 + a)) - r64) ≠ 0 →
    Q 0 (mput M98 77 (32 + a) (max 0 ((M98 77 (32 + a)) - r64)))) ∧ (max 0 ((M98 77 (32 + a)) - r64) = 0 →
    cn (0 + a) ∧
    (0 ≤ 0 + a ∧ 0 + a < 82) ∧
    Q 0 (mput (mput M98 77 (32 + a) (max 0 ((M98 77 (32 + a)) - r64))) 77 (0 + a) 3)))) ∧ (M98 83 a = 1 →
    0 ≤ r64 ∧
    cn ((M98 77 (32 + a)) - (r64 / 2)) ∧
    (0 ≤ 32 + a ∧ 32 + a < 82) ∧
    cn (32 + a) ∧
    (0 ≤ 32 + a ∧ 32 + a < 82) ∧
    ((max 0 ((M98 77 (32 + a)) - (r64 / 2)) ≠ 0 →
    Q 0 (mput M98 77 (32 + a) (max 0 ((M98 77 (32 + a)) - (r64 / 2))))) ∧ (max 0 ((M98 77 (32 + a)) - (r64 / 2)) = 0 →
    cn (0 + a) ∧
    (0 ≤ 0 + a ∧ 0 + a < 82) ∧
    Q 0 (mput (mput M98 77 (32 + a) (max 0 ((M98 77 (32 + a)) - (r64 / 2)))) 77 (0 + a) 3))))))))) ∧ (r44 ≠ 0 →
    cn (0 + a) ∧
    (0 ≤ 0 + a ∧ 0 + a < 82) ∧
    Q 0 (mput M64 77 (0 + a) 4)))))))) : Calls 3 mX12_turnOf [.inr 76, .inl a] M Q := Calls.of (by decide) (Nat.le_of_ble_eq_true rfl) (s_X12_turnOf_0  a M h)
set_option maxRecDepth 20000 in
theorem s_X12_seasonGoes_0 {Q : Int → Me → Prop}  (M : Me) (h :
    Go (km 4 mX12_seasonGoes Q) 2 [some (.inr 76), some (.inl 0)] [] M) :
    Go (km 4 mX12_seasonGoes Q) 0 [some (.inr 76), none] [] M := by
  refine a_iconst (pc := 0) dX12_seasonGoes_0 (cnb rfl) ?_
  refine a_istore_n (pc := 1) dX12_seasonGoes_1 (Nat.le_of_ble_eq_true rfl) ?_
  exact h
set_option maxRecDepth 20000 in
theorem e_X12_seasonGoes {Q : Int → Me → Prop}  {M : Me} (h :
    Go (km 4 mX12_seasonGoes Q) 2 [some (.inr 76), some (.inl 0)] [] M) : Calls 4 mX12_seasonGoes [.inr 76] M Q := Calls.of (by decide) (Nat.le_of_ble_eq_true rfl) (s_X12_seasonGoes_0   M h)
set_option maxRecDepth 20000 in
theorem s_X12_seasonGoes_2 {Q : Int → Me → Prop}  (x1 : Int) (M : Me) (h :
    ((M 76 11 ≤ x1 →
    cn ((M 77 80) + 1) ∧
    Q 0 (mput M 77 80 ((M 77 80) + 1))) ∧ (x1 < M 76 11 →
    cn (0 + x1) ∧
    (0 ≤ 0 + x1 ∧ 0 + x1 < 82) ∧
    ((3 ≤ M 77 (0 + x1) →
    cn (x1 + 1) ∧
    Go (km 4 mX12_seasonGoes Q) 2 [some (.inr 76), some (.inl (x1 + 1))] [] M) ∧ (M 77 (0 + x1) < 3 →
    Calls 3 mX12_turnOf [.inr 76, .inl x1] M (fun r24 M24 =>
    cn (x1 + 1) ∧
    Go (km 4 mX12_seasonGoes Q) 2 [some (.inr 76), some (.inl (x1 + 1))] [] M24)))))) :
    Go (km 4 mX12_seasonGoes Q) 2 [some (.inr 76), some (.inl x1)] [] M := by
  refine a_iload_n (pc := 2) dX12_seasonGoes_2 rfl ?_
  refine a_aload_n (pc := 3) dX12_seasonGoes_3 rfl ?_
  refine a_geti (pc := 4) 11 dX12_seasonGoes_4 f_X12_152 rfl rfl ?_
  refine a_icmp_ge (pc := 7) 33 dX12_seasonGoes_7 rfl ⟨fun hc => ?_, fun hc => ?_⟩
  · replace h := h.1 hc
    refine a_aload_n (pc := 33) dX12_seasonGoes_33 rfl ?_
    refine a_getr (pc := 34) dX12_seasonGoes_34 f_X12_7 rfl ?_
    refine a_bipush (pc := 37) dX12_seasonGoes_37 (by decide) (cnb rfl) ?_
    refine a_aload_n (pc := 39) dX12_seasonGoes_39 rfl ?_
    refine a_getr (pc := 40) dX12_seasonGoes_40 f_X12_7 rfl ?_
    refine a_bipush (pc := 43) dX12_seasonGoes_43 (by decide) (cnb rfl) ?_
    refine a_iald (pc := 45) dX12_seasonGoes_45 rfl (by decide) (by decide)  ?_
    refine a_iconst (pc := 46) dX12_seasonGoes_46 (cnb rfl) ?_
    refine a_iadd (pc := 47) dX12_seasonGoes_47 h.1 ?_
    replace h := h.2
    refine a_iast (pc := 48) dX12_seasonGoes_48 rfl (by decide) (by decide) ?_
    exact a_ret (pc := 49) dX12_seasonGoes_49 rfl h
  · replace h := h.2 hc
    refine a_aload_n (pc := 10) dX12_seasonGoes_10 rfl ?_
    refine a_getr (pc := 11) dX12_seasonGoes_11 f_X12_7 rfl ?_
    refine a_iconst (pc := 14) dX12_seasonGoes_14 (cnb rfl) ?_
    refine a_iload_n (pc := 15) dX12_seasonGoes_15 rfl ?_
    refine a_iadd (pc := 16) dX12_seasonGoes_16 h.1 ?_
    replace h := h.2
    refine a_iald (pc := 17) dX12_seasonGoes_17 rfl h.1.1 h.1.2  ?_
    replace h := h.2
    refine a_iconst (pc := 18) dX12_seasonGoes_18 (cnb rfl) ?_
    refine a_icmp_ge (pc := 19) 27 dX12_seasonGoes_19 rfl ⟨fun hc => ?_, fun hc => ?_⟩
    · replace h := h.1 hc
      refine a_iinc (pc := 27) dX12_seasonGoes_27 rfl h.1 (Nat.le_of_ble_eq_true rfl) ?_
      replace h := h.2
      refine a_goto (pc := 30) 2 dX12_seasonGoes_30 rfl ?_
      exact h
    · replace h := h.2 hc
      refine a_aload_n (pc := 22) dX12_seasonGoes_22 rfl ?_
      refine a_iload_n (pc := 23) dX12_seasonGoes_23 rfl ?_
      refine a_callVv (pc := 24) (d := 3) (st := []) (o := 76) [.inl x1] dX12_seasonGoes_24 l_X12_337 in_X12_turnOf se_X12_turnOf rfl rfl rfl ⟨Nat.le_of_ble_eq_true rfl, Nat.le_of_ble_eq_true rfl⟩ ⟨Nat.le_of_ble_eq_true rfl, Nat.le_of_ble_eq_true rfl⟩ (Nat.le_of_ble_eq_true rfl) ?_
      refine Calls.mono (fun r24 M24 hr24 hM24 h => ?_) h
      refine a_iinc (pc := 27) dX12_seasonGoes_27 rfl h.1 (Nat.le_of_ble_eq_true rfl) ?_
      replace h := h.2
      refine a_goto (pc := 30) 2 dX12_seasonGoes_30 rfl ?_
      exact h
set_option maxRecDepth 20000 in
theorem s_X12_seasonsGo_0 {Q : Int → Me → Prop}  (a : Int) (M : Me) (h :
    Go (km 5 mX12_seasonsGo Q) 7 [some (.inr 76), some (.inl a), some (.inl 0)] [] (mput M 76 44 0)) :
    Go (km 5 mX12_seasonsGo Q) 0 [some (.inr 76), some (.inl a), none] [] M := by
  refine a_aload_n (pc := 0) dX12_seasonsGo_0 rfl ?_
  refine a_iconst (pc := 1) dX12_seasonsGo_1 (cnb rfl) ?_
  refine a_puti (pc := 2) 44 dX12_seasonsGo_2 f_X12_312 rfl rfl (Or.inl rfl) ?_
  refine a_iconst (pc := 5) dX12_seasonsGo_5 (cnb rfl) ?_
  refine a_istore_n (pc := 6) dX12_seasonsGo_6 (Nat.le_of_ble_eq_true rfl) ?_
  exact h
set_option maxRecDepth 20000 in
theorem e_X12_seasonsGo {Q : Int → Me → Prop}  {a : Int} {M : Me} (h :
    Go (km 5 mX12_seasonsGo Q) 7 [some (.inr 76), some (.inl a), some (.inl 0)] [] (mput M 76 44 0)) : Calls 5 mX12_seasonsGo [.inr 76, .inl a] M Q := Calls.of (by decide) (Nat.le_of_ble_eq_true rfl) (s_X12_seasonsGo_0  a M h)
set_option maxRecDepth 20000 in
theorem s_X12_seasonsGo_7 {Q : Int → Me → Prop}  (x1 x2 : Int) (M : Me) (h :
    ((x1 ≤ x2 →
    Q 0 M) ∧ (x2 < x1 →
    ((9999 ≤ M 77 80 →
    Q 0 M) ∧ (M 77 80 < 9999 →
    Calls 4 mX12_seasonGoes [.inr 76] M (fun r26 M26 =>
    cn (x2 + 1) ∧
    Go (km 5 mX12_seasonsGo Q) 7 [some (.inr 76), some (.inl x1), some (.inl (x2 + 1))] [] M26)))))) :
    Go (km 5 mX12_seasonsGo Q) 7 [some (.inr 76), some (.inl x1), some (.inl x2)] [] M := by
  refine a_iload_n (pc := 7) dX12_seasonsGo_7 rfl ?_
  refine a_iload_n (pc := 8) dX12_seasonsGo_8 rfl ?_
  refine a_icmp_ge (pc := 9) 35 dX12_seasonsGo_9 rfl ⟨fun hc => ?_, fun hc => ?_⟩
  · replace h := h.1 hc
    exact a_ret (pc := 35) dX12_seasonsGo_35 rfl h
  · replace h := h.2 hc
    refine a_aload_n (pc := 12) dX12_seasonsGo_12 rfl ?_
    refine a_getr (pc := 13) dX12_seasonsGo_13 f_X12_7 rfl ?_
    refine a_bipush (pc := 16) dX12_seasonsGo_16 (by decide) (cnb rfl) ?_
    refine a_iald (pc := 18) dX12_seasonsGo_18 rfl (by decide) (by decide)  ?_
    refine a_sipush (pc := 19) dX12_seasonsGo_19 (by decide) (cnb rfl) ?_
    refine a_icmp_ge (pc := 22) 35 dX12_seasonsGo_22 rfl ⟨fun hc => ?_, fun hc => ?_⟩
    · replace h := h.1 hc
      exact a_ret (pc := 35) dX12_seasonsGo_35 rfl h
    · replace h := h.2 hc
      refine a_aload_n (pc := 25) dX12_seasonsGo_25 rfl ?_
      refine a_callVv (pc := 26) (d := 4) (st := []) (o := 76) [] dX12_seasonsGo_26 l_X12_340 in_X12_seasonGoes se_X12_seasonGoes rfl rfl rfl ⟨Nat.le_of_ble_eq_true rfl, Nat.le_of_ble_eq_true rfl⟩ ⟨Nat.le_of_ble_eq_true rfl, Nat.le_of_ble_eq_true rfl⟩ (Nat.le_of_ble_eq_true rfl) ?_
      refine Calls.mono (fun r26 M26 hr26 hM26 h => ?_) h
      refine a_iinc (pc := 29) dX12_seasonsGo_29 rfl h.1 (Nat.le_of_ble_eq_true rfl) ?_
      replace h := h.2
      refine a_goto (pc := 32) 7 dX12_seasonsGo_32 rfl ?_
      exact h
