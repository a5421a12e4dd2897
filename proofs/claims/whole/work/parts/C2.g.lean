set_option maxRecDepth 20000 in
theorem s_X12_notes_0 {Q : Int → Me → Prop}  (a b : Int) (M : Me) (h :
    cn (1048576 * a) ∧
    cn ((1048576 * a) + b) ∧
    (0 ≤ M 76 19 ∧ M 76 19 < 260) ∧
    cn ((M 76 19) + 1) ∧
    Q 0 (mput (mput M 89 (M 76 19) ((1048576 * a) + b)) 76 19 ((M 76 19) + 1))) :
    Go (km 0 mX12_notes Q) 0 [some (.inr 76), some (.inl a), some (.inl b)] [] M := by
  refine a_aload_n (pc := 0) dX12_notes_0 rfl ?_
  refine a_getr (pc := 1) dX12_notes_1 f_X12_47 rfl ?_
  refine a_aload_n (pc := 4) dX12_notes_4 rfl ?_
  refine a_geti (pc := 5) 19 dX12_notes_5 f_X12_199 rfl rfl ?_
  refine a_ldc (pc := 8) (n := 1048576) dX12_notes_8 k_X12_202 (by decide) (cnb rfl) ?_
  refine a_iload_n (pc := 10) dX12_notes_10 rfl ?_
  refine a_imul (pc := 11) dX12_notes_11 h.1 ?_
  replace h := h.2
  refine a_iload_n (pc := 12) dX12_notes_12 rfl ?_
  refine a_iadd (pc := 13) dX12_notes_13 h.1 ?_
  replace h := h.2
  refine a_iast (pc := 14) dX12_notes_14 rfl h.1.1 h.1.2 ?_
  replace h := h.2
  refine a_aload_n (pc := 15) dX12_notes_15 rfl ?_
  refine a_aload_n (pc := 16) dX12_notes_16 rfl ?_
  refine a_getiE (pc := 17) (M 76 19) 19 dX12_notes_17 f_X12_199 rfl rfl (mput_ne _ _ _ _ (by decide)) ?_
  refine a_iconst (pc := 20) dX12_notes_20 (cnb rfl) ?_
  refine a_iadd (pc := 21) dX12_notes_21 h.1 ?_
  replace h := h.2
  refine a_puti (pc := 22) 19 dX12_notes_22 f_X12_199 rfl rfl (Or.inl rfl) ?_
  exact a_ret (pc := 25) dX12_notes_25 rfl h
set_option maxRecDepth 20000 in
theorem e_X12_notes {Q : Int → Me → Prop}  {a b : Int} {M : Me} (h :
    cn (1048576 * a) ∧
    cn ((1048576 * a) + b) ∧
    (0 ≤ M 76 19 ∧ M 76 19 < 260) ∧
    cn ((M 76 19) + 1) ∧
    Q 0 (mput (mput M 89 (M 76 19) ((1048576 * a) + b)) 76 19 ((M 76 19) + 1))) : Calls 0 mX12_notes [.inr 76, .inl a, .inl b] M Q := Calls.of (by decide) (Nat.le_of_ble_eq_true rfl) (s_X12_notes_0  a b M h)
set_option maxRecDepth 20000 in
theorem s_X12_opens_0 {Q : Int → Me → Prop}  (a : Int) (M : Me) (h :
    ((M 76 18 ≠ 6 →
    cn ((M 76 18) + 1) ∧
    cn (1048576 * a) ∧
    (0 ≤ M 76 20 ∧ M 76 20 < 260) ∧
    cn ((M 76 20) + 1) ∧
    cn ((M 76 14) + 1) ∧
    Q 1 (mput (mput (mput (mput M 76 18 ((M 76 18) + 1)) 90 (M 76 20) (1048576 * a)) 76 20 ((M 76 20) + 1)) 76 14 ((M 76 14) + 1))) ∧ (M 76 18 = 6 →
    Calls 0 mX12_wrongAt [.inr 76, .inl 5, .inl (M 76 14)] M (fun r15 M15 =>
    (r15 = 0 ∨ r15 = 1) ∧
    Q r15 M15)))) :
    Go (km 1 mX12_opens Q) 0 [some (.inr 76), some (.inl a)] [] M := by
  refine a_aload_n (pc := 0) dX12_opens_0 rfl ?_
  refine a_geti (pc := 1) 18 dX12_opens_1 f_X12_203 rfl rfl ?_
  refine a_bipush (pc := 4) dX12_opens_4 (by decide) (cnb rfl) ?_
  refine a_icmp_ne (pc := 6) 19 dX12_opens_6 rfl ⟨fun hc => ?_, fun hc => ?_⟩
  · replace h := h.1 hc
    refine a_aload_n (pc := 19) dX12_opens_19 rfl ?_
    refine a_aload_n (pc := 20) dX12_opens_20 rfl ?_
    refine a_geti (pc := 21) 18 dX12_opens_21 f_X12_203 rfl rfl ?_
    refine a_iconst (pc := 24) dX12_opens_24 (cnb rfl) ?_
    refine a_iadd (pc := 25) dX12_opens_25 h.1 ?_
    replace h := h.2
    refine a_puti (pc := 26) 18 dX12_opens_26 f_X12_203 rfl rfl (Or.inl rfl) ?_
    refine a_aload_n (pc := 29) dX12_opens_29 rfl ?_
    refine a_getr (pc := 30) dX12_opens_30 f_X12_50 rfl ?_
    refine a_aload_n (pc := 33) dX12_opens_33 rfl ?_
    refine a_getiE (pc := 34) (M 76 20) 20 dX12_opens_34 f_X12_206 rfl rfl (mput_ni _ _ _ _ (by decide)) ?_
    refine a_ldc (pc := 37) (n := 1048576) dX12_opens_37 k_X12_202 (by decide) (cnb rfl) ?_
    refine a_iload_n (pc := 39) dX12_opens_39 rfl ?_
    refine a_imul (pc := 40) dX12_opens_40 h.1 ?_
    replace h := h.2
    refine a_iast (pc := 41) dX12_opens_41 rfl h.1.1 h.1.2 ?_
    replace h := h.2
    refine a_aload_n (pc := 42) dX12_opens_42 rfl ?_
    refine a_aload_n (pc := 43) dX12_opens_43 rfl ?_
    refine a_getiE (pc := 44) (M 76 20) 20 dX12_opens_44 f_X12_206 rfl rfl ((mput_ne _ _ _ _ (by decide)).trans (mput_ni _ _ _ _ (by decide))) ?_
    refine a_iconst (pc := 47) dX12_opens_47 (cnb rfl) ?_
    refine a_iadd (pc := 48) dX12_opens_48 h.1 ?_
    replace h := h.2
    refine a_puti (pc := 49) 20 dX12_opens_49 f_X12_206 rfl rfl (Or.inl rfl) ?_
    refine a_aload_n (pc := 52) dX12_opens_52 rfl ?_
    refine a_aload_n (pc := 53) dX12_opens_53 rfl ?_
    refine a_getiE (pc := 54) (M 76 14) 14 dX12_opens_54 f_X12_175 rfl rfl ((mput_ni _ _ _ _ (by decide)).trans ((mput_ne _ _ _ _ (by decide)).trans (mput_ni _ _ _ _ (by decide)))) ?_
    refine a_iconst (pc := 57) dX12_opens_57 (cnb rfl) ?_
    refine a_iadd (pc := 58) dX12_opens_58 h.1 ?_
    replace h := h.2
    refine a_puti (pc := 59) 14 dX12_opens_59 f_X12_175 rfl rfl (Or.inl rfl) ?_
    refine a_iconst (pc := 62) dX12_opens_62 (cnb rfl) ?_
    exact a_iretZ (pc := 63) dX12_opens_63 rfl (by decide) h
  · replace h := h.2 hc
    refine a_aload_n (pc := 9) dX12_opens_9 rfl ?_
    refine a_iconst (pc := 10) dX12_opens_10 (cnb rfl) ?_
    refine a_aload_n (pc := 11) dX12_opens_11 rfl ?_
    refine a_geti (pc := 12) 14 dX12_opens_12 f_X12_175 rfl rfl ?_
    refine a_callVi (pc := 15) (d := 0) (st := []) (o := 76) [.inl 5, .inl (M 76 14)] dX12_opens_15 l_X12_188 in_X12_wrongAt se_X12_wrongAt rfl rfl rfl ⟨Nat.le_of_ble_eq_true rfl, Nat.le_of_ble_eq_true rfl⟩ ⟨Nat.le_of_ble_eq_true rfl, Nat.le_of_ble_eq_true rfl⟩ (Nat.le_of_ble_eq_true rfl) ?_
    refine Calls.mono (fun r15 M15 hr15 hM15 h => ?_) h
    exact a_iretZ (pc := 18) dX12_opens_18 rfl h.1 h.2
set_option maxRecDepth 20000 in
theorem e_X12_opens {Q : Int → Me → Prop}  {a : Int} {M : Me} (h :
    ((M 76 18 ≠ 6 →
    cn ((M 76 18) + 1) ∧
    cn (1048576 * a) ∧
    (0 ≤ M 76 20 ∧ M 76 20 < 260) ∧
    cn ((M 76 20) + 1) ∧
    cn ((M 76 14) + 1) ∧
    Q 1 (mput (mput (mput (mput M 76 18 ((M 76 18) + 1)) 90 (M 76 20) (1048576 * a)) 76 20 ((M 76 20) + 1)) 76 14 ((M 76 14) + 1))) ∧ (M 76 18 = 6 →
    Calls 0 mX12_wrongAt [.inr 76, .inl 5, .inl (M 76 14)] M (fun r15 M15 =>
    (r15 = 0 ∨ r15 = 1) ∧
    Q r15 M15)))) : Calls 1 mX12_opens [.inr 76, .inl a] M Q := Calls.of (by decide) (Nat.le_of_ble_eq_true rfl) (s_X12_opens_0  a M h)
set_option maxRecDepth 20000 in
theorem s_X12_waitTop_0 {Q : Int → Me → Prop}  (M : Me) (h :
    ((M 76 20 ≠ 0 →
    cn ((M 76 20) - 1) ∧
    (0 ≤ (M 76 20) - 1 ∧ (M 76 20) - 1 < 260) ∧
    0 ≤ (M 90 ((M 76 20) - 1)) ∧
    Q ((M 90 ((M 76 20) - 1)) / 1048576) M) ∧ (M 76 20 = 0 →
    Q (-1) M))) :
    Go (km 0 mX12_waitTop Q) 0 [some (.inr 76)] [] M := by
  refine a_aload_n (pc := 0) dX12_waitTop_0 rfl ?_
  refine a_geti (pc := 1) 20 dX12_waitTop_1 f_X12_206 rfl rfl ?_
  refine a_if_ne (pc := 4) 11 dX12_waitTop_4 rfl ⟨fun hc => ?_, fun hc => ?_⟩
  · replace h := h.1 hc
    refine a_aload_n (pc := 11) dX12_waitTop_11 rfl ?_
    refine a_getr (pc := 12) dX12_waitTop_12 f_X12_50 rfl ?_
    refine a_aload_n (pc := 15) dX12_waitTop_15 rfl ?_
    refine a_geti (pc := 16) 20 dX12_waitTop_16 f_X12_206 rfl rfl ?_
    refine a_iconst (pc := 19) dX12_waitTop_19 (cnb rfl) ?_
    refine a_isub (pc := 20) dX12_waitTop_20 h.1 ?_
    replace h := h.2
    refine a_iald (pc := 21) dX12_waitTop_21 rfl h.1.1 h.1.2  ?_
    replace h := h.2
    refine a_ldc (pc := 22) (n := 1048576) dX12_waitTop_22 k_X12_202 (by decide) (cnb rfl) ?_
    refine a_idivn (pc := 24) dX12_waitTop_24 (by decide) h.1 ?_
    replace h := h.2
    exact a_iretI (pc := 25) dX12_waitTop_25 rfl h
  · replace h := h.2 hc
    refine a_iconst (pc := 7) dX12_waitTop_7 (cnb rfl) ?_
    refine a_goto (pc := 8) 25 dX12_waitTop_8 rfl ?_
    exact a_iretI (pc := 25) dX12_waitTop_25 rfl h
set_option maxRecDepth 20000 in
theorem e_X12_waitTop {Q : Int → Me → Prop}  {M : Me} (h :
    ((M 76 20 ≠ 0 →
    cn ((M 76 20) - 1) ∧
    (0 ≤ (M 76 20) - 1 ∧ (M 76 20) - 1 < 260) ∧
    0 ≤ (M 90 ((M 76 20) - 1)) ∧
    Q ((M 90 ((M 76 20) - 1)) / 1048576) M) ∧ (M 76 20 = 0 →
    Q (-1) M))) : Calls 0 mX12_waitTop [.inr 76] M Q := Calls.of (by decide) (Nat.le_of_ble_eq_true rfl) (s_X12_waitTop_0   M h)
set_option maxRecDepth 20000 in
theorem s_X12_factOf_0 {Q : Int → Me → Prop}  (a : Int) (M : Me) (h :
    ((a < 97 ∨ 119 < a →
    Q (-1) M) ∧
    ((a = 97 →
    Q 5 M) ∧
    ((a = 98 →
    Q (-1) M) ∧
    ((a = 99 →
    Q 0 M) ∧
    ((a = 100 →
    Q 7 M) ∧
    ((a = 101 →
    Q (-1) M) ∧
    ((a = 102 →
    Q (-1) M) ∧
    ((a = 103 →
    Q (-1) M) ∧
    ((a = 104 →
    Q 3 M) ∧
    ((a = 105 →
    Q (-1) M) ∧
    ((a = 106 →
    Q (-1) M) ∧
    ((a = 107 →
    Q 6 M) ∧
    ((a = 108 →
    Q 4 M) ∧
    ((a = 109 →
    Q 2 M) ∧
    ((a = 110 →
    Q 8 M) ∧
    ((a = 111 →
    Q (-1) M) ∧
    ((a = 112 →
    Q (-1) M) ∧
    ((a = 113 →
    Q (-1) M) ∧
    ((a = 114 →
    Q (-1) M) ∧
    ((a = 115 →
    Q 1 M) ∧
    ((a = 116 →
    Q 9 M) ∧
    ((a = 117 →
    Q (-1) M) ∧
    ((a = 118 →
    Q (-1) M) ∧
    (a = 119 →
    Q 10 M))))))))))))))))))))))))) :
    Go (km 0 mX12_factOf Q) 0 [some (.inl a)] [] M := by
  refine a_iload_n (pc := 0) dX12_factOf_0 rfl ?_
  by_cases ho_1 : a < 97 ∨ 119 < a
  · replace h := h.1 ho_1
    refine a_tableOut 135 dX12_factOf_1 ho_1 rfl ?_
    refine a_iconst (pc := 135) dX12_factOf_135 (cnb rfl) ?_
    exact a_iretI (pc := 136) dX12_factOf_136 rfl h
  · replace h := h.2
    by_cases he_1_0 : a = 97
    · replace h := h.1 he_1_0
      refine a_tableIn 118 dX12_factOf_1 (by omega) (by omega) (off := 117) (by rw [he_1_0]; rfl) rfl ?_
      refine a_iconst (pc := 118) dX12_factOf_118 (cnb rfl) ?_
      exact a_iretI (pc := 119) dX12_factOf_119 rfl h
    replace h := h.2
    by_cases he_1_1 : a = 98
    · replace h := h.1 he_1_1
      refine a_tableIn 135 dX12_factOf_1 (by omega) (by omega) (off := 134) (by rw [he_1_1]; rfl) rfl ?_
      refine a_iconst (pc := 135) dX12_factOf_135 (cnb rfl) ?_
      exact a_iretI (pc := 136) dX12_factOf_136 rfl h
    replace h := h.2
    by_cases he_1_2 : a = 99
    · replace h := h.1 he_1_2
      refine a_tableIn 108 dX12_factOf_1 (by omega) (by omega) (off := 107) (by rw [he_1_2]; rfl) rfl ?_
      refine a_iconst (pc := 108) dX12_factOf_108 (cnb rfl) ?_
      exact a_iretI (pc := 109) dX12_factOf_109 rfl h
    replace h := h.2
    by_cases he_1_3 : a = 100
    · replace h := h.1 he_1_3
      refine a_tableIn 123 dX12_factOf_1 (by omega) (by omega) (off := 122) (by rw [he_1_3]; rfl) rfl ?_
      refine a_bipush (pc := 123) dX12_factOf_123 (by decide) (cnb rfl) ?_
      exact a_iretI (pc := 125) dX12_factOf_125 rfl h
    replace h := h.2
    by_cases he_1_4 : a = 101
    · replace h := h.1 he_1_4
      refine a_tableIn 135 dX12_factOf_1 (by omega) (by omega) (off := 134) (by rw [he_1_4]; rfl) rfl ?_
      refine a_iconst (pc := 135) dX12_factOf_135 (cnb rfl) ?_
      exact a_iretI (pc := 136) dX12_factOf_136 rfl h
    replace h := h.2
    by_cases he_1_5 : a = 102
    · replace h := h.1 he_1_5
      refine a_tableIn 135 dX12_factOf_1 (by omega) (by omega) (off := 134) (by rw [he_1_5]; rfl) rfl ?_
      refine a_iconst (pc := 135) dX12_factOf_135 (cnb rfl) ?_
      exact a_iretI (pc := 136) dX12_factOf_136 rfl h
    replace h := h.2
    by_cases he_1_6 : a = 103
    · replace h := h.1 he_1_6
      refine a_tableIn 135 dX12_factOf_1 (by omega) (by omega) (off := 134) (by rw [he_1_6]; rfl) rfl ?_
      refine a_iconst (pc := 135) dX12_factOf_135 (cnb rfl) ?_
      exact a_iretI (pc := 136) dX12_factOf_136 rfl h
    replace h := h.2
    by_cases he_1_7 : a = 104
    · replace h := h.1 he_1_7
      refine a_tableIn 114 dX12_factOf_1 (by omega) (by omega) (off := 113) (by rw [he_1_7]; rfl) rfl ?_
      refine a_iconst (pc := 114) dX12_factOf_114 (cnb rfl) ?_
      exact a_iretI (pc := 115) dX12_factOf_115 rfl h
    replace h := h.2
    by_cases he_1_8 : a = 105
    · replace h := h.1 he_1_8
      refine a_tableIn 135 dX12_factOf_1 (by omega) (by omega) (off := 134) (by rw [he_1_8]; rfl) rfl ?_
      refine a_iconst (pc := 135) dX12_factOf_135 (cnb rfl) ?_
      exact a_iretI (pc := 136) dX12_factOf_136 rfl h
    replace h := h.2
    by_cases he_1_9 : a = 106
    · replace h := h.1 he_1_9
      refine a_tableIn 135 dX12_factOf_1 (by omega) (by omega) (off := 134) (by rw [he_1_9]; rfl) rfl ?_
      refine a_iconst (pc := 135) dX12_factOf_135 (cnb rfl) ?_
      exact a_iretI (pc := 136) dX12_factOf_136 rfl h
    replace h := h.2
    by_cases he_1_10 : a = 107
    · replace h := h.1 he_1_10
      refine a_tableIn 120 dX12_factOf_1 (by omega) (by omega) (off := 119) (by rw [he_1_10]; rfl) rfl ?_
      refine a_bipush (pc := 120) dX12_factOf_120 (by decide) (cnb rfl) ?_
      exact a_iretI (pc := 122) dX12_factOf_122 rfl h
    replace h := h.2
    by_cases he_1_11 : a = 108
    · replace h := h.1 he_1_11
      refine a_tableIn 116 dX12_factOf_1 (by omega) (by omega) (off := 115) (by rw [he_1_11]; rfl) rfl ?_
      refine a_iconst (pc := 116) dX12_factOf_116 (cnb rfl) ?_
      exact a_iretI (pc := 117) dX12_factOf_117 rfl h
    replace h := h.2
    by_cases he_1_12 : a = 109
    · replace h := h.1 he_1_12
      refine a_tableIn 112 dX12_factOf_1 (by omega) (by omega) (off := 111) (by rw [he_1_12]; rfl) rfl ?_
      refine a_iconst (pc := 112) dX12_factOf_112 (cnb rfl) ?_
      exact a_iretI (pc := 113) dX12_factOf_113 rfl h
    replace h := h.2
    by_cases he_1_13 : a = 110
    · replace h := h.1 he_1_13
      refine a_tableIn 126 dX12_factOf_1 (by omega) (by omega) (off := 125) (by rw [he_1_13]; rfl) rfl ?_
      refine a_bipush (pc := 126) dX12_factOf_126 (by decide) (cnb rfl) ?_
      exact a_iretI (pc := 128) dX12_factOf_128 rfl h
    replace h := h.2
    by_cases he_1_14 : a = 111
    · replace h := h.1 he_1_14
      refine a_tableIn 135 dX12_factOf_1 (by omega) (by omega) (off := 134) (by rw [he_1_14]; rfl) rfl ?_
      refine a_iconst (pc := 135) dX12_factOf_135 (cnb rfl) ?_
      exact a_iretI (pc := 136) dX12_factOf_136 rfl h
    replace h := h.2
    by_cases he_1_15 : a = 112
    · replace h := h.1 he_1_15
      refine a_tableIn 135 dX12_factOf_1 (by omega) (by omega) (off := 134) (by rw [he_1_15]; rfl) rfl ?_
      refine a_iconst (pc := 135) dX12_factOf_135 (cnb rfl) ?_
      exact a_iretI (pc := 136) dX12_factOf_136 rfl h
    replace h := h.2
    by_cases he_1_16 : a = 113
    · replace h := h.1 he_1_16
      refine a_tableIn 135 dX12_factOf_1 (by omega) (by omega) (off := 134) (by rw [he_1_16]; rfl) rfl ?_
      refine a_iconst (pc := 135) dX12_factOf_135 (cnb rfl) ?_
      exact a_iretI (pc := 136) dX12_factOf_136 rfl h
    replace h := h.2
    by_cases he_1_17 : a = 114
    · replace h := h.1 he_1_17
      refine a_tableIn 135 dX12_factOf_1 (by omega) (by omega) (off := 134) (by rw [he_1_17]; rfl) rfl ?_
      refine a_iconst (pc := 135) dX12_factOf_135 (cnb rfl) ?_
      exact a_iretI (pc := 136) dX12_factOf_136 rfl h
    replace h := h.2
    by_cases he_1_18 : a = 115
    · replace h := h.1 he_1_18
      refine a_tableIn 110 dX12_factOf_1 (by omega) (by omega) (off := 109) (by rw [he_1_18]; rfl) rfl ?_
      refine a_iconst (pc := 110) dX12_factOf_110 (cnb rfl) ?_
      exact a_iretI (pc := 111) dX12_factOf_111 rfl h
    replace h := h.2
    by_cases he_1_19 : a = 116
    · replace h := h.1 he_1_19
      refine a_tableIn 129 dX12_factOf_1 (by omega) (by omega) (off := 128) (by rw [he_1_19]; rfl) rfl ?_
      refine a_bipush (pc := 129) dX12_factOf_129 (by decide) (cnb rfl) ?_
      exact a_iretI (pc := 131) dX12_factOf_131 rfl h
    replace h := h.2
    by_cases he_1_20 : a = 117
    · replace h := h.1 he_1_20
      refine a_tableIn 135 dX12_factOf_1 (by omega) (by omega) (off := 134) (by rw [he_1_20]; rfl) rfl ?_
      refine a_iconst (pc := 135) dX12_factOf_135 (cnb rfl) ?_
      exact a_iretI (pc := 136) dX12_factOf_136 rfl h
    replace h := h.2
    by_cases he_1_21 : a = 118
    · replace h := h.1 he_1_21
      refine a_tableIn 135 dX12_factOf_1 (by omega) (by omega) (off := 134) (by rw [he_1_21]; rfl) rfl ?_
      refine a_iconst (pc := 135) dX12_factOf_135 (cnb rfl) ?_
      exact a_iretI (pc := 136) dX12_factOf_136 rfl h
    replace h := h.2
    by_cases he_1_22 : a = 119
    · replace h := h he_1_22
      refine a_tableIn 132 dX12_factOf_1 (by omega) (by omega) (off := 131) (by rw [he_1_22]; rfl) rfl ?_
      refine a_bipush (pc := 132) dX12_factOf_132 (by decide) (cnb rfl) ?_
      exact a_iretI (pc := 134) dX12_factOf_134 rfl h
    exfalso; omega
set_option maxRecDepth 20000 in
theorem e_X12_factOf {Q : Int → Me → Prop}  {a : Int} {M : Me} (h :
    ((a < 97 ∨ 119 < a →
    Q (-1) M) ∧
    ((a = 97 →
    Q 5 M) ∧
    ((a = 98 →
    Q (-1) M) ∧
    ((a = 99 →
    Q 0 M) ∧
    ((a = 100 →
    Q 7 M) ∧
    ((a = 101 →
    Q (-1) M) ∧
    ((a = 102 →
    Q (-1) M) ∧
    ((a = 103 →
    Q (-1) M) ∧
    ((a = 104 →
    Q 3 M) ∧
    ((a = 105 →
    Q (-1) M) ∧
    ((a = 106 →
    Q (-1) M) ∧
    ((a = 107 →
    Q 6 M) ∧
    ((a = 108 →
    Q 4 M) ∧
    ((a = 109 →
    Q 2 M) ∧
    ((a = 110 →
    Q 8 M) ∧
    ((a = 111 →
    Q (-1) M) ∧
    ((a = 112 →
    Q (-1) M) ∧
    ((a = 113 →
    Q (-1) M) ∧
    ((a = 114 →
    Q (-1) M) ∧
    ((a = 115 →
    Q 1 M) ∧
    ((a = 116 →
    Q 9 M) ∧
    ((a = 117 →
    Q (-1) M) ∧
    ((a = 118 →
    Q (-1) M) ∧
    (a = 119 →
    Q 10 M))))))))))))))))))))))))) : Calls 0 mX12_factOf [.inl a] M Q := Calls.of (by decide) (Nat.le_of_ble_eq_true rfl) (s_X12_factOf_0  a M h)
set_option maxRecDepth 20000 in
theorem s_X12_sumSign_0 {Q : Int → Me → Prop}  (a : Int) (M : Me) (h :
    ((a ≠ 43 →
    ((a ≠ 45 →
    ((a ≠ 42 →
    ((a ≠ 47 →
    ((a ≠ 37 →
    Q (-1) M) ∧ (a = 37 →
    Q 6 M))) ∧ (a = 47 →
    Q 5 M))) ∧ (a = 42 →
    Q 4 M))) ∧ (a = 45 →
    Q 3 M))) ∧ (a = 43 →
    Q 2 M))) :
    Go (km 0 mX12_sumSign Q) 0 [some (.inl a)] [] M := by
  refine a_iload_n (pc := 0) dX12_sumSign_0 rfl ?_
  refine a_bipush (pc := 1) dX12_sumSign_1 (by decide) (cnb rfl) ?_
  refine a_icmp_ne (pc := 3) 10 dX12_sumSign_3 rfl ⟨fun hc => ?_, fun hc => ?_⟩
  · replace h := h.1 hc
    refine a_iload_n (pc := 10) dX12_sumSign_10 rfl ?_
    refine a_bipush (pc := 11) dX12_sumSign_11 (by decide) (cnb rfl) ?_
    refine a_icmp_ne (pc := 13) 20 dX12_sumSign_13 rfl ⟨fun hc => ?_, fun hc => ?_⟩
    · replace h := h.1 hc
      refine a_iload_n (pc := 20) dX12_sumSign_20 rfl ?_
      refine a_bipush (pc := 21) dX12_sumSign_21 (by decide) (cnb rfl) ?_
      refine a_icmp_ne (pc := 23) 30 dX12_sumSign_23 rfl ⟨fun hc => ?_, fun hc => ?_⟩
      · replace h := h.1 hc
        refine a_iload_n (pc := 30) dX12_sumSign_30 rfl ?_
        refine a_bipush (pc := 31) dX12_sumSign_31 (by decide) (cnb rfl) ?_
        refine a_icmp_ne (pc := 33) 40 dX12_sumSign_33 rfl ⟨fun hc => ?_, fun hc => ?_⟩
        · replace h := h.1 hc
          refine a_iload_n (pc := 40) dX12_sumSign_40 rfl ?_
          refine a_bipush (pc := 41) dX12_sumSign_41 (by decide) (cnb rfl) ?_
          refine a_icmp_ne (pc := 43) 51 dX12_sumSign_43 rfl ⟨fun hc => ?_, fun hc => ?_⟩
          · replace h := h.1 hc
            refine a_iconst (pc := 51) dX12_sumSign_51 (cnb rfl) ?_
            exact a_iretI (pc := 52) dX12_sumSign_52 rfl h
          · replace h := h.2 hc
            refine a_bipush (pc := 46) dX12_sumSign_46 (by decide) (cnb rfl) ?_
            refine a_goto (pc := 48) 52 dX12_sumSign_48 rfl ?_
            exact a_iretI (pc := 52) dX12_sumSign_52 rfl h
        · replace h := h.2 hc
          refine a_iconst (pc := 36) dX12_sumSign_36 (cnb rfl) ?_
          refine a_goto (pc := 37) 52 dX12_sumSign_37 rfl ?_
          exact a_iretI (pc := 52) dX12_sumSign_52 rfl h
      · replace h := h.2 hc
        refine a_iconst (pc := 26) dX12_sumSign_26 (cnb rfl) ?_
        refine a_goto (pc := 27) 52 dX12_sumSign_27 rfl ?_
        exact a_iretI (pc := 52) dX12_sumSign_52 rfl h
    · replace h := h.2 hc
      refine a_iconst (pc := 16) dX12_sumSign_16 (cnb rfl) ?_
      refine a_goto (pc := 17) 52 dX12_sumSign_17 rfl ?_
      exact a_iretI (pc := 52) dX12_sumSign_52 rfl h
  · replace h := h.2 hc
    refine a_iconst (pc := 6) dX12_sumSign_6 (cnb rfl) ?_
    refine a_goto (pc := 7) 52 dX12_sumSign_7 rfl ?_
    exact a_iretI (pc := 52) dX12_sumSign_52 rfl h
set_option maxRecDepth 20000 in
theorem e_X12_sumSign {Q : Int → Me → Prop}  {a : Int} {M : Me} (h :
    ((a ≠ 43 →
    ((a ≠ 45 →
    ((a ≠ 42 →
    ((a ≠ 47 →
    ((a ≠ 37 →
    Q (-1) M) ∧ (a = 37 →
    Q 6 M))) ∧ (a = 47 →
    Q 5 M))) ∧ (a = 42 →
    Q 4 M))) ∧ (a = 45 →
    Q 3 M))) ∧ (a = 43 →
    Q 2 M))) : Calls 0 mX12_sumSign [.inl a] M Q := Calls.of (by decide) (Nat.le_of_ble_eq_true rfl) (s_X12_sumSign_0  a M h)
set_option maxRecDepth 20000 in
theorem s_X12_closesSums_0 {Q : Int → Me → Prop}  (a : Int) (M : Me) (h :
    Calls 0 mX12_waitTop [.inr 76] M (fun r1 M1 =>
    ((r1 < 4 →
    Go (km 1 mX12_closesSums Q) 17 [some (.inr 76), some (.inl a)] [] M1) ∧ (4 ≤ r1 →
    Calls 0 mX12_waitTop [.inr 76] M1 (fun r9 M9 =>
    ((r9 ≤ 6 →
    Go (km 1 mX12_closesSums Q) 37 [some (.inr 76), some (.inl a)] [] M9) ∧ (6 < r9 →
    Go (km 1 mX12_closesSums Q) 17 [some (.inr 76), some (.inl a)] [] M9))))))) :
    Go (km 1 mX12_closesSums Q) 0 [some (.inr 76), some (.inl a)] [] M := by
  refine a_aload_n (pc := 0) dX12_closesSums_0 rfl ?_
  refine a_callVi (pc := 1) (d := 0) (st := []) (o := 76) [] dX12_closesSums_1 l_X12_209 in_X12_waitTop se_X12_waitTop rfl rfl rfl ⟨Nat.le_of_ble_eq_true rfl, Nat.le_of_ble_eq_true rfl⟩ ⟨Nat.le_of_ble_eq_true rfl, Nat.le_of_ble_eq_true rfl⟩ (Nat.le_of_ble_eq_true rfl) ?_
  refine Calls.mono (fun r1 M1 hr1 hM1 h => ?_) h
  refine a_iconst (pc := 4) dX12_closesSums_4 (cnb rfl) ?_
  refine a_icmp_lt (pc := 5) 17 dX12_closesSums_5 rfl ⟨fun hc => ?_, fun hc => ?_⟩
  · replace h := h.1 hc
    exact h
  · replace h := h.2 hc
    refine a_aload_n (pc := 8) dX12_closesSums_8 rfl ?_
    refine a_callVi (pc := 9) (d := 0) (st := []) (o := 76) [] dX12_closesSums_9 l_X12_209 in_X12_waitTop se_X12_waitTop rfl rfl rfl ⟨Nat.le_of_ble_eq_true rfl, Nat.le_of_ble_eq_true rfl⟩ ⟨Nat.le_of_ble_eq_true rfl, Nat.le_of_ble_eq_true rfl⟩ (Nat.le_of_ble_eq_true rfl) ?_
    refine Calls.mono (fun r9 M9 hr9 hM9 h => ?_) h
    refine a_bipush (pc := 12) dX12_closesSums_12 (by decide) (cnb rfl) ?_
    refine a_icmp_le (pc := 14) 37 dX12_closesSums_14 rfl ⟨fun hc => ?_, fun hc => ?_⟩
    · replace h := h.1 hc
      exact h
    · replace h := h.2 hc
      exact h
set_option maxRecDepth 20000 in
theorem e_X12_closesSums {Q : Int → Me → Prop}  {a : Int} {M : Me} (h :
    Calls 0 mX12_waitTop [.inr 76] M (fun r1 M1 =>
    ((r1 < 4 →
    Go (km 1 mX12_closesSums Q) 17 [some (.inr 76), some (.inl a)] [] M1) ∧ (4 ≤ r1 →
    Calls 0 mX12_waitTop [.inr 76] M1 (fun r9 M9 =>
    ((r9 ≤ 6 →
    Go (km 1 mX12_closesSums Q) 37 [some (.inr 76), some (.inl a)] [] M9) ∧ (6 < r9 →
    Go (km 1 mX12_closesSums Q) 17 [some (.inr 76), some (.inl a)] [] M9))))))) : Calls 1 mX12_closesSums [.inr 76, .inl a] M Q := Calls.of (by decide) (Nat.le_of_ble_eq_true rfl) (s_X12_closesSums_0  a M h)
set_option maxRecDepth 20000 in
theorem s_X12_closesSums_17 {Q : Int → Me → Prop}  (x1 : Int) (M : Me) (h :
    ((x1 = 0 →
    Q 0 M) ∧ (x1 ≠ 0 →
    Calls 0 mX12_waitTop [.inr 76] M (fun r22 M22 =>
    ((r22 = 2 →
    Go (km 1 mX12_closesSums Q) 37 [some (.inr 76), some (.inl x1)] [] M22) ∧ (r22 ≠ 2 →
    Calls 0 mX12_waitTop [.inr 76] M22 (fun r30 M30 =>
    ((r30 ≠ 3 →
    Q 0 M30) ∧ (r30 = 3 →
    Go (km 1 mX12_closesSums Q) 37 [some (.inr 76), some (.inl x1)] [] M30))))))))) :
    Go (km 1 mX12_closesSums Q) 17 [some (.inr 76), some (.inl x1)] [] M := by
  refine a_iload_n (pc := 17) dX12_closesSums_17 rfl ?_
  refine a_if_eq (pc := 18) 59 dX12_closesSums_18 rfl ⟨fun hc => ?_, fun hc => ?_⟩
  · replace h := h.1 hc
    exact a_ret (pc := 59) dX12_closesSums_59 rfl h
  · replace h := h.2 hc
    refine a_aload_n (pc := 21) dX12_closesSums_21 rfl ?_
    refine a_callVi (pc := 22) (d := 0) (st := []) (o := 76) [] dX12_closesSums_22 l_X12_209 in_X12_waitTop se_X12_waitTop rfl rfl rfl ⟨Nat.le_of_ble_eq_true rfl, Nat.le_of_ble_eq_true rfl⟩ ⟨Nat.le_of_ble_eq_true rfl, Nat.le_of_ble_eq_true rfl⟩ (Nat.le_of_ble_eq_true rfl) ?_
    refine Calls.mono (fun r22 M22 hr22 hM22 h => ?_) h
    refine a_iconst (pc := 25) dX12_closesSums_25 (cnb rfl) ?_
    refine a_icmp_eq (pc := 26) 37 dX12_closesSums_26 rfl ⟨fun hc => ?_, fun hc => ?_⟩
    · replace h := h.1 hc
      exact h
    · replace h := h.2 hc
      refine a_aload_n (pc := 29) dX12_closesSums_29 rfl ?_
      refine a_callVi (pc := 30) (d := 0) (st := []) (o := 76) [] dX12_closesSums_30 l_X12_209 in_X12_waitTop se_X12_waitTop rfl rfl rfl ⟨Nat.le_of_ble_eq_true rfl, Nat.le_of_ble_eq_true rfl⟩ ⟨Nat.le_of_ble_eq_true rfl, Nat.le_of_ble_eq_true rfl⟩ (Nat.le_of_ble_eq_true rfl) ?_
      refine Calls.mono (fun r30 M30 hr30 hM30 h => ?_) h
      refine a_iconst (pc := 33) dX12_closesSums_33 (cnb rfl) ?_
      refine a_icmp_ne (pc := 34) 59 dX12_closesSums_34 rfl ⟨fun hc => ?_, fun hc => ?_⟩
      · replace h := h.1 hc
        exact a_ret (pc := 59) dX12_closesSums_59 rfl h
      · replace h := h.2 hc
        exact h
set_option maxRecDepth 20000 in
theorem s_X12_closesSums_37 {Q : Int → Me → Prop}  (x1 : Int) (M : Me) (h :
    Calls 0 mX12_waitTop [.inr 76] M (fun r39 M39 =>
    Calls 0 mX12_notes [.inr 76, .inl r39, .inl 0] M39 (fun r43 M43 =>
    cn ((M43 76 20) - 1) ∧
    Go (km 1 mX12_closesSums Q) 0 [some (.inr 76), some (.inl x1)] [] (mput M43 76 20 ((M43 76 20) - 1))))) :
    Go (km 1 mX12_closesSums Q) 37 [some (.inr 76), some (.inl x1)] [] M := by
  refine a_aload_n (pc := 37) dX12_closesSums_37 rfl ?_
  refine a_aload_n (pc := 38) dX12_closesSums_38 rfl ?_
  refine a_callVi (pc := 39) (d := 0) (st := [.inr 76]) (o := 76) [] dX12_closesSums_39 l_X12_209 in_X12_waitTop se_X12_waitTop rfl rfl rfl ⟨Nat.le_of_ble_eq_true rfl, Nat.le_of_ble_eq_true rfl⟩ ⟨Nat.le_of_ble_eq_true rfl, Nat.le_of_ble_eq_true rfl⟩ (Nat.le_of_ble_eq_true rfl) ?_
  refine Calls.mono (fun r39 M39 hr39 hM39 h => ?_) h
  refine a_iconst (pc := 42) dX12_closesSums_42 (cnb rfl) ?_
  refine a_callVv (pc := 43) (d := 0) (st := []) (o := 76) [.inl r39, .inl 0] dX12_closesSums_43 l_X12_212 in_X12_notes se_X12_notes rfl rfl rfl ⟨Nat.le_of_ble_eq_true rfl, Nat.le_of_ble_eq_true rfl⟩ ⟨Nat.le_of_ble_eq_true rfl, Nat.le_of_ble_eq_true rfl⟩ (Nat.le_of_ble_eq_true rfl) ?_
  refine Calls.mono (fun r43 M43 hr43 hM43 h => ?_) h
  refine a_aload_n (pc := 46) dX12_closesSums_46 rfl ?_
  refine a_aload_n (pc := 47) dX12_closesSums_47 rfl ?_
  refine a_geti (pc := 48) 20 dX12_closesSums_48 f_X12_206 rfl rfl ?_
  refine a_iconst (pc := 51) dX12_closesSums_51 (cnb rfl) ?_
  refine a_isub (pc := 52) dX12_closesSums_52 h.1 ?_
  replace h := h.2
  refine a_puti (pc := 53) 20 dX12_closesSums_53 f_X12_206 rfl rfl (Or.inl rfl) ?_
  refine a_goto (pc := 56) 0 dX12_closesSums_56 rfl ?_
  exact h
set_option maxRecDepth 20000 in
theorem s_X12_readsNumber_0 {Q : Int → Me → Prop}  (M : Me) (h :
    Go (km 2 mX12_readsNumber Q) 10 [some (.inr 76), some (.inl (M 76 14))] [] (mput M 76 17 0)) :
    Go (km 2 mX12_readsNumber Q) 0 [some (.inr 76), none] [] M := by
  refine a_aload_n (pc := 0) dX12_readsNumber_0 rfl ?_
  refine a_geti (pc := 1) 14 dX12_readsNumber_1 f_X12_175 rfl rfl ?_
  refine a_istore_n (pc := 4) dX12_readsNumber_4 (Nat.le_of_ble_eq_true rfl) ?_
  refine a_aload_n (pc := 5) dX12_readsNumber_5 rfl ?_
  refine a_iconst (pc := 6) dX12_readsNumber_6 (cnb rfl) ?_
  refine a_puti (pc := 7) 17 dX12_readsNumber_7 f_X12_192 rfl rfl (Or.inl rfl) ?_
  exact h
set_option maxRecDepth 20000 in
theorem e_X12_readsNumber {Q : Int → Me → Prop}  {M : Me} (h :
    Go (km 2 mX12_readsNumber Q) 10 [some (.inr 76), some (.inl (M 76 14))] [] (mput M 76 17 0)) : Calls 2 mX12_readsNumber [.inr 76] M Q := Calls.of (by decide) (Nat.le_of_ble_eq_true rfl) (s_X12_readsNumber_0   M h)
set_option maxRecDepth 20000 in
theorem s_X12_readsNumber_10 {Q : Int → Me → Prop}  (x1 : Int) (M : Me) (h :
    Calls 1 mX12_isDigit [.inr 76] M (fun r11 M11 =>
    ((r11 = 0 →
    Q 1 M11) ∧ (r11 ≠ 0 →
    cn (x1 + 5) ∧
    ((M11 76 14 ≠ x1 + 5 →
    cn (10 * (M11 76 17)) ∧
    Calls 0 mX12_here [.inr 76] M11 (fun r46 M46 =>
    cn ((10 * (M11 76 17)) + r46) ∧
    cn (((10 * (M11 76 17)) + r46) - 48) ∧
    cn ((M46 76 14) + 1) ∧
    Go (km 2 mX12_readsNumber Q) 10 [some (.inr 76), some (.inl x1)] [] (mput (mput M46 76 17 (((10 * (M11 76 17)) + r46) - 48)) 76 14 ((M46 76 14) + 1)))) ∧ (M11 76 14 = x1 + 5 →
    Calls 0 mX12_wrongAt [.inr 76, .inl 2, .inl (M11 76 14)] M11 (fun r33 M33 =>
    (r33 = 0 ∨ r33 = 1) ∧
    Q r33 M33))))))) :
    Go (km 2 mX12_readsNumber Q) 10 [some (.inr 76), some (.inl x1)] [] M := by
  refine a_aload_n (pc := 10) dX12_readsNumber_10 rfl ?_
  refine a_callVi (pc := 11) (d := 1) (st := []) (o := 76) [] dX12_readsNumber_11 l_X12_195 in_X12_isDigit se_X12_isDigit rfl rfl rfl ⟨Nat.le_of_ble_eq_true rfl, Nat.le_of_ble_eq_true rfl⟩ ⟨Nat.le_of_ble_eq_true rfl, Nat.le_of_ble_eq_true rfl⟩ (Nat.le_of_ble_eq_true rfl) ?_
  refine Calls.mono (fun r11 M11 hr11 hM11 h => ?_) h
  refine a_if_eq (pc := 14) 69 dX12_readsNumber_14 rfl ⟨fun hc => ?_, fun hc => ?_⟩
  · replace h := h.1 hc
    refine a_iconst (pc := 69) dX12_readsNumber_69 (cnb rfl) ?_
    exact a_iretZ (pc := 70) dX12_readsNumber_70 rfl (by decide) h
  · replace h := h.2 hc
    refine a_aload_n (pc := 17) dX12_readsNumber_17 rfl ?_
    refine a_geti (pc := 18) 14 dX12_readsNumber_18 f_X12_175 rfl rfl ?_
    refine a_iload_n (pc := 21) dX12_readsNumber_21 rfl ?_
    refine a_iconst (pc := 22) dX12_readsNumber_22 (cnb rfl) ?_
    refine a_iadd (pc := 23) dX12_readsNumber_23 h.1 ?_
    replace h := h.2
    refine a_icmp_ne (pc := 24) 37 dX12_readsNumber_24 rfl ⟨fun hc => ?_, fun hc => ?_⟩
    · replace h := h.1 hc
      refine a_aload_n (pc := 37) dX12_readsNumber_37 rfl ?_
      refine a_bipush (pc := 38) dX12_readsNumber_38 (by decide) (cnb rfl) ?_
      refine a_aload_n (pc := 40) dX12_readsNumber_40 rfl ?_
      refine a_geti (pc := 41) 17 dX12_readsNumber_41 f_X12_192 rfl rfl ?_
      refine a_imul (pc := 44) dX12_readsNumber_44 h.1 ?_
      replace h := h.2
      refine a_aload_n (pc := 45) dX12_readsNumber_45 rfl ?_
      refine a_callVi (pc := 46) (d := 0) (st := [.inl (10 * (M11 76 17)), .inr 76]) (o := 76) [] dX12_readsNumber_46 l_X12_181 in_X12_here se_X12_here rfl rfl rfl ⟨Nat.le_of_ble_eq_true rfl, Nat.le_of_ble_eq_true rfl⟩ ⟨Nat.le_of_ble_eq_true rfl, Nat.le_of_ble_eq_true rfl⟩ (Nat.le_of_ble_eq_true rfl) ?_
      refine Calls.mono (fun r46 M46 hr46 hM46 h => ?_) h
      refine a_iadd (pc := 49) dX12_readsNumber_49 h.1 ?_
      replace h := h.2
      refine a_bipush (pc := 50) dX12_readsNumber_50 (by decide) (cnb rfl) ?_
      refine a_isub (pc := 52) dX12_readsNumber_52 h.1 ?_
      replace h := h.2
      refine a_puti (pc := 53) 17 dX12_readsNumber_53 f_X12_192 rfl rfl (Or.inl rfl) ?_
      refine a_aload_n (pc := 56) dX12_readsNumber_56 rfl ?_
      refine a_aload_n (pc := 57) dX12_readsNumber_57 rfl ?_
      refine a_getiE (pc := 58) (M46 76 14) 14 dX12_readsNumber_58 f_X12_175 rfl rfl (mput_ni _ _ _ _ (by decide)) ?_
      refine a_iconst (pc := 61) dX12_readsNumber_61 (cnb rfl) ?_
      refine a_iadd (pc := 62) dX12_readsNumber_62 h.1 ?_
      replace h := h.2
      refine a_puti (pc := 63) 14 dX12_readsNumber_63 f_X12_175 rfl rfl (Or.inl rfl) ?_
      refine a_goto (pc := 66) 10 dX12_readsNumber_66 rfl ?_
      exact h
    · replace h := h.2 hc
      refine a_aload_n (pc := 27) dX12_readsNumber_27 rfl ?_
      refine a_iconst (pc := 28) dX12_readsNumber_28 (cnb rfl) ?_
      refine a_aload_n (pc := 29) dX12_readsNumber_29 rfl ?_
      refine a_geti (pc := 30) 14 dX12_readsNumber_30 f_X12_175 rfl rfl ?_
      refine a_callVi (pc := 33) (d := 0) (st := []) (o := 76) [.inl 2, .inl (M11 76 14)] dX12_readsNumber_33 l_X12_188 in_X12_wrongAt se_X12_wrongAt rfl rfl rfl ⟨Nat.le_of_ble_eq_true rfl, Nat.le_of_ble_eq_true rfl⟩ ⟨Nat.le_of_ble_eq_true rfl, Nat.le_of_ble_eq_true rfl⟩ (Nat.le_of_ble_eq_true rfl) ?_
      refine Calls.mono (fun r33 M33 hr33 hM33 h => ?_) h
      exact a_iretZ (pc := 36) dX12_readsNumber_36 rfl h.1 h.2
set_option maxRecDepth 20000 in
theorem s_X12_readsFactor_0 {Q : Int → Me → Prop}  (M : Me) (h :
    Calls 0 mX12_here [.inr 76] M (fun r1 M1 =>
    ((r1 ≠ 91 →
    Calls 1 mX12_isDigit [.inr 76] M1 (fun r21 M21 =>
    ((r21 = 0 →
    Calls 0 mX12_here [.inr 76] M21 (fun r48 M48 =>
    Calls 0 mX12_factOf [.inl r48] M48 (fun r51 M51 =>
    ((r51 ≠ (-1) →
    Calls 0 mX12_notes [.inr 76, .inl 1, .inl r51] M51 (fun r73 M73 =>
    cn ((M73 76 14) + 1) ∧
    Q 1 (mput M73 76 14 ((M73 76 14) + 1)))) ∧ (r51 = (-1) →
    Calls 0 mX12_wrongAt [.inr 76, .inl 1, .inl (M51 76 14)] M51 (fun r66 M66 =>
    (r66 = 0 ∨ r66 = 1) ∧
    Q r66 M66)))))) ∧ (r21 ≠ 0 →
    Calls 2 mX12_readsNumber [.inr 76] M21 (fun r28 M28 =>
    ((r28 ≠ 0 →
    Calls 0 mX12_notes [.inr 76, .inl 0, .inl (M28 76 17)] M28 (fun r42 M42 =>
    Q 1 M42)) ∧ (r28 = 0 →
    Q 0 M28))))))) ∧ (r1 = 91 →
    Calls 1 mX12_opens [.inr 76, .inl 14] M1 (fun r12 M12 =>
    ((r12 ≠ 0 →
    Go (km 3 mX12_readsFactor Q) 0 [some (.inr 76), none] [] M12) ∧ (r12 = 0 →
    Q 0 M12))))))) :
    Go (km 3 mX12_readsFactor Q) 0 [some (.inr 76), none] [] M := by
  refine a_aload_n (pc := 0) dX12_readsFactor_0 rfl ?_
  refine a_callVi (pc := 1) (d := 0) (st := []) (o := 76) [] dX12_readsFactor_1 l_X12_181 in_X12_here se_X12_here rfl rfl rfl ⟨Nat.le_of_ble_eq_true rfl, Nat.le_of_ble_eq_true rfl⟩ ⟨Nat.le_of_ble_eq_true rfl, Nat.le_of_ble_eq_true rfl⟩ (Nat.le_of_ble_eq_true rfl) ?_
  refine Calls.mono (fun r1 M1 hr1 hM1 h => ?_) h
  refine a_bipush (pc := 4) dX12_readsFactor_4 (by decide) (cnb rfl) ?_
  refine a_icmp_ne (pc := 6) 20 dX12_readsFactor_6 rfl ⟨fun hc => ?_, fun hc => ?_⟩
  · replace h := h.1 hc
    refine a_aload_n (pc := 20) dX12_readsFactor_20 rfl ?_
    refine a_callVi (pc := 21) (d := 1) (st := []) (o := 76) [] dX12_readsFactor_21 l_X12_195 in_X12_isDigit se_X12_isDigit rfl rfl rfl ⟨Nat.le_of_ble_eq_true rfl, Nat.le_of_ble_eq_true rfl⟩ ⟨Nat.le_of_ble_eq_true rfl, Nat.le_of_ble_eq_true rfl⟩ (Nat.le_of_ble_eq_true rfl) ?_
    refine Calls.mono (fun r21 M21 hr21 hM21 h => ?_) h
    refine a_if_eq (pc := 24) 47 dX12_readsFactor_24 rfl ⟨fun hc => ?_, fun hc => ?_⟩
    · replace h := h.1 hc
      refine a_aload_n (pc := 47) dX12_readsFactor_47 rfl ?_
      refine a_callVi (pc := 48) (d := 0) (st := []) (o := 76) [] dX12_readsFactor_48 l_X12_181 in_X12_here se_X12_here rfl rfl rfl ⟨Nat.le_of_ble_eq_true rfl, Nat.le_of_ble_eq_true rfl⟩ ⟨Nat.le_of_ble_eq_true rfl, Nat.le_of_ble_eq_true rfl⟩ (Nat.le_of_ble_eq_true rfl) ?_
      refine Calls.mono (fun r48 M48 hr48 hM48 h => ?_) h
      refine a_callSi (pc := 51) (d := 0) (st := []) [.inl r48] dX12_readsFactor_51 l_X12_222 st_X12_factOf rfl ⟨Nat.le_of_ble_eq_true rfl, Nat.le_of_ble_eq_true rfl⟩ ⟨Nat.le_of_ble_eq_true rfl, Nat.le_of_ble_eq_true rfl⟩ (Nat.le_of_ble_eq_true rfl) ?_
      refine Calls.mono (fun r51 M51 hr51 hM51 h => ?_) h
      refine a_istore_n (pc := 54) dX12_readsFactor_54 (Nat.le_of_ble_eq_true rfl) ?_
      refine a_iload_n (pc := 55) dX12_readsFactor_55 rfl ?_
      refine a_iconst (pc := 56) dX12_readsFactor_56 (cnb rfl) ?_
      refine a_icmp_ne (pc := 57) 70 dX12_readsFactor_57 rfl ⟨fun hc => ?_, fun hc => ?_⟩
      · replace h := h.1 hc
        refine a_aload_n (pc := 70) dX12_readsFactor_70 rfl ?_
        refine a_iconst (pc := 71) dX12_readsFactor_71 (cnb rfl) ?_
        refine a_iload_n (pc := 72) dX12_readsFactor_72 rfl ?_
        refine a_callVv (pc := 73) (d := 0) (st := []) (o := 76) [.inl 1, .inl r51] dX12_readsFactor_73 l_X12_212 in_X12_notes se_X12_notes rfl rfl rfl ⟨Nat.le_of_ble_eq_true rfl, Nat.le_of_ble_eq_true rfl⟩ ⟨Nat.le_of_ble_eq_true rfl, Nat.le_of_ble_eq_true rfl⟩ (Nat.le_of_ble_eq_true rfl) ?_
        refine Calls.mono (fun r73 M73 hr73 hM73 h => ?_) h
        refine a_aload_n (pc := 76) dX12_readsFactor_76 rfl ?_
        refine a_aload_n (pc := 77) dX12_readsFactor_77 rfl ?_
        refine a_geti (pc := 78) 14 dX12_readsFactor_78 f_X12_175 rfl rfl ?_
        refine a_iconst (pc := 81) dX12_readsFactor_81 (cnb rfl) ?_
        refine a_iadd (pc := 82) dX12_readsFactor_82 h.1 ?_
        replace h := h.2
        refine a_puti (pc := 83) 14 dX12_readsFactor_83 f_X12_175 rfl rfl (Or.inl rfl) ?_
        refine a_iconst (pc := 86) dX12_readsFactor_86 (cnb rfl) ?_
        exact a_iretZ (pc := 87) dX12_readsFactor_87 rfl (by decide) h
      · replace h := h.2 hc
        refine a_aload_n (pc := 60) dX12_readsFactor_60 rfl ?_
        refine a_iconst (pc := 61) dX12_readsFactor_61 (cnb rfl) ?_
        refine a_aload_n (pc := 62) dX12_readsFactor_62 rfl ?_
        refine a_geti (pc := 63) 14 dX12_readsFactor_63 f_X12_175 rfl rfl ?_
        refine a_callVi (pc := 66) (d := 0) (st := []) (o := 76) [.inl 1, .inl (M51 76 14)] dX12_readsFactor_66 l_X12_188 in_X12_wrongAt se_X12_wrongAt rfl rfl rfl ⟨Nat.le_of_ble_eq_true rfl, Nat.le_of_ble_eq_true rfl⟩ ⟨Nat.le_of_ble_eq_true rfl, Nat.le_of_ble_eq_true rfl⟩ (Nat.le_of_ble_eq_true rfl) ?_
        refine Calls.mono (fun r66 M66 hr66 hM66 h => ?_) h
        exact a_iretZ (pc := 69) dX12_readsFactor_69 rfl h.1 h.2
    · replace h := h.2 hc
      refine a_aload_n (pc := 27) dX12_readsFactor_27 rfl ?_
      refine a_callVi (pc := 28) (d := 2) (st := []) (o := 76) [] dX12_readsFactor_28 l_X12_219 in_X12_readsNumber se_X12_readsNumber rfl rfl rfl ⟨Nat.le_of_ble_eq_true rfl, Nat.le_of_ble_eq_true rfl⟩ ⟨Nat.le_of_ble_eq_true rfl, Nat.le_of_ble_eq_true rfl⟩ (Nat.le_of_ble_eq_true rfl) ?_
      refine Calls.mono (fun r28 M28 hr28 hM28 h => ?_) h
      refine a_if_ne (pc := 31) 36 dX12_readsFactor_31 rfl ⟨fun hc => ?_, fun hc => ?_⟩
      · replace h := h.1 hc
        refine a_aload_n (pc := 36) dX12_readsFactor_36 rfl ?_
        refine a_iconst (pc := 37) dX12_readsFactor_37 (cnb rfl) ?_
        refine a_aload_n (pc := 38) dX12_readsFactor_38 rfl ?_
        refine a_geti (pc := 39) 17 dX12_readsFactor_39 f_X12_192 rfl rfl ?_
        refine a_callVv (pc := 42) (d := 0) (st := []) (o := 76) [.inl 0, .inl (M28 76 17)] dX12_readsFactor_42 l_X12_212 in_X12_notes se_X12_notes rfl rfl rfl ⟨Nat.le_of_ble_eq_true rfl, Nat.le_of_ble_eq_true rfl⟩ ⟨Nat.le_of_ble_eq_true rfl, Nat.le_of_ble_eq_true rfl⟩ (Nat.le_of_ble_eq_true rfl) ?_
        refine Calls.mono (fun r42 M42 hr42 hM42 h => ?_) h
        refine a_iconst (pc := 45) dX12_readsFactor_45 (cnb rfl) ?_
        exact a_iretZ (pc := 46) dX12_readsFactor_46 rfl (by decide) h
      · replace h := h.2 hc
        refine a_iconst (pc := 34) dX12_readsFactor_34 (cnb rfl) ?_
        exact a_iretZ (pc := 35) dX12_readsFactor_35 rfl (by decide) h
  · replace h := h.2 hc
    refine a_aload_n (pc := 9) dX12_readsFactor_9 rfl ?_
    refine a_bipush (pc := 10) dX12_readsFactor_10 (by decide) (cnb rfl) ?_
    refine a_callVi (pc := 12) (d := 1) (st := []) (o := 76) [.inl 14] dX12_readsFactor_12 l_X12_216 in_X12_opens se_X12_opens rfl rfl rfl ⟨Nat.le_of_ble_eq_true rfl, Nat.le_of_ble_eq_true rfl⟩ ⟨Nat.le_of_ble_eq_true rfl, Nat.le_of_ble_eq_true rfl⟩ (Nat.le_of_ble_eq_true rfl) ?_
    refine Calls.mono (fun r12 M12 hr12 hM12 h => ?_) h
    refine a_if_ne (pc := 15) 0 dX12_readsFactor_15 rfl ⟨fun hc => ?_, fun hc => ?_⟩
    · replace h := h.1 hc
      exact h
    · replace h := h.2 hc
      refine a_iconst (pc := 18) dX12_readsFactor_18 (cnb rfl) ?_
      exact a_iretZ (pc := 19) dX12_readsFactor_19 rfl (by decide) h
set_option maxRecDepth 20000 in
theorem e_X12_readsFactor {Q : Int → Me → Prop}  {M : Me} (h :
    Calls 0 mX12_here [.inr 76] M (fun r1 M1 =>
    ((r1 ≠ 91 →
    Calls 1 mX12_isDigit [.inr 76] M1 (fun r21 M21 =>
    ((r21 = 0 →
    Calls 0 mX12_here [.inr 76] M21 (fun r48 M48 =>
    Calls 0 mX12_factOf [.inl r48] M48 (fun r51 M51 =>
    ((r51 ≠ (-1) →
    Calls 0 mX12_notes [.inr 76, .inl 1, .inl r51] M51 (fun r73 M73 =>
    cn ((M73 76 14) + 1) ∧
    Q 1 (mput M73 76 14 ((M73 76 14) + 1)))) ∧ (r51 = (-1) →
    Calls 0 mX12_wrongAt [.inr 76, .inl 1, .inl (M51 76 14)] M51 (fun r66 M66 =>
    (r66 = 0 ∨ r66 = 1) ∧
    Q r66 M66)))))) ∧ (r21 ≠ 0 →
    Calls 2 mX12_readsNumber [.inr 76] M21 (fun r28 M28 =>
    ((r28 ≠ 0 →
    Calls 0 mX12_notes [.inr 76, .inl 0, .inl (M28 76 17)] M28 (fun r42 M42 =>
    Q 1 M42)) ∧ (r28 = 0 →
    Q 0 M28))))))) ∧ (r1 = 91 →
    Calls 1 mX12_opens [.inr 76, .inl 14] M1 (fun r12 M12 =>
    ((r12 ≠ 0 →
    Go (km 3 mX12_readsFactor Q) 0 [some (.inr 76), none] [] M12) ∧ (r12 = 0 →
    Q 0 M12))))))) : Calls 3 mX12_readsFactor [.inr 76] M Q := Calls.of (by decide) (Nat.le_of_ble_eq_true rfl) (s_X12_readsFactor_0   M h)
set_option maxRecDepth 20000 in
theorem s_X12_hasOpenSum_0 {Q : Int → Me → Prop}  (a : Int) (M : Me) (h :
    Go (km 0 mX12_hasOpenSum Q) 2 [some (.inr 76), none, some (.inl a)] [] M) :
    Go (km 0 mX12_hasOpenSum Q) 0 [some (.inr 76), some (.inl a), none] [] M := by
  refine a_iload_n (pc := 0) dX12_hasOpenSum_0 rfl ?_
  refine a_istore_n (pc := 1) dX12_hasOpenSum_1 (Nat.le_of_ble_eq_true rfl) ?_
  exact Go.weak h (And.intro rfl (And.intro rfl True.intro))
set_option maxRecDepth 20000 in
theorem e_X12_hasOpenSum {Q : Int → Me → Prop}  {a : Int} {M : Me} (h :
    Go (km 0 mX12_hasOpenSum Q) 2 [some (.inr 76), none, some (.inl a)] [] M) : Calls 0 mX12_hasOpenSum [.inr 76, .inl a] M Q := Calls.of (by decide) (Nat.le_of_ble_eq_true rfl) (s_X12_hasOpenSum_0  a M h)
set_option maxRecDepth 20000 in
theorem s_X12_hasOpenSum_2 {Q : Int → Me → Prop}  (x2 : Int) (M : Me) (h :
    ((M 76 20 ≤ x2 →
    Q 0 M) ∧ (x2 < M 76 20 →
    (0 ≤ x2 ∧ x2 < 260) ∧
    0 ≤ (M 90 x2) ∧
    (((M 90 x2) / 1048576 ≠ 14 →
    cn (x2 + 1) ∧
    Go (km 0 mX12_hasOpenSum Q) 2 [some (.inr 76), none, some (.inl (x2 + 1))] [] M) ∧ ((M 90 x2) / 1048576 = 14 →
    Q 1 M))))) :
    Go (km 0 mX12_hasOpenSum Q) 2 [some (.inr 76), none, some (.inl x2)] [] M := by
  refine a_iload_n (pc := 2) dX12_hasOpenSum_2 rfl ?_
  refine a_aload_n (pc := 3) dX12_hasOpenSum_3 rfl ?_
  refine a_geti (pc := 4) 20 dX12_hasOpenSum_4 f_X12_206 rfl rfl ?_
  refine a_icmp_ge (pc := 7) 32 dX12_hasOpenSum_7 rfl ⟨fun hc => ?_, fun hc => ?_⟩
  · replace h := h.1 hc
    refine a_iconst (pc := 32) dX12_hasOpenSum_32 (cnb rfl) ?_
    exact a_iretZ (pc := 33) dX12_hasOpenSum_33 rfl (by decide) h
  · replace h := h.2 hc
    refine a_aload_n (pc := 10) dX12_hasOpenSum_10 rfl ?_
    refine a_getr (pc := 11) dX12_hasOpenSum_11 f_X12_50 rfl ?_
    refine a_iload_n (pc := 14) dX12_hasOpenSum_14 rfl ?_
    refine a_iald (pc := 15) dX12_hasOpenSum_15 rfl h.1.1 h.1.2  ?_
    replace h := h.2
    refine a_ldc (pc := 16) (n := 1048576) dX12_hasOpenSum_16 k_X12_202 (by decide) (cnb rfl) ?_
    refine a_idivn (pc := 18) dX12_hasOpenSum_18 (by decide) h.1 ?_
    replace h := h.2
    refine a_bipush (pc := 19) dX12_hasOpenSum_19 (by decide) (cnb rfl) ?_
    refine a_icmp_ne (pc := 21) 26 dX12_hasOpenSum_21 rfl ⟨fun hc => ?_, fun hc => ?_⟩
    · replace h := h.1 hc
      refine a_iinc (pc := 26) dX12_hasOpenSum_26 rfl h.1 (Nat.le_of_ble_eq_true rfl) ?_
      replace h := h.2
      refine a_goto (pc := 29) 2 dX12_hasOpenSum_29 rfl ?_
      exact h
    · replace h := h.2 hc
      refine a_iconst (pc := 24) dX12_hasOpenSum_24 (cnb rfl) ?_
      exact a_iretZ (pc := 25) dX12_hasOpenSum_25 rfl (by decide) h
set_option maxRecDepth 20000 in
theorem s_X12_readsSum_0 {Q : Int → Me → Prop}  (M : Me) (h :
    Calls 3 mX12_readsFactor [.inr 76] M (fun r6 M6 =>
    ((r6 ≠ 0 →
    Go (km 4 mX12_readsSum Q) 14 [some (.inr 76), some (.inl (M 76 20)), none] [] M6) ∧ (r6 = 0 →
    Q 0 M6)))) :
    Go (km 4 mX12_readsSum Q) 0 [some (.inr 76), none, none] [] M := by
  refine a_aload_n (pc := 0) dX12_readsSum_0 rfl ?_
  refine a_geti (pc := 1) 20 dX12_readsSum_1 f_X12_206 rfl rfl ?_
  refine a_istore_n (pc := 4) dX12_readsSum_4 (Nat.le_of_ble_eq_true rfl) ?_
  refine a_aload_n (pc := 5) dX12_readsSum_5 rfl ?_
  refine a_callVi (pc := 6) (d := 3) (st := []) (o := 76) [] dX12_readsSum_6 l_X12_225 in_X12_readsFactor se_X12_readsFactor rfl rfl rfl ⟨Nat.le_of_ble_eq_true rfl, Nat.le_of_ble_eq_true rfl⟩ ⟨Nat.le_of_ble_eq_true rfl, Nat.le_of_ble_eq_true rfl⟩ (Nat.le_of_ble_eq_true rfl) ?_
  refine Calls.mono (fun r6 M6 hr6 hM6 h => ?_) h
  refine a_if_ne (pc := 9) 14 dX12_readsSum_9 rfl ⟨fun hc => ?_, fun hc => ?_⟩
  · replace h := h.1 hc
    exact h
  · replace h := h.2 hc
    refine a_iconst (pc := 12) dX12_readsSum_12 (cnb rfl) ?_
    exact a_iretZ (pc := 13) dX12_readsSum_13 rfl (by decide) h
set_option maxRecDepth 20000 in
theorem e_X12_readsSum {Q : Int → Me → Prop}  {M : Me} (h :
    Calls 3 mX12_readsFactor [.inr 76] M (fun r6 M6 =>
    ((r6 ≠ 0 →
    Go (km 4 mX12_readsSum Q) 14 [some (.inr 76), some (.inl (M 76 20)), none] [] M6) ∧ (r6 = 0 →
    Q 0 M6)))) : Calls 4 mX12_readsSum [.inr 76] M Q := Calls.of (by decide) (Nat.le_of_ble_eq_true rfl) (s_X12_readsSum_0   M h)
set_option maxRecDepth 20000 in
theorem s_X12_readsSum_14 {Q : Int → Me → Prop}  (x1 : Int) (M : Me) (h :
    Calls 0 mX12_here [.inr 76] M (fun r15 M15 =>
    Calls 0 mX12_sumSign [.inl r15] M15 (fun r18 M18 =>
    ((r18 = (-1) →
    Go (km 4 mX12_readsSum Q) 83 [some (.inr 76), some (.inl x1), none] [] M18) ∧ (r18 ≠ (-1) →
    Go (km 4 mX12_readsSum Q) 27 [some (.inr 76), some (.inl x1), some (.inl r18)] [] M18))))) :
    Go (km 4 mX12_readsSum Q) 14 [some (.inr 76), some (.inl x1), none] [] M := by
  refine a_aload_n (pc := 14) dX12_readsSum_14 rfl ?_
  refine a_callVi (pc := 15) (d := 0) (st := []) (o := 76) [] dX12_readsSum_15 l_X12_181 in_X12_here se_X12_here rfl rfl rfl ⟨Nat.le_of_ble_eq_true rfl, Nat.le_of_ble_eq_true rfl⟩ ⟨Nat.le_of_ble_eq_true rfl, Nat.le_of_ble_eq_true rfl⟩ (Nat.le_of_ble_eq_true rfl) ?_
  refine Calls.mono (fun r15 M15 hr15 hM15 h => ?_) h
  refine a_callSi (pc := 18) (d := 0) (st := []) [.inl r15] dX12_readsSum_18 l_X12_228 st_X12_sumSign rfl ⟨Nat.le_of_ble_eq_true rfl, Nat.le_of_ble_eq_true rfl⟩ ⟨Nat.le_of_ble_eq_true rfl, Nat.le_of_ble_eq_true rfl⟩ (Nat.le_of_ble_eq_true rfl) ?_
  refine Calls.mono (fun r18 M18 hr18 hM18 h => ?_) h
  refine a_istore_n (pc := 21) dX12_readsSum_21 (Nat.le_of_ble_eq_true rfl) ?_
  refine a_iload_n (pc := 22) dX12_readsSum_22 rfl ?_
  refine a_iconst (pc := 23) dX12_readsSum_23 (cnb rfl) ?_
  refine a_icmp_eq (pc := 24) 83 dX12_readsSum_24 rfl ⟨fun hc => ?_, fun hc => ?_⟩
  · replace h := h.1 hc
    exact Go.weak h (And.intro rfl (And.intro rfl True.intro))
  · replace h := h.2 hc
    exact h
set_option maxRecDepth 20000 in
theorem s_X12_readsSum_83 {Q : Int → Me → Prop}  (x1 : Int) (M : Me) (h :
    Calls 0 mX12_here [.inr 76] M (fun r84 M84 =>
    ((r84 ≠ 93 →
    Go (km 4 mX12_readsSum Q) 138 [some (.inr 76), some (.inl x1), none] [] M84) ∧ (r84 = 93 →
    Calls 0 mX12_hasOpenSum [.inr 76, .inl x1] M84 (fun r94 M94 =>
    ((r94 = 0 →
    Go (km 4 mX12_readsSum Q) 138 [some (.inr 76), some (.inl x1), none] [] M94) ∧ (r94 ≠ 0 →
    Calls 1 mX12_closesSums [.inr 76, .inl 1] M94 (fun r102 M102 =>
    cn ((M102 76 20) - 1) ∧
    cn ((M102 76 18) - 1) ∧
    cn ((M102 76 14) + 1) ∧
    Go (km 4 mX12_readsSum Q) 14 [some (.inr 76), some (.inl x1), none] [] (mput (mput (mput M102 76 20 ((M102 76 20) - 1)) 76 18 ((M102 76 18) - 1)) 76 14 ((M102 76 14) + 1)))))))))) :
    Go (km 4 mX12_readsSum Q) 83 [some (.inr 76), some (.inl x1), none] [] M := by
  refine a_aload_n (pc := 83) dX12_readsSum_83 rfl ?_
  refine a_callVi (pc := 84) (d := 0) (st := []) (o := 76) [] dX12_readsSum_84 l_X12_181 in_X12_here se_X12_here rfl rfl rfl ⟨Nat.le_of_ble_eq_true rfl, Nat.le_of_ble_eq_true rfl⟩ ⟨Nat.le_of_ble_eq_true rfl, Nat.le_of_ble_eq_true rfl⟩ (Nat.le_of_ble_eq_true rfl) ?_
  refine Calls.mono (fun r84 M84 hr84 hM84 h => ?_) h
  refine a_bipush (pc := 87) dX12_readsSum_87 (by decide) (cnb rfl) ?_
  refine a_icmp_ne (pc := 89) 138 dX12_readsSum_89 rfl ⟨fun hc => ?_, fun hc => ?_⟩
  · replace h := h.1 hc
    exact h
  · replace h := h.2 hc
    refine a_aload_n (pc := 92) dX12_readsSum_92 rfl ?_
    refine a_iload_n (pc := 93) dX12_readsSum_93 rfl ?_
    refine a_callVi (pc := 94) (d := 0) (st := []) (o := 76) [.inl x1] dX12_readsSum_94 l_X12_235 in_X12_hasOpenSum se_X12_hasOpenSum rfl rfl rfl ⟨Nat.le_of_ble_eq_true rfl, Nat.le_of_ble_eq_true rfl⟩ ⟨Nat.le_of_ble_eq_true rfl, Nat.le_of_ble_eq_true rfl⟩ (Nat.le_of_ble_eq_true rfl) ?_
    refine Calls.mono (fun r94 M94 hr94 hM94 h => ?_) h
    refine a_if_eq (pc := 97) 138 dX12_readsSum_97 rfl ⟨fun hc => ?_, fun hc => ?_⟩
    · replace h := h.1 hc
      exact h
    · replace h := h.2 hc
      refine a_aload_n (pc := 100) dX12_readsSum_100 rfl ?_
      refine a_iconst (pc := 101) dX12_readsSum_101 (cnb rfl) ?_
      refine a_callVv (pc := 102) (d := 1) (st := []) (o := 76) [.inl 1] dX12_readsSum_102 l_X12_231 in_X12_closesSums se_X12_closesSums rfl rfl rfl ⟨Nat.le_of_ble_eq_true rfl, Nat.le_of_ble_eq_true rfl⟩ ⟨Nat.le_of_ble_eq_true rfl, Nat.le_of_ble_eq_true rfl⟩ (Nat.le_of_ble_eq_true rfl) ?_
      refine Calls.mono (fun r102 M102 hr102 hM102 h => ?_) h
      refine a_aload_n (pc := 105) dX12_readsSum_105 rfl ?_
      refine a_aload_n (pc := 106) dX12_readsSum_106 rfl ?_
      refine a_geti (pc := 107) 20 dX12_readsSum_107 f_X12_206 rfl rfl ?_
      refine a_iconst (pc := 110) dX12_readsSum_110 (cnb rfl) ?_
      refine a_isub (pc := 111) dX12_readsSum_111 h.1 ?_
      replace h := h.2
      refine a_puti (pc := 112) 20 dX12_readsSum_112 f_X12_206 rfl rfl (Or.inl rfl) ?_
      refine a_aload_n (pc := 115) dX12_readsSum_115 rfl ?_
      refine a_aload_n (pc := 116) dX12_readsSum_116 rfl ?_
      refine a_getiE (pc := 117) (M102 76 18) 18 dX12_readsSum_117 f_X12_203 rfl rfl (mput_ni _ _ _ _ (by decide)) ?_
      refine a_iconst (pc := 120) dX12_readsSum_120 (cnb rfl) ?_
      refine a_isub (pc := 121) dX12_readsSum_121 h.1 ?_
      replace h := h.2
      refine a_puti (pc := 122) 18 dX12_readsSum_122 f_X12_203 rfl rfl (Or.inl rfl) ?_
      refine a_aload_n (pc := 125) dX12_readsSum_125 rfl ?_
      refine a_aload_n (pc := 126) dX12_readsSum_126 rfl ?_
      refine a_getiE (pc := 127) (M102 76 14) 14 dX12_readsSum_127 f_X12_175 rfl rfl ((mput_ni _ _ _ _ (by decide)).trans (mput_ni _ _ _ _ (by decide))) ?_
      refine a_iconst (pc := 130) dX12_readsSum_130 (cnb rfl) ?_
      refine a_iadd (pc := 131) dX12_readsSum_131 h.1 ?_
      replace h := h.2
      refine a_puti (pc := 132) 14 dX12_readsSum_132 f_X12_175 rfl rfl (Or.inl rfl) ?_
      refine a_goto (pc := 135) 163 dX12_readsSum_135 rfl ?_
      refine a_goto (pc := 163) 14 dX12_readsSum_163 rfl ?_
      exact h
set_option maxRecDepth 20000 in
theorem s_X12_readsSum_27 {Q : Int → Me → Prop}  (x1 x2 : Int) (M : Me) (h :
    ((4 ≤ x2 →
    Calls 1 mX12_closesSums [.inr 76, .inl 0] M (fun r38 M38 =>
    Go (km 4 mX12_readsSum Q) 41 [some (.inr 76), some (.inl x1), some (.inl x2)] [] M38)) ∧ (x2 < 4 →
    Calls 1 mX12_closesSums [.inr 76, .inl 1] M (fun r38 M38 =>
    Go (km 4 mX12_readsSum Q) 41 [some (.inr 76), some (.inl x1), some (.inl x2)] [] M38)))) :
    Go (km 4 mX12_readsSum Q) 27 [some (.inr 76), some (.inl x1), some (.inl x2)] [] M := by
  refine a_aload_n (pc := 27) dX12_readsSum_27 rfl ?_
  refine a_iload_n (pc := 28) dX12_readsSum_28 rfl ?_
  refine a_iconst (pc := 29) dX12_readsSum_29 (cnb rfl) ?_
  refine a_icmp_ge (pc := 30) 37 dX12_readsSum_30 rfl ⟨fun hc => ?_, fun hc => ?_⟩
  · replace h := h.1 hc
    refine a_iconst (pc := 37) dX12_readsSum_37 (cnb rfl) ?_
    refine a_callVv (pc := 38) (d := 1) (st := []) (o := 76) [.inl 0] dX12_readsSum_38 l_X12_231 in_X12_closesSums se_X12_closesSums rfl rfl rfl ⟨Nat.le_of_ble_eq_true rfl, Nat.le_of_ble_eq_true rfl⟩ ⟨Nat.le_of_ble_eq_true rfl, Nat.le_of_ble_eq_true rfl⟩ (Nat.le_of_ble_eq_true rfl) ?_
    refine Calls.mono (fun r38 M38 hr38 hM38 h => ?_) h
    exact h
  · replace h := h.2 hc
    refine a_iconst (pc := 33) dX12_readsSum_33 (cnb rfl) ?_
    refine a_goto (pc := 34) 38 dX12_readsSum_34 rfl ?_
    refine a_callVv (pc := 38) (d := 1) (st := []) (o := 76) [.inl 1] dX12_readsSum_38 l_X12_231 in_X12_closesSums se_X12_closesSums rfl rfl rfl ⟨Nat.le_of_ble_eq_true rfl, Nat.le_of_ble_eq_true rfl⟩ ⟨Nat.le_of_ble_eq_true rfl, Nat.le_of_ble_eq_true rfl⟩ (Nat.le_of_ble_eq_true rfl) ?_
    refine Calls.mono (fun r38 M38 hr38 hM38 h => ?_) h
    exact h
set_option maxRecDepth 20000 in
theorem s_X12_readsSum_138 {Q : Int → Me → Prop}  (x1 : Int) (M : Me) (h :
    Calls 0 mX12_hasOpenSum [.inr 76, .inl x1] M (fun r140 M140 =>
    ((r140 = 0 →
    Calls 1 mX12_closesSums [.inr 76, .inl 1] M140 (fun r158 M158 =>
    Q 1 M158)) ∧ (r140 ≠ 0 →
    Calls 0 mX12_wrongAt [.inr 76, .inl 1, .inl (M140 76 14)] M140 (fun r152 M152 =>
    (r152 = 0 ∨ r152 = 1) ∧
    Q r152 M152))))) :
    Go (km 4 mX12_readsSum Q) 138 [some (.inr 76), some (.inl x1), none] [] M := by
  refine a_aload_n (pc := 138) dX12_readsSum_138 rfl ?_
  refine a_iload_n (pc := 139) dX12_readsSum_139 rfl ?_
  refine a_callVi (pc := 140) (d := 0) (st := []) (o := 76) [.inl x1] dX12_readsSum_140 l_X12_235 in_X12_hasOpenSum se_X12_hasOpenSum rfl rfl rfl ⟨Nat.le_of_ble_eq_true rfl, Nat.le_of_ble_eq_true rfl⟩ ⟨Nat.le_of_ble_eq_true rfl, Nat.le_of_ble_eq_true rfl⟩ (Nat.le_of_ble_eq_true rfl) ?_
  refine Calls.mono (fun r140 M140 hr140 hM140 h => ?_) h
  refine a_if_eq (pc := 143) 156 dX12_readsSum_143 rfl ⟨fun hc => ?_, fun hc => ?_⟩
  · replace h := h.1 hc
    refine a_aload_n (pc := 156) dX12_readsSum_156 rfl ?_
    refine a_iconst (pc := 157) dX12_readsSum_157 (cnb rfl) ?_
    refine a_callVv (pc := 158) (d := 1) (st := []) (o := 76) [.inl 1] dX12_readsSum_158 l_X12_231 in_X12_closesSums se_X12_closesSums rfl rfl rfl ⟨Nat.le_of_ble_eq_true rfl, Nat.le_of_ble_eq_true rfl⟩ ⟨Nat.le_of_ble_eq_true rfl, Nat.le_of_ble_eq_true rfl⟩ (Nat.le_of_ble_eq_true rfl) ?_
    refine Calls.mono (fun r158 M158 hr158 hM158 h => ?_) h
    refine a_iconst (pc := 161) dX12_readsSum_161 (cnb rfl) ?_
    exact a_iretZ (pc := 162) dX12_readsSum_162 rfl (by decide) h
  · replace h := h.2 hc
    refine a_aload_n (pc := 146) dX12_readsSum_146 rfl ?_
    refine a_iconst (pc := 147) dX12_readsSum_147 (cnb rfl) ?_
    refine a_aload_n (pc := 148) dX12_readsSum_148 rfl ?_
    refine a_geti (pc := 149) 14 dX12_readsSum_149 f_X12_175 rfl rfl ?_
    refine a_callVi (pc := 152) (d := 0) (st := []) (o := 76) [.inl 1, .inl (M140 76 14)] dX12_readsSum_152 l_X12_188 in_X12_wrongAt se_X12_wrongAt rfl rfl rfl ⟨Nat.le_of_ble_eq_true rfl, Nat.le_of_ble_eq_true rfl⟩ ⟨Nat.le_of_ble_eq_true rfl, Nat.le_of_ble_eq_true rfl⟩ (Nat.le_of_ble_eq_true rfl) ?_
    refine Calls.mono (fun r152 M152 hr152 hM152 h => ?_) h
    exact a_iretZ (pc := 155) dX12_readsSum_155 rfl h.1 h.2
set_option maxRecDepth 20000 in
theorem s_X12_readsSum_41 {Q : Int → Me → Prop}  (x1 x2 : Int) (M : Me) (h :
    cn (1048576 * x2) ∧
    (0 ≤ M 76 20 ∧ M 76 20 < 260) ∧
    cn ((M 76 20) + 1) ∧
    cn ((M 76 14) + 1) ∧
    Calls 3 mX12_readsFactor [.inr 76] (mput (mput (mput M 90 (M 76 20) (1048576 * x2)) 76 20 ((M 76 20) + 1)) 76 14 ((M 76 14) + 1)) (fun r75 M75 =>
    ((r75 ≠ 0 →
    Go (km 4 mX12_readsSum Q) 14 [some (.inr 76), some (.inl x1), none] [] M75) ∧ (r75 = 0 →
    Q 0 M75)))) :
    Go (km 4 mX12_readsSum Q) 41 [some (.inr 76), some (.inl x1), some (.inl x2)] [] M := by
  refine a_aload_n (pc := 41) dX12_readsSum_41 rfl ?_
  refine a_getr (pc := 42) dX12_readsSum_42 f_X12_50 rfl ?_
  refine a_aload_n (pc := 45) dX12_readsSum_45 rfl ?_
  refine a_geti (pc := 46) 20 dX12_readsSum_46 f_X12_206 rfl rfl ?_
  refine a_ldc (pc := 49) (n := 1048576) dX12_readsSum_49 k_X12_202 (by decide) (cnb rfl) ?_
  refine a_iload_n (pc := 51) dX12_readsSum_51 rfl ?_
  refine a_imul (pc := 52) dX12_readsSum_52 h.1 ?_
  replace h := h.2
  refine a_iast (pc := 53) dX12_readsSum_53 rfl h.1.1 h.1.2 ?_
  replace h := h.2
  refine a_aload_n (pc := 54) dX12_readsSum_54 rfl ?_
  refine a_aload_n (pc := 55) dX12_readsSum_55 rfl ?_
  refine a_getiE (pc := 56) (M 76 20) 20 dX12_readsSum_56 f_X12_206 rfl rfl (mput_ne _ _ _ _ (by decide)) ?_
  refine a_iconst (pc := 59) dX12_readsSum_59 (cnb rfl) ?_
  refine a_iadd (pc := 60) dX12_readsSum_60 h.1 ?_
  replace h := h.2
  refine a_puti (pc := 61) 20 dX12_readsSum_61 f_X12_206 rfl rfl (Or.inl rfl) ?_
  refine a_aload_n (pc := 64) dX12_readsSum_64 rfl ?_
  refine a_aload_n (pc := 65) dX12_readsSum_65 rfl ?_
  refine a_getiE (pc := 66) (M 76 14) 14 dX12_readsSum_66 f_X12_175 rfl rfl ((mput_ni _ _ _ _ (by decide)).trans (mput_ne _ _ _ _ (by decide))) ?_
  refine a_iconst (pc := 69) dX12_readsSum_69 (cnb rfl) ?_
  refine a_iadd (pc := 70) dX12_readsSum_70 h.1 ?_
  replace h := h.2
  refine a_puti (pc := 71) 14 dX12_readsSum_71 f_X12_175 rfl rfl (Or.inl rfl) ?_
  refine a_aload_n (pc := 74) dX12_readsSum_74 rfl ?_
  refine a_callVi (pc := 75) (d := 3) (st := []) (o := 76) [] dX12_readsSum_75 l_X12_225 in_X12_readsFactor se_X12_readsFactor rfl rfl rfl ⟨Nat.le_of_ble_eq_true rfl, Nat.le_of_ble_eq_true rfl⟩ ⟨Nat.le_of_ble_eq_true rfl, Nat.le_of_ble_eq_true rfl⟩ (Nat.le_of_ble_eq_true rfl) ?_
  refine Calls.mono (fun r75 M75 hr75 hM75 h => ?_) h
  refine a_if_ne (pc := 78) 163 dX12_readsSum_78 rfl ⟨fun hc => ?_, fun hc => ?_⟩
  · replace h := h.1 hc
    refine a_goto (pc := 163) 14 dX12_readsSum_163 rfl ?_
    exact Go.weak h (And.intro rfl (And.intro rfl True.intro))
  · replace h := h.2 hc
    refine a_iconst (pc := 81) dX12_readsSum_81 (cnb rfl) ?_
    exact a_iretZ (pc := 82) dX12_readsSum_82 rfl (by decide) h
set_option maxRecDepth 20000 in
theorem s_X12_endsPiece_0 {Q : Int → Me → Prop}  (M : Me) (h :
    Calls 0 mX12_waitTop [.inr 76] M (fun r1 M1 =>
    ((r1 ≠ 10 →
    Q 0 M1) ∧ (r1 = 10 →
    Calls 0 mX12_notes [.inr 76, .inl 10, .inl 0] M1 (fun r13 M13 =>
    cn ((M13 76 20) - 1) ∧
    cn ((M13 76 18) - 1) ∧
    Go (km 1 mX12_endsPiece Q) 0 [some (.inr 76)] [] (mput (mput M13 76 20 ((M13 76 20) - 1)) 76 18 ((M13 76 18) - 1))))))) :
    Go (km 1 mX12_endsPiece Q) 0 [some (.inr 76)] [] M := by
  refine a_aload_n (pc := 0) dX12_endsPiece_0 rfl ?_
  refine a_callVi (pc := 1) (d := 0) (st := []) (o := 76) [] dX12_endsPiece_1 l_X12_209 in_X12_waitTop se_X12_waitTop rfl rfl rfl ⟨Nat.le_of_ble_eq_true rfl, Nat.le_of_ble_eq_true rfl⟩ ⟨Nat.le_of_ble_eq_true rfl, Nat.le_of_ble_eq_true rfl⟩ (Nat.le_of_ble_eq_true rfl) ?_
  refine Calls.mono (fun r1 M1 hr1 hM1 h => ?_) h
  refine a_bipush (pc := 4) dX12_endsPiece_4 (by decide) (cnb rfl) ?_
  refine a_icmp_ne (pc := 6) 39 dX12_endsPiece_6 rfl ⟨fun hc => ?_, fun hc => ?_⟩
  · replace h := h.1 hc
    exact a_ret (pc := 39) dX12_endsPiece_39 rfl h
  · replace h := h.2 hc
    refine a_aload_n (pc := 9) dX12_endsPiece_9 rfl ?_
    refine a_bipush (pc := 10) dX12_endsPiece_10 (by decide) (cnb rfl) ?_
    refine a_iconst (pc := 12) dX12_endsPiece_12 (cnb rfl) ?_
    refine a_callVv (pc := 13) (d := 0) (st := []) (o := 76) [.inl 10, .inl 0] dX12_endsPiece_13 l_X12_212 in_X12_notes se_X12_notes rfl rfl rfl ⟨Nat.le_of_ble_eq_true rfl, Nat.le_of_ble_eq_true rfl⟩ ⟨Nat.le_of_ble_eq_true rfl, Nat.le_of_ble_eq_true rfl⟩ (Nat.le_of_ble_eq_true rfl) ?_
    refine Calls.mono (fun r13 M13 hr13 hM13 h => ?_) h
    refine a_aload_n (pc := 16) dX12_endsPiece_16 rfl ?_
    refine a_aload_n (pc := 17) dX12_endsPiece_17 rfl ?_
    refine a_geti (pc := 18) 20 dX12_endsPiece_18 f_X12_206 rfl rfl ?_
    refine a_iconst (pc := 21) dX12_endsPiece_21 (cnb rfl) ?_
    refine a_isub (pc := 22) dX12_endsPiece_22 h.1 ?_
    replace h := h.2
    refine a_puti (pc := 23) 20 dX12_endsPiece_23 f_X12_206 rfl rfl (Or.inl rfl) ?_
    refine a_aload_n (pc := 26) dX12_endsPiece_26 rfl ?_
    refine a_aload_n (pc := 27) dX12_endsPiece_27 rfl ?_
    refine a_getiE (pc := 28) (M13 76 18) 18 dX12_endsPiece_28 f_X12_203 rfl rfl (mput_ni _ _ _ _ (by decide)) ?_
    refine a_iconst (pc := 31) dX12_endsPiece_31 (cnb rfl) ?_
    refine a_isub (pc := 32) dX12_endsPiece_32 h.1 ?_
    replace h := h.2
    refine a_puti (pc := 33) 18 dX12_endsPiece_33 f_X12_203 rfl rfl (Or.inl rfl) ?_
    refine a_goto (pc := 36) 0 dX12_endsPiece_36 rfl ?_
    exact h
set_option maxRecDepth 20000 in
theorem e_X12_endsPiece {Q : Int → Me → Prop}  {M : Me} (h :
    Calls 0 mX12_waitTop [.inr 76] M (fun r1 M1 =>
    ((r1 ≠ 10 →
    Q 0 M1) ∧ (r1 = 10 →
    Calls 0 mX12_notes [.inr 76, .inl 10, .inl 0] M1 (fun r13 M13 =>
    cn ((M13 76 20) - 1) ∧
    cn ((M13 76 18) - 1) ∧
    Go (km 1 mX12_endsPiece Q) 0 [some (.inr 76)] [] (mput (mput M13 76 20 ((M13 76 20) - 1)) 76 18 ((M13 76 18) - 1))))))) : Calls 1 mX12_endsPiece [.inr 76] M Q := Calls.of (by decide) (Nat.le_of_ble_eq_true rfl) (s_X12_endsPiece_0   M h)
set_option maxRecDepth 20000 in
theorem s_X12_lands_0 {Q : Int → Me → Prop}  (a : Int) (M : Me) (h :
    Calls 0 mX12_waitTop [.inr 76] M (fun r1 M1 =>
    ((r1 = 11 →
    cn ((M1 76 20) - 1) ∧
    (0 ≤ (M1 76 20) - 1 ∧ (M1 76 20) - 1 < 260) ∧
    0 ≤ (M1 90 ((M1 76 20) - 1)) ∧
    (0 ≤ (M1 90 ((M1 76 20) - 1)) % 1048576 ∧ (M1 90 ((M1 76 20) - 1)) % 1048576 < 260) ∧
    0 ≤ (M1 89 ((M1 90 ((M1 76 20) - 1)) % 1048576)) ∧
    cn (1048576 * ((M1 89 ((M1 90 ((M1 76 20) - 1)) % 1048576)) / 1048576)) ∧
    cn ((1048576 * ((M1 89 ((M1 90 ((M1 76 20) - 1)) % 1048576)) / 1048576)) + (M1 76 19)) ∧
    (0 ≤ (M1 90 ((M1 76 20) - 1)) % 1048576 ∧ (M1 90 ((M1 76 20) - 1)) % 1048576 < 260) ∧
    cn ((M1 76 20) - 1) ∧
    Go (km 1 mX12_lands Q) 0 [some (.inr 76), some (.inl a), none] [] (mput (mput M1 89 ((M1 90 ((M1 76 20) - 1)) % 1048576) ((1048576 * ((M1 89 ((M1 90 ((M1 76 20) - 1)) % 1048576)) / 1048576)) + (M1 76 19))) 76 20 ((M1 76 20) - 1))) ∧ (r1 ≠ 11 →
    ((a = 0 →
    Q 0 M1) ∧ (a ≠ 0 →
    Calls 0 mX12_waitTop [.inr 76] M1 (fun r14 M14 =>
    ((r14 ≠ 12 →
    Q 0 M14) ∧ (r14 = 12 →
    cn ((M14 76 20) - 1) ∧
    (0 ≤ (M14 76 20) - 1 ∧ (M14 76 20) - 1 < 260) ∧
    0 ≤ (M14 90 ((M14 76 20) - 1)) ∧
    (0 ≤ (M14 90 ((M14 76 20) - 1)) % 1048576 ∧ (M14 90 ((M14 76 20) - 1)) % 1048576 < 260) ∧
    0 ≤ (M14 89 ((M14 90 ((M14 76 20) - 1)) % 1048576)) ∧
    cn (1048576 * ((M14 89 ((M14 90 ((M14 76 20) - 1)) % 1048576)) / 1048576)) ∧
    cn ((1048576 * ((M14 89 ((M14 90 ((M14 76 20) - 1)) % 1048576)) / 1048576)) + (M14 76 19)) ∧
    (0 ≤ (M14 90 ((M14 76 20) - 1)) % 1048576 ∧ (M14 90 ((M14 76 20) - 1)) % 1048576 < 260) ∧
    cn ((M14 76 20) - 1) ∧
    Go (km 1 mX12_lands Q) 0 [some (.inr 76), some (.inl a), none] [] (mput (mput M14 89 ((M14 90 ((M14 76 20) - 1)) % 1048576) ((1048576 * ((M14 89 ((M14 90 ((M14 76 20) - 1)) % 1048576)) / 1048576)) + (M14 76 19))) 76 20 ((M14 76 20) - 1))))))))))) :
    Go (km 1 mX12_lands Q) 0 [some (.inr 76), some (.inl a), none] [] M := by
  refine a_aload_n (pc := 0) dX12_lands_0 rfl ?_
  refine a_callVi (pc := 1) (d := 0) (st := []) (o := 76) [] dX12_lands_1 l_X12_209 in_X12_waitTop se_X12_waitTop rfl rfl rfl ⟨Nat.le_of_ble_eq_true rfl, Nat.le_of_ble_eq_true rfl⟩ ⟨Nat.le_of_ble_eq_true rfl, Nat.le_of_ble_eq_true rfl⟩ (Nat.le_of_ble_eq_true rfl) ?_
  refine Calls.mono (fun r1 M1 hr1 hM1 h => ?_) h
  refine a_bipush (pc := 4) dX12_lands_4 (by decide) (cnb rfl) ?_
  refine a_icmp_eq (pc := 6) 22 dX12_lands_6 rfl ⟨fun hc => ?_, fun hc => ?_⟩
  · replace h := h.1 hc
    refine a_aload_n (pc := 22) dX12_lands_22 rfl ?_
    refine a_getr (pc := 23) dX12_lands_23 f_X12_50 rfl ?_
    refine a_aload_n (pc := 26) dX12_lands_26 rfl ?_
    refine a_geti (pc := 27) 20 dX12_lands_27 f_X12_206 rfl rfl ?_
    refine a_iconst (pc := 30) dX12_lands_30 (cnb rfl) ?_
    refine a_isub (pc := 31) dX12_lands_31 h.1 ?_
    replace h := h.2
    refine a_iald (pc := 32) dX12_lands_32 rfl h.1.1 h.1.2  ?_
    replace h := h.2
    refine a_ldc (pc := 33) (n := 1048576) dX12_lands_33 k_X12_202 (by decide) (cnb rfl) ?_
    refine a_iremn (pc := 35) dX12_lands_35 (by decide) h.1 ?_
    replace h := h.2
    refine a_istore_n (pc := 36) dX12_lands_36 (Nat.le_of_ble_eq_true rfl) ?_
    refine a_aload_n (pc := 37) dX12_lands_37 rfl ?_
    refine a_getr (pc := 38) dX12_lands_38 f_X12_47 rfl ?_
    refine a_iload_n (pc := 41) dX12_lands_41 rfl ?_
    refine a_ldc (pc := 42) (n := 1048576) dX12_lands_42 k_X12_202 (by decide) (cnb rfl) ?_
    refine a_aload_n (pc := 44) dX12_lands_44 rfl ?_
    refine a_getr (pc := 45) dX12_lands_45 f_X12_47 rfl ?_
    refine a_iload_n (pc := 48) dX12_lands_48 rfl ?_
    refine a_iald (pc := 49) dX12_lands_49 rfl h.1.1 h.1.2  ?_
    replace h := h.2
    refine a_ldc (pc := 50) (n := 1048576) dX12_lands_50 k_X12_202 (by decide) (cnb rfl) ?_
    refine a_idivn (pc := 52) dX12_lands_52 (by decide) h.1 ?_
    replace h := h.2
    refine a_imul (pc := 53) dX12_lands_53 h.1 ?_
    replace h := h.2
    refine a_aload_n (pc := 54) dX12_lands_54 rfl ?_
    refine a_geti (pc := 55) 19 dX12_lands_55 f_X12_199 rfl rfl ?_
    refine a_iadd (pc := 58) dX12_lands_58 h.1 ?_
    replace h := h.2
    refine a_iast (pc := 59) dX12_lands_59 rfl h.1.1 h.1.2 ?_
    replace h := h.2
    refine a_aload_n (pc := 60) dX12_lands_60 rfl ?_
    refine a_aload_n (pc := 61) dX12_lands_61 rfl ?_
    refine a_getiE (pc := 62) (M1 76 20) 20 dX12_lands_62 f_X12_206 rfl rfl (mput_ne _ _ _ _ (by decide)) ?_
    refine a_iconst (pc := 65) dX12_lands_65 (cnb rfl) ?_
    refine a_isub (pc := 66) dX12_lands_66 h.1 ?_
    replace h := h.2
    refine a_puti (pc := 67) 20 dX12_lands_67 f_X12_206 rfl rfl (Or.inl rfl) ?_
    refine a_goto (pc := 70) 0 dX12_lands_70 rfl ?_
    exact Go.weak h (And.intro rfl (And.intro rfl True.intro))
  · replace h := h.2 hc
    refine a_iload_n (pc := 9) dX12_lands_9 rfl ?_
    refine a_if_eq (pc := 10) 73 dX12_lands_10 rfl ⟨fun hc => ?_, fun hc => ?_⟩
    · replace h := h.1 hc
      exact a_ret (pc := 73) dX12_lands_73 rfl h
    · replace h := h.2 hc
      refine a_aload_n (pc := 13) dX12_lands_13 rfl ?_
      refine a_callVi (pc := 14) (d := 0) (st := []) (o := 76) [] dX12_lands_14 l_X12_209 in_X12_waitTop se_X12_waitTop rfl rfl rfl ⟨Nat.le_of_ble_eq_true rfl, Nat.le_of_ble_eq_true rfl⟩ ⟨Nat.le_of_ble_eq_true rfl, Nat.le_of_ble_eq_true rfl⟩ (Nat.le_of_ble_eq_true rfl) ?_
      refine Calls.mono (fun r14 M14 hr14 hM14 h => ?_) h
      refine a_bipush (pc := 17) dX12_lands_17 (by decide) (cnb rfl) ?_
      refine a_icmp_ne (pc := 19) 73 dX12_lands_19 rfl ⟨fun hc => ?_, fun hc => ?_⟩
      · replace h := h.1 hc
        exact a_ret (pc := 73) dX12_lands_73 rfl h
      · replace h := h.2 hc
        refine a_aload_n (pc := 22) dX12_lands_22 rfl ?_
        refine a_getr (pc := 23) dX12_lands_23 f_X12_50 rfl ?_
        refine a_aload_n (pc := 26) dX12_lands_26 rfl ?_
        refine a_geti (pc := 27) 20 dX12_lands_27 f_X12_206 rfl rfl ?_
        refine a_iconst (pc := 30) dX12_lands_30 (cnb rfl) ?_
        refine a_isub (pc := 31) dX12_lands_31 h.1 ?_
        replace h := h.2
        refine a_iald (pc := 32) dX12_lands_32 rfl h.1.1 h.1.2  ?_
        replace h := h.2
        refine a_ldc (pc := 33) (n := 1048576) dX12_lands_33 k_X12_202 (by decide) (cnb rfl) ?_
        refine a_iremn (pc := 35) dX12_lands_35 (by decide) h.1 ?_
        replace h := h.2
        refine a_istore_n (pc := 36) dX12_lands_36 (Nat.le_of_ble_eq_true rfl) ?_
        refine a_aload_n (pc := 37) dX12_lands_37 rfl ?_
        refine a_getr (pc := 38) dX12_lands_38 f_X12_47 rfl ?_
        refine a_iload_n (pc := 41) dX12_lands_41 rfl ?_
        refine a_ldc (pc := 42) (n := 1048576) dX12_lands_42 k_X12_202 (by decide) (cnb rfl) ?_
        refine a_aload_n (pc := 44) dX12_lands_44 rfl ?_
        refine a_getr (pc := 45) dX12_lands_45 f_X12_47 rfl ?_
        refine a_iload_n (pc := 48) dX12_lands_48 rfl ?_
        refine a_iald (pc := 49) dX12_lands_49 rfl h.1.1 h.1.2  ?_
        replace h := h.2
        refine a_ldc (pc := 50) (n := 1048576) dX12_lands_50 k_X12_202 (by decide) (cnb rfl) ?_
        refine a_idivn (pc := 52) dX12_lands_52 (by decide) h.1 ?_
        replace h := h.2
        refine a_imul (pc := 53) dX12_lands_53 h.1 ?_
        replace h := h.2
        refine a_aload_n (pc := 54) dX12_lands_54 rfl ?_
        refine a_geti (pc := 55) 19 dX12_lands_55 f_X12_199 rfl rfl ?_
        refine a_iadd (pc := 58) dX12_lands_58 h.1 ?_
        replace h := h.2
        refine a_iast (pc := 59) dX12_lands_59 rfl h.1.1 h.1.2 ?_
        replace h := h.2
        refine a_aload_n (pc := 60) dX12_lands_60 rfl ?_
        refine a_aload_n (pc := 61) dX12_lands_61 rfl ?_
        refine a_getiE (pc := 62) (M14 76 20) 20 dX12_lands_62 f_X12_206 rfl rfl (mput_ne _ _ _ _ (by decide)) ?_
        refine a_iconst (pc := 65) dX12_lands_65 (cnb rfl) ?_
        refine a_isub (pc := 66) dX12_lands_66 h.1 ?_
        replace h := h.2
        refine a_puti (pc := 67) 20 dX12_lands_67 f_X12_206 rfl rfl (Or.inl rfl) ?_
        refine a_goto (pc := 70) 0 dX12_lands_70 rfl ?_
        exact Go.weak h (And.intro rfl (And.intro rfl True.intro))
set_option maxRecDepth 20000 in
theorem e_X12_lands {Q : Int → Me → Prop}  {a : Int} {M : Me} (h :
    Calls 0 mX12_waitTop [.inr 76] M (fun r1 M1 =>
    ((r1 = 11 →
    cn ((M1 76 20) - 1) ∧
    (0 ≤ (M1 76 20) - 1 ∧ (M1 76 20) - 1 < 260) ∧
    0 ≤ (M1 90 ((M1 76 20) - 1)) ∧
    (0 ≤ (M1 90 ((M1 76 20) - 1)) % 1048576 ∧ (M1 90 ((M1 76 20) - 1)) % 1048576 < 260) ∧
    0 ≤ (M1 89 ((M1 90 ((M1 76 20) - 1)) % 1048576)) ∧
    cn (1048576 * ((M1 89 ((M1 90 ((M1 76 20) - 1)) % 1048576)) / 1048576)) ∧
    cn ((1048576 * ((M1 89 ((M1 90 ((M1 76 20) - 1)) % 1048576)) / 1048576)) + (M1 76 19)) ∧
    (0 ≤ (M1 90 ((M1 76 20) - 1)) % 1048576 ∧ (M1 90 ((M1 76 20) - 1)) % 1048576 < 260) ∧
    cn ((M1 76 20) - 1) ∧
    Go (km 1 mX12_lands Q) 0 [some (.inr 76), some (.inl a), none] [] (mput (mput M1 89 ((M1 90 ((M1 76 20) - 1)) % 1048576) ((1048576 * ((M1 89 ((M1 90 ((M1 76 20) - 1)) % 1048576)) / 1048576)) + (M1 76 19))) 76 20 ((M1 76 20) - 1))) ∧ (r1 ≠ 11 →
    ((a = 0 →
    Q 0 M1) ∧ (a ≠ 0 →
    Calls 0 mX12_waitTop [.inr 76] M1 (fun r14 M14 =>
    ((r14 ≠ 12 →
    Q 0 M14) ∧ (r14 = 12 →
    cn ((M14 76 20) - 1) ∧
    (0 ≤ (M14 76 20) - 1 ∧ (M14 76 20) - 1 < 260) ∧
    0 ≤ (M14 90 ((M14 76 20) - 1)) ∧
    (0 ≤ (M14 90 ((M14 76 20) - 1)) % 1048576 ∧ (M14 90 ((M14 76 20) - 1)) % 1048576 < 260) ∧
    0 ≤ (M14 89 ((M14 90 ((M14 76 20) - 1)) % 1048576)) ∧
    cn (1048576 * ((M14 89 ((M14 90 ((M14 76 20) - 1)) % 1048576)) / 1048576)) ∧
    cn ((1048576 * ((M14 89 ((M14 90 ((M14 76 20) - 1)) % 1048576)) / 1048576)) + (M14 76 19)) ∧
    (0 ≤ (M14 90 ((M14 76 20) - 1)) % 1048576 ∧ (M14 90 ((M14 76 20) - 1)) % 1048576 < 260) ∧
    cn ((M14 76 20) - 1) ∧
    Go (km 1 mX12_lands Q) 0 [some (.inr 76), some (.inl a), none] [] (mput (mput M14 89 ((M14 90 ((M14 76 20) - 1)) % 1048576) ((1048576 * ((M14 89 ((M14 90 ((M14 76 20) - 1)) % 1048576)) / 1048576)) + (M14 76 19))) 76 20 ((M14 76 20) - 1))))))))))) : Calls 1 mX12_lands [.inr 76, .inl a] M Q := Calls.of (by decide) (Nat.le_of_ble_eq_true rfl) (s_X12_lands_0  a M h)
set_option maxRecDepth 20000 in
theorem s_X12_jumps_0 {Q : Int → Me → Prop}  (a : Int) (M : Me) (h :
    cn (1048576 * a) ∧
    cn ((1048576 * a) + (M 76 19)) ∧
    (0 ≤ M 76 20 ∧ M 76 20 < 260) ∧
    cn ((M 76 20) + 1) ∧
    Calls 0 mX12_notes [.inr 76, .inl a, .inl 0] (mput (mput M 90 (M 76 20) ((1048576 * a) + (M 76 19))) 76 20 ((M 76 20) + 1)) (fun r31 M31 =>
    cn ((M31 76 14) + 1) ∧
    Q 0 (mput M31 76 14 ((M31 76 14) + 1)))) :
    Go (km 1 mX12_jumps Q) 0 [some (.inr 76), some (.inl a)] [] M := by
  refine a_aload_n (pc := 0) dX12_jumps_0 rfl ?_
  refine a_getr (pc := 1) dX12_jumps_1 f_X12_50 rfl ?_
  refine a_aload_n (pc := 4) dX12_jumps_4 rfl ?_
  refine a_geti (pc := 5) 20 dX12_jumps_5 f_X12_206 rfl rfl ?_
  refine a_ldc (pc := 8) (n := 1048576) dX12_jumps_8 k_X12_202 (by decide) (cnb rfl) ?_
  refine a_iload_n (pc := 10) dX12_jumps_10 rfl ?_
  refine a_imul (pc := 11) dX12_jumps_11 h.1 ?_
  replace h := h.2
  refine a_aload_n (pc := 12) dX12_jumps_12 rfl ?_
  refine a_geti (pc := 13) 19 dX12_jumps_13 f_X12_199 rfl rfl ?_
  refine a_iadd (pc := 16) dX12_jumps_16 h.1 ?_
  replace h := h.2
  refine a_iast (pc := 17) dX12_jumps_17 rfl h.1.1 h.1.2 ?_
  replace h := h.2
  refine a_aload_n (pc := 18) dX12_jumps_18 rfl ?_
  refine a_aload_n (pc := 19) dX12_jumps_19 rfl ?_
  refine a_getiE (pc := 20) (M 76 20) 20 dX12_jumps_20 f_X12_206 rfl rfl (mput_ne _ _ _ _ (by decide)) ?_
  refine a_iconst (pc := 23) dX12_jumps_23 (cnb rfl) ?_
  refine a_iadd (pc := 24) dX12_jumps_24 h.1 ?_
  replace h := h.2
  refine a_puti (pc := 25) 20 dX12_jumps_25 f_X12_206 rfl rfl (Or.inl rfl) ?_
  refine a_aload_n (pc := 28) dX12_jumps_28 rfl ?_
  refine a_iload_n (pc := 29) dX12_jumps_29 rfl ?_
  refine a_iconst (pc := 30) dX12_jumps_30 (cnb rfl) ?_
  refine a_callVv (pc := 31) (d := 0) (st := []) (o := 76) [.inl a, .inl 0] dX12_jumps_31 l_X12_212 in_X12_notes se_X12_notes rfl rfl rfl ⟨Nat.le_of_ble_eq_true rfl, Nat.le_of_ble_eq_true rfl⟩ ⟨Nat.le_of_ble_eq_true rfl, Nat.le_of_ble_eq_true rfl⟩ (Nat.le_of_ble_eq_true rfl) ?_
  refine Calls.mono (fun r31 M31 hr31 hM31 h => ?_) h
  refine a_aload_n (pc := 34) dX12_jumps_34 rfl ?_
  refine a_aload_n (pc := 35) dX12_jumps_35 rfl ?_
  refine a_geti (pc := 36) 14 dX12_jumps_36 f_X12_175 rfl rfl ?_
  refine a_iconst (pc := 39) dX12_jumps_39 (cnb rfl) ?_
  refine a_iadd (pc := 40) dX12_jumps_40 h.1 ?_
  replace h := h.2
  refine a_puti (pc := 41) 14 dX12_jumps_41 f_X12_175 rfl rfl (Or.inl rfl) ?_
  exact a_ret (pc := 44) dX12_jumps_44 rfl h
set_option maxRecDepth 20000 in
theorem e_X12_jumps {Q : Int → Me → Prop}  {a : Int} {M : Me} (h :
    cn (1048576 * a) ∧
    cn ((1048576 * a) + (M 76 19)) ∧
    (0 ≤ M 76 20 ∧ M 76 20 < 260) ∧
    cn ((M 76 20) + 1) ∧
    Calls 0 mX12_notes [.inr 76, .inl a, .inl 0] (mput (mput M 90 (M 76 20) ((1048576 * a) + (M 76 19))) 76 20 ((M 76 20) + 1)) (fun r31 M31 =>
    cn ((M31 76 14) + 1) ∧
    Q 0 (mput M31 76 14 ((M31 76 14) + 1)))) : Calls 1 mX12_jumps [.inr 76, .inl a] M Q := Calls.of (by decide) (Nat.le_of_ble_eq_true rfl) (s_X12_jumps_0  a M h)
set_option maxRecDepth 20000 in
theorem s_X12_readsCompared_0 {Q : Int → Me → Prop}  (M : Me) (h :
    Calls 4 mX12_readsSum [.inr 76] M (fun r1 M1 =>
    ((r1 ≠ 0 →
    Calls 0 mX12_here [.inr 76] M1 (fun r10 M10 =>
    ((r10 ≠ 60 →
    Calls 0 mX12_here [.inr 76] M10 (fun r24 M24 =>
    ((r24 ≠ 62 →
    Calls 0 mX12_here [.inr 76] M24 (fun r38 M38 =>
    ((r38 ≠ 61 →
    Go (km 5 mX12_readsCompared Q) 53 [some (.inr 76), some (.inl (-1))] [] M38) ∧ (r38 = 61 →
    Go (km 5 mX12_readsCompared Q) 53 [some (.inr 76), some (.inl 9)] [] M38)))) ∧ (r24 = 62 →
    Go (km 5 mX12_readsCompared Q) 53 [some (.inr 76), some (.inl 8)] [] M24)))) ∧ (r10 = 60 →
    Go (km 5 mX12_readsCompared Q) 53 [some (.inr 76), some (.inl 7)] [] M10)))) ∧ (r1 = 0 →
    Q 0 M1)))) :
    Go (km 5 mX12_readsCompared Q) 0 [some (.inr 76), none] [] M := by
  refine a_aload_n (pc := 0) dX12_readsCompared_0 rfl ?_
  refine a_callVi (pc := 1) (d := 4) (st := []) (o := 76) [] dX12_readsCompared_1 l_X12_238 in_X12_readsSum se_X12_readsSum rfl rfl rfl ⟨Nat.le_of_ble_eq_true rfl, Nat.le_of_ble_eq_true rfl⟩ ⟨Nat.le_of_ble_eq_true rfl, Nat.le_of_ble_eq_true rfl⟩ (Nat.le_of_ble_eq_true rfl) ?_
  refine Calls.mono (fun r1 M1 hr1 hM1 h => ?_) h
  refine a_if_ne (pc := 4) 9 dX12_readsCompared_4 rfl ⟨fun hc => ?_, fun hc => ?_⟩
  · replace h := h.1 hc
    refine a_aload_n (pc := 9) dX12_readsCompared_9 rfl ?_
    refine a_callVi (pc := 10) (d := 0) (st := []) (o := 76) [] dX12_readsCompared_10 l_X12_181 in_X12_here se_X12_here rfl rfl rfl ⟨Nat.le_of_ble_eq_true rfl, Nat.le_of_ble_eq_true rfl⟩ ⟨Nat.le_of_ble_eq_true rfl, Nat.le_of_ble_eq_true rfl⟩ (Nat.le_of_ble_eq_true rfl) ?_
    refine Calls.mono (fun r10 M10 hr10 hM10 h => ?_) h
    refine a_bipush (pc := 13) dX12_readsCompared_13 (by decide) (cnb rfl) ?_
    refine a_icmp_ne (pc := 15) 23 dX12_readsCompared_15 rfl ⟨fun hc => ?_, fun hc => ?_⟩
    · replace h := h.1 hc
      refine a_aload_n (pc := 23) dX12_readsCompared_23 rfl ?_
      refine a_callVi (pc := 24) (d := 0) (st := []) (o := 76) [] dX12_readsCompared_24 l_X12_181 in_X12_here se_X12_here rfl rfl rfl ⟨Nat.le_of_ble_eq_true rfl, Nat.le_of_ble_eq_true rfl⟩ ⟨Nat.le_of_ble_eq_true rfl, Nat.le_of_ble_eq_true rfl⟩ (Nat.le_of_ble_eq_true rfl) ?_
      refine Calls.mono (fun r24 M24 hr24 hM24 h => ?_) h
      refine a_bipush (pc := 27) dX12_readsCompared_27 (by decide) (cnb rfl) ?_
      refine a_icmp_ne (pc := 29) 37 dX12_readsCompared_29 rfl ⟨fun hc => ?_, fun hc => ?_⟩
      · replace h := h.1 hc
        refine a_aload_n (pc := 37) dX12_readsCompared_37 rfl ?_
        refine a_callVi (pc := 38) (d := 0) (st := []) (o := 76) [] dX12_readsCompared_38 l_X12_181 in_X12_here se_X12_here rfl rfl rfl ⟨Nat.le_of_ble_eq_true rfl, Nat.le_of_ble_eq_true rfl⟩ ⟨Nat.le_of_ble_eq_true rfl, Nat.le_of_ble_eq_true rfl⟩ (Nat.le_of_ble_eq_true rfl) ?_
        refine Calls.mono (fun r38 M38 hr38 hM38 h => ?_) h
        refine a_bipush (pc := 41) dX12_readsCompared_41 (by decide) (cnb rfl) ?_
        refine a_icmp_ne (pc := 43) 51 dX12_readsCompared_43 rfl ⟨fun hc => ?_, fun hc => ?_⟩
        · replace h := h.1 hc
          refine a_iconst (pc := 51) dX12_readsCompared_51 (cnb rfl) ?_
          refine a_istore_n (pc := 52) dX12_readsCompared_52 (Nat.le_of_ble_eq_true rfl) ?_
          exact h
        · replace h := h.2 hc
          refine a_bipush (pc := 46) dX12_readsCompared_46 (by decide) (cnb rfl) ?_
          refine a_goto (pc := 48) 52 dX12_readsCompared_48 rfl ?_
          refine a_istore_n (pc := 52) dX12_readsCompared_52 (Nat.le_of_ble_eq_true rfl) ?_
          exact h
      · replace h := h.2 hc
        refine a_bipush (pc := 32) dX12_readsCompared_32 (by decide) (cnb rfl) ?_
        refine a_goto (pc := 34) 52 dX12_readsCompared_34 rfl ?_
        refine a_istore_n (pc := 52) dX12_readsCompared_52 (Nat.le_of_ble_eq_true rfl) ?_
        exact h
    · replace h := h.2 hc
      refine a_bipush (pc := 18) dX12_readsCompared_18 (by decide) (cnb rfl) ?_
      refine a_goto (pc := 20) 52 dX12_readsCompared_20 rfl ?_
      refine a_istore_n (pc := 52) dX12_readsCompared_52 (Nat.le_of_ble_eq_true rfl) ?_
      exact h
  · replace h := h.2 hc
    refine a_iconst (pc := 7) dX12_readsCompared_7 (cnb rfl) ?_
    exact a_iretZ (pc := 8) dX12_readsCompared_8 rfl (by decide) h
set_option maxRecDepth 20000 in
theorem e_X12_readsCompared {Q : Int → Me → Prop}  {M : Me} (h :
    Calls 4 mX12_readsSum [.inr 76] M (fun r1 M1 =>
    ((r1 ≠ 0 →
    Calls 0 mX12_here [.inr 76] M1 (fun r10 M10 =>
    ((r10 ≠ 60 →
    Calls 0 mX12_here [.inr 76] M10 (fun r24 M24 =>
    ((r24 ≠ 62 →
    Calls 0 mX12_here [.inr 76] M24 (fun r38 M38 =>
    ((r38 ≠ 61 →
    Go (km 5 mX12_readsCompared Q) 53 [some (.inr 76), some (.inl (-1))] [] M38) ∧ (r38 = 61 →
    Go (km 5 mX12_readsCompared Q) 53 [some (.inr 76), some (.inl 9)] [] M38)))) ∧ (r24 = 62 →
    Go (km 5 mX12_readsCompared Q) 53 [some (.inr 76), some (.inl 8)] [] M24)))) ∧ (r10 = 60 →
    Go (km 5 mX12_readsCompared Q) 53 [some (.inr 76), some (.inl 7)] [] M10)))) ∧ (r1 = 0 →
    Q 0 M1)))) : Calls 5 mX12_readsCompared [.inr 76] M Q := Calls.of (by decide) (Nat.le_of_ble_eq_true rfl) (s_X12_readsCompared_0   M h)
set_option maxRecDepth 20000 in
theorem s_X12_readsCompared_53 {Q : Int → Me → Prop}  (x1 : Int) (M : Me) (h :
    ((x1 ≠ (-1) →
    Go (km 5 mX12_readsCompared Q) 68 [some (.inr 76), some (.inl x1)] [] M) ∧ (x1 = (-1) →
    Calls 0 mX12_wrongAt [.inr 76, .inl 1, .inl (M 76 14)] M (fun r64 M64 =>
    (r64 = 0 ∨ r64 = 1) ∧
    Q r64 M64)))) :
    Go (km 5 mX12_readsCompared Q) 53 [some (.inr 76), some (.inl x1)] [] M := by
  refine a_iload_n (pc := 53) dX12_readsCompared_53 rfl ?_
  refine a_iconst (pc := 54) dX12_readsCompared_54 (cnb rfl) ?_
  refine a_icmp_ne (pc := 55) 68 dX12_readsCompared_55 rfl ⟨fun hc => ?_, fun hc => ?_⟩
  · replace h := h.1 hc
    exact h
  · replace h := h.2 hc
    refine a_aload_n (pc := 58) dX12_readsCompared_58 rfl ?_
    refine a_iconst (pc := 59) dX12_readsCompared_59 (cnb rfl) ?_
    refine a_aload_n (pc := 60) dX12_readsCompared_60 rfl ?_
    refine a_geti (pc := 61) 14 dX12_readsCompared_61 f_X12_175 rfl rfl ?_
    refine a_callVi (pc := 64) (d := 0) (st := []) (o := 76) [.inl 1, .inl (M 76 14)] dX12_readsCompared_64 l_X12_188 in_X12_wrongAt se_X12_wrongAt rfl rfl rfl ⟨Nat.le_of_ble_eq_true rfl, Nat.le_of_ble_eq_true rfl⟩ ⟨Nat.le_of_ble_eq_true rfl, Nat.le_of_ble_eq_true rfl⟩ (Nat.le_of_ble_eq_true rfl) ?_
    refine Calls.mono (fun r64 M64 hr64 hM64 h => ?_) h
    exact a_iretZ (pc := 67) dX12_readsCompared_67 rfl h.1 h.2
set_option maxRecDepth 20000 in
theorem s_X12_readsCompared_68 {Q : Int → Me → Prop}  (x1 : Int) (M : Me) (h :
    cn ((M 76 14) + 1) ∧
    Calls 4 mX12_readsSum [.inr 76] (mput M 76 14 ((M 76 14) + 1)) (fun r79 M79 =>
    ((r79 ≠ 0 →
    Calls 0 mX12_notes [.inr 76, .inl x1, .inl 0] M79 (fun r90 M90 =>
    Calls 1 mX12_endsPiece [.inr 76] M90 (fun r94 M94 =>
    Q 1 M94))) ∧ (r79 = 0 →
    Q 0 M79)))) :
    Go (km 5 mX12_readsCompared Q) 68 [some (.inr 76), some (.inl x1)] [] M := by
  refine a_aload_n (pc := 68) dX12_readsCompared_68 rfl ?_
  refine a_aload_n (pc := 69) dX12_readsCompared_69 rfl ?_
  refine a_geti (pc := 70) 14 dX12_readsCompared_70 f_X12_175 rfl rfl ?_
  refine a_iconst (pc := 73) dX12_readsCompared_73 (cnb rfl) ?_
  refine a_iadd (pc := 74) dX12_readsCompared_74 h.1 ?_
  replace h := h.2
  refine a_puti (pc := 75) 14 dX12_readsCompared_75 f_X12_175 rfl rfl (Or.inl rfl) ?_
  refine a_aload_n (pc := 78) dX12_readsCompared_78 rfl ?_
  refine a_callVi (pc := 79) (d := 4) (st := []) (o := 76) [] dX12_readsCompared_79 l_X12_238 in_X12_readsSum se_X12_readsSum rfl rfl rfl ⟨Nat.le_of_ble_eq_true rfl, Nat.le_of_ble_eq_true rfl⟩ ⟨Nat.le_of_ble_eq_true rfl, Nat.le_of_ble_eq_true rfl⟩ (Nat.le_of_ble_eq_true rfl) ?_
  refine Calls.mono (fun r79 M79 hr79 hM79 h => ?_) h
  refine a_if_ne (pc := 82) 87 dX12_readsCompared_82 rfl ⟨fun hc => ?_, fun hc => ?_⟩
  · replace h := h.1 hc
    refine a_aload_n (pc := 87) dX12_readsCompared_87 rfl ?_
    refine a_iload_n (pc := 88) dX12_readsCompared_88 rfl ?_
    refine a_iconst (pc := 89) dX12_readsCompared_89 (cnb rfl) ?_
    refine a_callVv (pc := 90) (d := 0) (st := []) (o := 76) [.inl x1, .inl 0] dX12_readsCompared_90 l_X12_212 in_X12_notes se_X12_notes rfl rfl rfl ⟨Nat.le_of_ble_eq_true rfl, Nat.le_of_ble_eq_true rfl⟩ ⟨Nat.le_of_ble_eq_true rfl, Nat.le_of_ble_eq_true rfl⟩ (Nat.le_of_ble_eq_true rfl) ?_
    refine Calls.mono (fun r90 M90 hr90 hM90 h => ?_) h
    refine a_aload_n (pc := 93) dX12_readsCompared_93 rfl ?_
    refine a_callVv (pc := 94) (d := 1) (st := []) (o := 76) [] dX12_readsCompared_94 l_X12_241 in_X12_endsPiece se_X12_endsPiece rfl rfl rfl ⟨Nat.le_of_ble_eq_true rfl, Nat.le_of_ble_eq_true rfl⟩ ⟨Nat.le_of_ble_eq_true rfl, Nat.le_of_ble_eq_true rfl⟩ (Nat.le_of_ble_eq_true rfl) ?_
    refine Calls.mono (fun r94 M94 hr94 hM94 h => ?_) h
    refine a_iconst (pc := 97) dX12_readsCompared_97 (cnb rfl) ?_
    exact a_iretZ (pc := 98) dX12_readsCompared_98 rfl (by decide) h
  · replace h := h.2 hc
    refine a_iconst (pc := 85) dX12_readsCompared_85 (cnb rfl) ?_
    exact a_iretZ (pc := 86) dX12_readsCompared_86 rfl (by decide) h
set_option maxRecDepth 20000 in
theorem s_X12_readsCondition_0 {Q : Int → Me → Prop}  (M : Me) (h :
    Calls 0 mX12_here [.inr 76] M (fun r1 M1 =>
    ((r1 = 40 →
    Calls 1 mX12_opens [.inr 76, .inl 13] (mput (mput M1 76 18 0) 76 20 0) (fun r32 M32 =>
    ((r32 ≠ 0 →
    Go (km 6 mX12_readsCondition Q) 40 [some (.inr 76)] [] M32) ∧ (r32 = 0 →
    Q 0 M32)))) ∧ (r1 ≠ 40 →
    Calls 0 mX12_wrongAt [.inr 76, .inl 1, .inl (M1 76 14)] M1 (fun r15 M15 =>
    (r15 = 0 ∨ r15 = 1) ∧
    Q r15 M15))))) :
    Go (km 6 mX12_readsCondition Q) 0 [some (.inr 76)] [] M := by
  refine a_aload_n (pc := 0) dX12_readsCondition_0 rfl ?_
  refine a_callVi (pc := 1) (d := 0) (st := []) (o := 76) [] dX12_readsCondition_1 l_X12_181 in_X12_here se_X12_here rfl rfl rfl ⟨Nat.le_of_ble_eq_true rfl, Nat.le_of_ble_eq_true rfl⟩ ⟨Nat.le_of_ble_eq_true rfl, Nat.le_of_ble_eq_true rfl⟩ (Nat.le_of_ble_eq_true rfl) ?_
  refine Calls.mono (fun r1 M1 hr1 hM1 h => ?_) h
  refine a_bipush (pc := 4) dX12_readsCondition_4 (by decide) (cnb rfl) ?_
  refine a_icmp_eq (pc := 6) 19 dX12_readsCondition_6 rfl ⟨fun hc => ?_, fun hc => ?_⟩
  · replace h := h.1 hc
    refine a_aload_n (pc := 19) dX12_readsCondition_19 rfl ?_
    refine a_iconst (pc := 20) dX12_readsCondition_20 (cnb rfl) ?_
    refine a_puti (pc := 21) 18 dX12_readsCondition_21 f_X12_203 rfl rfl (Or.inl rfl) ?_
    refine a_aload_n (pc := 24) dX12_readsCondition_24 rfl ?_
    refine a_iconst (pc := 25) dX12_readsCondition_25 (cnb rfl) ?_
    refine a_puti (pc := 26) 20 dX12_readsCondition_26 f_X12_206 rfl rfl (Or.inl rfl) ?_
    refine a_aload_n (pc := 29) dX12_readsCondition_29 rfl ?_
    refine a_bipush (pc := 30) dX12_readsCondition_30 (by decide) (cnb rfl) ?_
    refine a_callVi (pc := 32) (d := 1) (st := []) (o := 76) [.inl 13] dX12_readsCondition_32 l_X12_216 in_X12_opens se_X12_opens rfl rfl rfl ⟨Nat.le_of_ble_eq_true rfl, Nat.le_of_ble_eq_true rfl⟩ ⟨Nat.le_of_ble_eq_true rfl, Nat.le_of_ble_eq_true rfl⟩ (Nat.le_of_ble_eq_true rfl) ?_
    refine Calls.mono (fun r32 M32 hr32 hM32 h => ?_) h
    refine a_if_ne (pc := 35) 40 dX12_readsCondition_35 rfl ⟨fun hc => ?_, fun hc => ?_⟩
    · replace h := h.1 hc
      exact h
    · replace h := h.2 hc
      refine a_iconst (pc := 38) dX12_readsCondition_38 (cnb rfl) ?_
      exact a_iretZ (pc := 39) dX12_readsCondition_39 rfl (by decide) h
  · replace h := h.2 hc
    refine a_aload_n (pc := 9) dX12_readsCondition_9 rfl ?_
    refine a_iconst (pc := 10) dX12_readsCondition_10 (cnb rfl) ?_
    refine a_aload_n (pc := 11) dX12_readsCondition_11 rfl ?_
    refine a_geti (pc := 12) 14 dX12_readsCondition_12 f_X12_175 rfl rfl ?_
    refine a_callVi (pc := 15) (d := 0) (st := []) (o := 76) [.inl 1, .inl (M1 76 14)] dX12_readsCondition_15 l_X12_188 in_X12_wrongAt se_X12_wrongAt rfl rfl rfl ⟨Nat.le_of_ble_eq_true rfl, Nat.le_of_ble_eq_true rfl⟩ ⟨Nat.le_of_ble_eq_true rfl, Nat.le_of_ble_eq_true rfl⟩ (Nat.le_of_ble_eq_true rfl) ?_
    refine Calls.mono (fun r15 M15 hr15 hM15 h => ?_) h
    exact a_iretZ (pc := 18) dX12_readsCondition_18 rfl h.1 h.2
set_option maxRecDepth 20000 in
theorem e_X12_readsCondition {Q : Int → Me → Prop}  {M : Me} (h :
    Calls 0 mX12_here [.inr 76] M (fun r1 M1 =>
    ((r1 = 40 →
    Calls 1 mX12_opens [.inr 76, .inl 13] (mput (mput M1 76 18 0) 76 20 0) (fun r32 M32 =>
    ((r32 ≠ 0 →
    Go (km 6 mX12_readsCondition Q) 40 [some (.inr 76)] [] M32) ∧ (r32 = 0 →
    Q 0 M32)))) ∧ (r1 ≠ 40 →
    Calls 0 mX12_wrongAt [.inr 76, .inl 1, .inl (M1 76 14)] M1 (fun r15 M15 =>
    (r15 = 0 ∨ r15 = 1) ∧
    Q r15 M15))))) : Calls 6 mX12_readsCondition [.inr 76] M Q := Calls.of (by decide) (Nat.le_of_ble_eq_true rfl) (s_X12_readsCondition_0   M h)
set_option maxRecDepth 20000 in
theorem s_X12_readsCondition_40 {Q : Int → Me → Prop}  (M : Me) (h :
    Calls 0 mX12_here [.inr 76] M (fun r41 M41 =>
    ((r41 = 33 →
    Go (km 6 mX12_readsCondition Q) 58 [some (.inr 76)] [] M41) ∧ (r41 ≠ 33 →
    Calls 0 mX12_here [.inr 76] M41 (fun r50 M50 =>
    ((r50 ≠ 40 →
    Calls 5 mX12_readsCompared [.inr 76] M50 (fun r84 M84 =>
    ((r84 ≠ 0 →
    Go (km 6 mX12_readsCondition Q) 92 [some (.inr 76)] [] M84) ∧ (r84 = 0 →
    Q 0 M84)))) ∧ (r50 = 40 →
    Go (km 6 mX12_readsCondition Q) 58 [some (.inr 76)] [] M50))))))) :
    Go (km 6 mX12_readsCondition Q) 40 [some (.inr 76)] [] M := by
  refine a_aload_n (pc := 40) dX12_readsCondition_40 rfl ?_
  refine a_callVi (pc := 41) (d := 0) (st := []) (o := 76) [] dX12_readsCondition_41 l_X12_181 in_X12_here se_X12_here rfl rfl rfl ⟨Nat.le_of_ble_eq_true rfl, Nat.le_of_ble_eq_true rfl⟩ ⟨Nat.le_of_ble_eq_true rfl, Nat.le_of_ble_eq_true rfl⟩ (Nat.le_of_ble_eq_true rfl) ?_
  refine Calls.mono (fun r41 M41 hr41 hM41 h => ?_) h
  refine a_bipush (pc := 44) dX12_readsCondition_44 (by decide) (cnb rfl) ?_
  refine a_icmp_eq (pc := 46) 58 dX12_readsCondition_46 rfl ⟨fun hc => ?_, fun hc => ?_⟩
  · replace h := h.1 hc
    exact h
  · replace h := h.2 hc
    refine a_aload_n (pc := 49) dX12_readsCondition_49 rfl ?_
    refine a_callVi (pc := 50) (d := 0) (st := []) (o := 76) [] dX12_readsCondition_50 l_X12_181 in_X12_here se_X12_here rfl rfl rfl ⟨Nat.le_of_ble_eq_true rfl, Nat.le_of_ble_eq_true rfl⟩ ⟨Nat.le_of_ble_eq_true rfl, Nat.le_of_ble_eq_true rfl⟩ (Nat.le_of_ble_eq_true rfl) ?_
    refine Calls.mono (fun r50 M50 hr50 hM50 h => ?_) h
    refine a_bipush (pc := 53) dX12_readsCondition_53 (by decide) (cnb rfl) ?_
    refine a_icmp_ne (pc := 55) 83 dX12_readsCondition_55 rfl ⟨fun hc => ?_, fun hc => ?_⟩
    · replace h := h.1 hc
      refine a_aload_n (pc := 83) dX12_readsCondition_83 rfl ?_
      refine a_callVi (pc := 84) (d := 5) (st := []) (o := 76) [] dX12_readsCondition_84 l_X12_244 in_X12_readsCompared se_X12_readsCompared rfl rfl rfl ⟨Nat.le_of_ble_eq_true rfl, Nat.le_of_ble_eq_true rfl⟩ ⟨Nat.le_of_ble_eq_true rfl, Nat.le_of_ble_eq_true rfl⟩ (Nat.le_of_ble_eq_true rfl) ?_
      refine Calls.mono (fun r84 M84 hr84 hM84 h => ?_) h
      refine a_if_ne (pc := 87) 92 dX12_readsCondition_87 rfl ⟨fun hc => ?_, fun hc => ?_⟩
      · replace h := h.1 hc
        exact h
      · replace h := h.2 hc
        refine a_iconst (pc := 90) dX12_readsCondition_90 (cnb rfl) ?_
        exact a_iretZ (pc := 91) dX12_readsCondition_91 rfl (by decide) h
    · replace h := h.2 hc
      exact h
set_option maxRecDepth 20000 in
theorem s_X12_readsCondition_58 {Q : Int → Me → Prop}  (M : Me) (h :
    Calls 0 mX12_here [.inr 76] M (fun r60 M60 =>
    ((r60 ≠ 33 →
    Calls 1 mX12_opens [.inr 76, .inl 13] M60 (fun r75 M75 =>
    ((r75 ≠ 0 →
    Go (km 6 mX12_readsCondition Q) 40 [some (.inr 76)] [] M75) ∧ (r75 = 0 →
    Q 0 M75)))) ∧ (r60 = 33 →
    Calls 1 mX12_opens [.inr 76, .inl 10] M60 (fun r75 M75 =>
    ((r75 ≠ 0 →
    Go (km 6 mX12_readsCondition Q) 40 [some (.inr 76)] [] M75) ∧ (r75 = 0 →
    Q 0 M75))))))) :
    Go (km 6 mX12_readsCondition Q) 58 [some (.inr 76)] [] M := by
  refine a_aload_n (pc := 58) dX12_readsCondition_58 rfl ?_
  refine a_aload_n (pc := 59) dX12_readsCondition_59 rfl ?_
  refine a_callVi (pc := 60) (d := 0) (st := [.inr 76]) (o := 76) [] dX12_readsCondition_60 l_X12_181 in_X12_here se_X12_here rfl rfl rfl ⟨Nat.le_of_ble_eq_true rfl, Nat.le_of_ble_eq_true rfl⟩ ⟨Nat.le_of_ble_eq_true rfl, Nat.le_of_ble_eq_true rfl⟩ (Nat.le_of_ble_eq_true rfl) ?_
  refine Calls.mono (fun r60 M60 hr60 hM60 h => ?_) h
  refine a_bipush (pc := 63) dX12_readsCondition_63 (by decide) (cnb rfl) ?_
  refine a_icmp_ne (pc := 65) 73 dX12_readsCondition_65 rfl ⟨fun hc => ?_, fun hc => ?_⟩
  · replace h := h.1 hc
    refine a_bipush (pc := 73) dX12_readsCondition_73 (by decide) (cnb rfl) ?_
    refine a_callVi (pc := 75) (d := 1) (st := []) (o := 76) [.inl 13] dX12_readsCondition_75 l_X12_216 in_X12_opens se_X12_opens rfl rfl rfl ⟨Nat.le_of_ble_eq_true rfl, Nat.le_of_ble_eq_true rfl⟩ ⟨Nat.le_of_ble_eq_true rfl, Nat.le_of_ble_eq_true rfl⟩ (Nat.le_of_ble_eq_true rfl) ?_
    refine Calls.mono (fun r75 M75 hr75 hM75 h => ?_) h
    refine a_if_ne (pc := 78) 40 dX12_readsCondition_78 rfl ⟨fun hc => ?_, fun hc => ?_⟩
    · replace h := h.1 hc
      exact h
    · replace h := h.2 hc
      refine a_iconst (pc := 81) dX12_readsCondition_81 (cnb rfl) ?_
      exact a_iretZ (pc := 82) dX12_readsCondition_82 rfl (by decide) h
  · replace h := h.2 hc
    refine a_bipush (pc := 68) dX12_readsCondition_68 (by decide) (cnb rfl) ?_
    refine a_goto (pc := 70) 75 dX12_readsCondition_70 rfl ?_
    refine a_callVi (pc := 75) (d := 1) (st := []) (o := 76) [.inl 10] dX12_readsCondition_75 l_X12_216 in_X12_opens se_X12_opens rfl rfl rfl ⟨Nat.le_of_ble_eq_true rfl, Nat.le_of_ble_eq_true rfl⟩ ⟨Nat.le_of_ble_eq_true rfl, Nat.le_of_ble_eq_true rfl⟩ (Nat.le_of_ble_eq_true rfl) ?_
    refine Calls.mono (fun r75 M75 hr75 hM75 h => ?_) h
    refine a_if_ne (pc := 78) 40 dX12_readsCondition_78 rfl ⟨fun hc => ?_, fun hc => ?_⟩
    · replace h := h.1 hc
      exact h
    · replace h := h.2 hc
      refine a_iconst (pc := 81) dX12_readsCondition_81 (cnb rfl) ?_
      exact a_iretZ (pc := 82) dX12_readsCondition_82 rfl (by decide) h
set_option maxRecDepth 20000 in
theorem s_X12_readsCondition_92 {Q : Int → Me → Prop}  (M : Me) (h :
    Calls 0 mX12_here [.inr 76] M (fun r93 M93 =>
    ((r93 ≠ 41 →
    Calls 0 mX12_here [.inr 76] M93 (fun r153 M153 =>
    ((r153 = 38 →
    Go (km 6 mX12_readsCondition Q) 180 [some (.inr 76)] [] M153) ∧ (r153 ≠ 38 →
    Calls 0 mX12_here [.inr 76] M153 (fun r162 M162 =>
    ((r162 = 124 →
    Go (km 6 mX12_readsCondition Q) 180 [some (.inr 76)] [] M162) ∧ (r162 ≠ 124 →
    Calls 0 mX12_wrongAt [.inr 76, .inl 1, .inl (M162 76 14)] M162 (fun r176 M176 =>
    (r176 = 0 ∨ r176 = 1) ∧
    Q r176 M176)))))))) ∧ (r93 = 41 →
    Calls 1 mX12_lands [.inr 76, .inl 1] M93 (fun r103 M103 =>
    cn ((M103 76 20) - 1) ∧
    cn ((M103 76 18) - 1) ∧
    cn ((M103 76 14) + 1) ∧
    (((M103 76 20) - 1 ≠ 0 →
    Calls 1 mX12_endsPiece [.inr 76] (mput (mput (mput M103 76 20 ((M103 76 20) - 1)) 76 18 ((M103 76 18) - 1)) 76 14 ((M103 76 14) + 1)) (fun r146 M146 =>
    Go (km 6 mX12_readsCondition Q) 92 [some (.inr 76)] [] M146)) ∧ ((M103 76 20) - 1 = 0 →
    Q 1 (mput (mput (mput M103 76 20 ((M103 76 20) - 1)) 76 18 ((M103 76 18) - 1)) 76 14 ((M103 76 14) + 1))))))))) :
    Go (km 6 mX12_readsCondition Q) 92 [some (.inr 76)] [] M := by
  refine a_aload_n (pc := 92) dX12_readsCondition_92 rfl ?_
  refine a_callVi (pc := 93) (d := 0) (st := []) (o := 76) [] dX12_readsCondition_93 l_X12_181 in_X12_here se_X12_here rfl rfl rfl ⟨Nat.le_of_ble_eq_true rfl, Nat.le_of_ble_eq_true rfl⟩ ⟨Nat.le_of_ble_eq_true rfl, Nat.le_of_ble_eq_true rfl⟩ (Nat.le_of_ble_eq_true rfl) ?_
  refine Calls.mono (fun r93 M93 hr93 hM93 h => ?_) h
  refine a_bipush (pc := 96) dX12_readsCondition_96 (by decide) (cnb rfl) ?_
  refine a_icmp_ne (pc := 98) 152 dX12_readsCondition_98 rfl ⟨fun hc => ?_, fun hc => ?_⟩
  · replace h := h.1 hc
    refine a_aload_n (pc := 152) dX12_readsCondition_152 rfl ?_
    refine a_callVi (pc := 153) (d := 0) (st := []) (o := 76) [] dX12_readsCondition_153 l_X12_181 in_X12_here se_X12_here rfl rfl rfl ⟨Nat.le_of_ble_eq_true rfl, Nat.le_of_ble_eq_true rfl⟩ ⟨Nat.le_of_ble_eq_true rfl, Nat.le_of_ble_eq_true rfl⟩ (Nat.le_of_ble_eq_true rfl) ?_
    refine Calls.mono (fun r153 M153 hr153 hM153 h => ?_) h
    refine a_bipush (pc := 156) dX12_readsCondition_156 (by decide) (cnb rfl) ?_
    refine a_icmp_eq (pc := 158) 180 dX12_readsCondition_158 rfl ⟨fun hc => ?_, fun hc => ?_⟩
    · replace h := h.1 hc
      exact h
    · replace h := h.2 hc
      refine a_aload_n (pc := 161) dX12_readsCondition_161 rfl ?_
      refine a_callVi (pc := 162) (d := 0) (st := []) (o := 76) [] dX12_readsCondition_162 l_X12_181 in_X12_here se_X12_here rfl rfl rfl ⟨Nat.le_of_ble_eq_true rfl, Nat.le_of_ble_eq_true rfl⟩ ⟨Nat.le_of_ble_eq_true rfl, Nat.le_of_ble_eq_true rfl⟩ (Nat.le_of_ble_eq_true rfl) ?_
      refine Calls.mono (fun r162 M162 hr162 hM162 h => ?_) h
      refine a_bipush (pc := 165) dX12_readsCondition_165 (by decide) (cnb rfl) ?_
      refine a_icmp_eq (pc := 167) 180 dX12_readsCondition_167 rfl ⟨fun hc => ?_, fun hc => ?_⟩
      · replace h := h.1 hc
        exact h
      · replace h := h.2 hc
        refine a_aload_n (pc := 170) dX12_readsCondition_170 rfl ?_
        refine a_iconst (pc := 171) dX12_readsCondition_171 (cnb rfl) ?_
        refine a_aload_n (pc := 172) dX12_readsCondition_172 rfl ?_
        refine a_geti (pc := 173) 14 dX12_readsCondition_173 f_X12_175 rfl rfl ?_
        refine a_callVi (pc := 176) (d := 0) (st := []) (o := 76) [.inl 1, .inl (M162 76 14)] dX12_readsCondition_176 l_X12_188 in_X12_wrongAt se_X12_wrongAt rfl rfl rfl ⟨Nat.le_of_ble_eq_true rfl, Nat.le_of_ble_eq_true rfl⟩ ⟨Nat.le_of_ble_eq_true rfl, Nat.le_of_ble_eq_true rfl⟩ (Nat.le_of_ble_eq_true rfl) ?_
        refine Calls.mono (fun r176 M176 hr176 hM176 h => ?_) h
        exact a_iretZ (pc := 179) dX12_readsCondition_179 rfl h.1 h.2
  · replace h := h.2 hc
    refine a_aload_n (pc := 101) dX12_readsCondition_101 rfl ?_
    refine a_iconst (pc := 102) dX12_readsCondition_102 (cnb rfl) ?_
    refine a_callVv (pc := 103) (d := 1) (st := []) (o := 76) [.inl 1] dX12_readsCondition_103 l_X12_247 in_X12_lands se_X12_lands rfl rfl rfl ⟨Nat.le_of_ble_eq_true rfl, Nat.le_of_ble_eq_true rfl⟩ ⟨Nat.le_of_ble_eq_true rfl, Nat.le_of_ble_eq_true rfl⟩ (Nat.le_of_ble_eq_true rfl) ?_
    refine Calls.mono (fun r103 M103 hr103 hM103 h => ?_) h
    refine a_aload_n (pc := 106) dX12_readsCondition_106 rfl ?_
    refine a_aload_n (pc := 107) dX12_readsCondition_107 rfl ?_
    refine a_geti (pc := 108) 20 dX12_readsCondition_108 f_X12_206 rfl rfl ?_
    refine a_iconst (pc := 111) dX12_readsCondition_111 (cnb rfl) ?_
    refine a_isub (pc := 112) dX12_readsCondition_112 h.1 ?_
    replace h := h.2
    refine a_puti (pc := 113) 20 dX12_readsCondition_113 f_X12_206 rfl rfl (Or.inl rfl) ?_
    refine a_aload_n (pc := 116) dX12_readsCondition_116 rfl ?_
    refine a_aload_n (pc := 117) dX12_readsCondition_117 rfl ?_
    refine a_getiE (pc := 118) (M103 76 18) 18 dX12_readsCondition_118 f_X12_203 rfl rfl (mput_ni _ _ _ _ (by decide)) ?_
    refine a_iconst (pc := 121) dX12_readsCondition_121 (cnb rfl) ?_
    refine a_isub (pc := 122) dX12_readsCondition_122 h.1 ?_
    replace h := h.2
    refine a_puti (pc := 123) 18 dX12_readsCondition_123 f_X12_203 rfl rfl (Or.inl rfl) ?_
    refine a_aload_n (pc := 126) dX12_readsCondition_126 rfl ?_
    refine a_aload_n (pc := 127) dX12_readsCondition_127 rfl ?_
    refine a_getiE (pc := 128) (M103 76 14) 14 dX12_readsCondition_128 f_X12_175 rfl rfl ((mput_ni _ _ _ _ (by decide)).trans (mput_ni _ _ _ _ (by decide))) ?_
    refine a_iconst (pc := 131) dX12_readsCondition_131 (cnb rfl) ?_
    refine a_iadd (pc := 132) dX12_readsCondition_132 h.1 ?_
    replace h := h.2
    refine a_puti (pc := 133) 14 dX12_readsCondition_133 f_X12_175 rfl rfl (Or.inl rfl) ?_
    refine a_aload_n (pc := 136) dX12_readsCondition_136 rfl ?_
    refine a_getiE (pc := 137) ((M103 76 20) - 1) 20 dX12_readsCondition_137 f_X12_206 rfl rfl ((mput_ni _ _ _ _ (by decide)).trans ((mput_ni _ _ _ _ (by decide)).trans (mput_same _ _ _ _))) ?_
    refine a_if_ne (pc := 140) 145 dX12_readsCondition_140 rfl ⟨fun hc => ?_, fun hc => ?_⟩
    · replace h := h.1 hc
      refine a_aload_n (pc := 145) dX12_readsCondition_145 rfl ?_
      refine a_callVv (pc := 146) (d := 1) (st := []) (o := 76) [] dX12_readsCondition_146 l_X12_241 in_X12_endsPiece se_X12_endsPiece rfl rfl rfl ⟨Nat.le_of_ble_eq_true rfl, Nat.le_of_ble_eq_true rfl⟩ ⟨Nat.le_of_ble_eq_true rfl, Nat.le_of_ble_eq_true rfl⟩ (Nat.le_of_ble_eq_true rfl) ?_
      refine Calls.mono (fun r146 M146 hr146 hM146 h => ?_) h
      refine a_goto (pc := 149) 92 dX12_readsCondition_149 rfl ?_
      exact h
    · replace h := h.2 hc
      refine a_iconst (pc := 143) dX12_readsCondition_143 (cnb rfl) ?_
      exact a_iretZ (pc := 144) dX12_readsCondition_144 rfl (by decide) h
set_option maxRecDepth 20000 in
theorem s_X12_readsCondition_180 {Q : Int → Me → Prop}  (M : Me) (h :
    Calls 0 mX12_here [.inr 76] M (fun r182 M182 =>
    ((r182 ≠ 124 →
    Calls 1 mX12_lands [.inr 76, .inl 0] M182 (fun r195 M195 =>
    Calls 0 mX12_here [.inr 76] M195 (fun r200 M200 =>
    ((r200 ≠ 38 →
    Calls 1 mX12_jumps [.inr 76, .inl 12] M200 (fun r215 M215 =>
    Go (km 6 mX12_readsCondition Q) 40 [some (.inr 76)] [] M215)) ∧ (r200 = 38 →
    Calls 1 mX12_jumps [.inr 76, .inl 11] M200 (fun r215 M215 =>
    Go (km 6 mX12_readsCondition Q) 40 [some (.inr 76)] [] M215)))))) ∧ (r182 = 124 →
    Calls 1 mX12_lands [.inr 76, .inl 1] M182 (fun r195 M195 =>
    Calls 0 mX12_here [.inr 76] M195 (fun r200 M200 =>
    ((r200 ≠ 38 →
    Calls 1 mX12_jumps [.inr 76, .inl 12] M200 (fun r215 M215 =>
    Go (km 6 mX12_readsCondition Q) 40 [some (.inr 76)] [] M215)) ∧ (r200 = 38 →
    Calls 1 mX12_jumps [.inr 76, .inl 11] M200 (fun r215 M215 =>
    Go (km 6 mX12_readsCondition Q) 40 [some (.inr 76)] [] M215))))))))) :
    Go (km 6 mX12_readsCondition Q) 180 [some (.inr 76)] [] M := by
  refine a_aload_n (pc := 180) dX12_readsCondition_180 rfl ?_
  refine a_aload_n (pc := 181) dX12_readsCondition_181 rfl ?_
  refine a_callVi (pc := 182) (d := 0) (st := [.inr 76]) (o := 76) [] dX12_readsCondition_182 l_X12_181 in_X12_here se_X12_here rfl rfl rfl ⟨Nat.le_of_ble_eq_true rfl, Nat.le_of_ble_eq_true rfl⟩ ⟨Nat.le_of_ble_eq_true rfl, Nat.le_of_ble_eq_true rfl⟩ (Nat.le_of_ble_eq_true rfl) ?_
  refine Calls.mono (fun r182 M182 hr182 hM182 h => ?_) h
  refine a_bipush (pc := 185) dX12_readsCondition_185 (by decide) (cnb rfl) ?_
  refine a_icmp_ne (pc := 187) 194 dX12_readsCondition_187 rfl ⟨fun hc => ?_, fun hc => ?_⟩
  · replace h := h.1 hc
    refine a_iconst (pc := 194) dX12_readsCondition_194 (cnb rfl) ?_
    refine a_callVv (pc := 195) (d := 1) (st := []) (o := 76) [.inl 0] dX12_readsCondition_195 l_X12_247 in_X12_lands se_X12_lands rfl rfl rfl ⟨Nat.le_of_ble_eq_true rfl, Nat.le_of_ble_eq_true rfl⟩ ⟨Nat.le_of_ble_eq_true rfl, Nat.le_of_ble_eq_true rfl⟩ (Nat.le_of_ble_eq_true rfl) ?_
    refine Calls.mono (fun r195 M195 hr195 hM195 h => ?_) h
    refine a_aload_n (pc := 198) dX12_readsCondition_198 rfl ?_
    refine a_aload_n (pc := 199) dX12_readsCondition_199 rfl ?_
    refine a_callVi (pc := 200) (d := 0) (st := [.inr 76]) (o := 76) [] dX12_readsCondition_200 l_X12_181 in_X12_here se_X12_here rfl rfl rfl ⟨Nat.le_of_ble_eq_true rfl, Nat.le_of_ble_eq_true rfl⟩ ⟨Nat.le_of_ble_eq_true rfl, Nat.le_of_ble_eq_true rfl⟩ (Nat.le_of_ble_eq_true rfl) ?_
    refine Calls.mono (fun r200 M200 hr200 hM200 h => ?_) h
    refine a_bipush (pc := 203) dX12_readsCondition_203 (by decide) (cnb rfl) ?_
    refine a_icmp_ne (pc := 205) 213 dX12_readsCondition_205 rfl ⟨fun hc => ?_, fun hc => ?_⟩
    · replace h := h.1 hc
      refine a_bipush (pc := 213) dX12_readsCondition_213 (by decide) (cnb rfl) ?_
      refine a_callVv (pc := 215) (d := 1) (st := []) (o := 76) [.inl 12] dX12_readsCondition_215 l_X12_250 in_X12_jumps se_X12_jumps rfl rfl rfl ⟨Nat.le_of_ble_eq_true rfl, Nat.le_of_ble_eq_true rfl⟩ ⟨Nat.le_of_ble_eq_true rfl, Nat.le_of_ble_eq_true rfl⟩ (Nat.le_of_ble_eq_true rfl) ?_
      refine Calls.mono (fun r215 M215 hr215 hM215 h => ?_) h
      refine a_goto (pc := 218) 40 dX12_readsCondition_218 rfl ?_
      exact h
    · replace h := h.2 hc
      refine a_bipush (pc := 208) dX12_readsCondition_208 (by decide) (cnb rfl) ?_
      refine a_goto (pc := 210) 215 dX12_readsCondition_210 rfl ?_
      refine a_callVv (pc := 215) (d := 1) (st := []) (o := 76) [.inl 11] dX12_readsCondition_215 l_X12_250 in_X12_jumps se_X12_jumps rfl rfl rfl ⟨Nat.le_of_ble_eq_true rfl, Nat.le_of_ble_eq_true rfl⟩ ⟨Nat.le_of_ble_eq_true rfl, Nat.le_of_ble_eq_true rfl⟩ (Nat.le_of_ble_eq_true rfl) ?_
      refine Calls.mono (fun r215 M215 hr215 hM215 h => ?_) h
      refine a_goto (pc := 218) 40 dX12_readsCondition_218 rfl ?_
      exact h
  · replace h := h.2 hc
    refine a_iconst (pc := 190) dX12_readsCondition_190 (cnb rfl) ?_
    refine a_goto (pc := 191) 195 dX12_readsCondition_191 rfl ?_
    refine a_callVv (pc := 195) (d := 1) (st := []) (o := 76) [.inl 1] dX12_readsCondition_195 l_X12_247 in_X12_lands se_X12_lands rfl rfl rfl ⟨Nat.le_of_ble_eq_true rfl, Nat.le_of_ble_eq_true rfl⟩ ⟨Nat.le_of_ble_eq_true rfl, Nat.le_of_ble_eq_true rfl⟩ (Nat.le_of_ble_eq_true rfl) ?_
    refine Calls.mono (fun r195 M195 hr195 hM195 h => ?_) h
    refine a_aload_n (pc := 198) dX12_readsCondition_198 rfl ?_
    refine a_aload_n (pc := 199) dX12_readsCondition_199 rfl ?_
    refine a_callVi (pc := 200) (d := 0) (st := [.inr 76]) (o := 76) [] dX12_readsCondition_200 l_X12_181 in_X12_here se_X12_here rfl rfl rfl ⟨Nat.le_of_ble_eq_true rfl, Nat.le_of_ble_eq_true rfl⟩ ⟨Nat.le_of_ble_eq_true rfl, Nat.le_of_ble_eq_true rfl⟩ (Nat.le_of_ble_eq_true rfl) ?_
    refine Calls.mono (fun r200 M200 hr200 hM200 h => ?_) h
    refine a_bipush (pc := 203) dX12_readsCondition_203 (by decide) (cnb rfl) ?_
    refine a_icmp_ne (pc := 205) 213 dX12_readsCondition_205 rfl ⟨fun hc => ?_, fun hc => ?_⟩
    · replace h := h.1 hc
      refine a_bipush (pc := 213) dX12_readsCondition_213 (by decide) (cnb rfl) ?_
      refine a_callVv (pc := 215) (d := 1) (st := []) (o := 76) [.inl 12] dX12_readsCondition_215 l_X12_250 in_X12_jumps se_X12_jumps rfl rfl rfl ⟨Nat.le_of_ble_eq_true rfl, Nat.le_of_ble_eq_true rfl⟩ ⟨Nat.le_of_ble_eq_true rfl, Nat.le_of_ble_eq_true rfl⟩ (Nat.le_of_ble_eq_true rfl) ?_
      refine Calls.mono (fun r215 M215 hr215 hM215 h => ?_) h
      refine a_goto (pc := 218) 40 dX12_readsCondition_218 rfl ?_
      exact h
    · replace h := h.2 hc
      refine a_bipush (pc := 208) dX12_readsCondition_208 (by decide) (cnb rfl) ?_
      refine a_goto (pc := 210) 215 dX12_readsCondition_210 rfl ?_
      refine a_callVv (pc := 215) (d := 1) (st := []) (o := 76) [.inl 11] dX12_readsCondition_215 l_X12_250 in_X12_jumps se_X12_jumps rfl rfl rfl ⟨Nat.le_of_ble_eq_true rfl, Nat.le_of_ble_eq_true rfl⟩ ⟨Nat.le_of_ble_eq_true rfl, Nat.le_of_ble_eq_true rfl⟩ (Nat.le_of_ble_eq_true rfl) ?_
      refine Calls.mono (fun r215 M215 hr215 hM215 h => ?_) h
      refine a_goto (pc := 218) 40 dX12_readsCondition_218 rfl ?_
      exact h
set_option maxRecDepth 20000 in
theorem s_X12_readsRule_0 {Q : Int → Me → Prop}  (M : Me) (h :
    Calls 0 mX12_here [.inr 76] M (fun r1 M1 =>
    ((r1 = 118 →
    Go (km 7 mX12_readsRule Q) 33 [some (.inr 76), some (.inl r1)] [] M1) ∧ (r1 ≠ 118 →
    ((r1 = 102 →
    Go (km 7 mX12_readsRule Q) 33 [some (.inr 76), some (.inl r1)] [] M1) ∧ (r1 ≠ 102 →
    ((r1 = 120 →
    Go (km 7 mX12_readsRule Q) 33 [some (.inr 76), some (.inl r1)] [] M1) ∧ (r1 ≠ 120 →
    Calls 0 mX12_wrongAt [.inr 76, .inl 1, .inl (M1 76 14)] M1 (fun r29 M29 =>
    (r29 = 0 ∨ r29 = 1) ∧
    Q r29 M29))))))))) :
    Go (km 7 mX12_readsRule Q) 0 [some (.inr 76), none] [] M := by
  refine a_aload_n (pc := 0) dX12_readsRule_0 rfl ?_
  refine a_callVi (pc := 1) (d := 0) (st := []) (o := 76) [] dX12_readsRule_1 l_X12_181 in_X12_here se_X12_here rfl rfl rfl ⟨Nat.le_of_ble_eq_true rfl, Nat.le_of_ble_eq_true rfl⟩ ⟨Nat.le_of_ble_eq_true rfl, Nat.le_of_ble_eq_true rfl⟩ (Nat.le_of_ble_eq_true rfl) ?_
  refine Calls.mono (fun r1 M1 hr1 hM1 h => ?_) h
  refine a_istore_n (pc := 4) dX12_readsRule_4 (Nat.le_of_ble_eq_true rfl) ?_
  refine a_iload_n (pc := 5) dX12_readsRule_5 rfl ?_
  refine a_bipush (pc := 6) dX12_readsRule_6 (by decide) (cnb rfl) ?_
  refine a_icmp_eq (pc := 8) 33 dX12_readsRule_8 rfl ⟨fun hc => ?_, fun hc => ?_⟩
  · replace h := h.1 hc
    exact h
  · replace h := h.2 hc
    refine a_iload_n (pc := 11) dX12_readsRule_11 rfl ?_
    refine a_bipush (pc := 12) dX12_readsRule_12 (by decide) (cnb rfl) ?_
    refine a_icmp_eq (pc := 14) 33 dX12_readsRule_14 rfl ⟨fun hc => ?_, fun hc => ?_⟩
    · replace h := h.1 hc
      exact h
    · replace h := h.2 hc
      refine a_iload_n (pc := 17) dX12_readsRule_17 rfl ?_
      refine a_bipush (pc := 18) dX12_readsRule_18 (by decide) (cnb rfl) ?_
      refine a_icmp_eq (pc := 20) 33 dX12_readsRule_20 rfl ⟨fun hc => ?_, fun hc => ?_⟩
      · replace h := h.1 hc
        exact h
      · replace h := h.2 hc
        refine a_aload_n (pc := 23) dX12_readsRule_23 rfl ?_
        refine a_iconst (pc := 24) dX12_readsRule_24 (cnb rfl) ?_
        refine a_aload_n (pc := 25) dX12_readsRule_25 rfl ?_
        refine a_geti (pc := 26) 14 dX12_readsRule_26 f_X12_175 rfl rfl ?_
        refine a_callVi (pc := 29) (d := 0) (st := []) (o := 76) [.inl 1, .inl (M1 76 14)] dX12_readsRule_29 l_X12_188 in_X12_wrongAt se_X12_wrongAt rfl rfl rfl ⟨Nat.le_of_ble_eq_true rfl, Nat.le_of_ble_eq_true rfl⟩ ⟨Nat.le_of_ble_eq_true rfl, Nat.le_of_ble_eq_true rfl⟩ (Nat.le_of_ble_eq_true rfl) ?_
        refine Calls.mono (fun r29 M29 hr29 hM29 h => ?_) h
        exact a_iretZ (pc := 32) dX12_readsRule_32 rfl h.1 h.2
set_option maxRecDepth 20000 in
theorem e_X12_readsRule {Q : Int → Me → Prop}  {M : Me} (h :
    Calls 0 mX12_here [.inr 76] M (fun r1 M1 =>
    ((r1 = 118 →
    Go (km 7 mX12_readsRule Q) 33 [some (.inr 76), some (.inl r1)] [] M1) ∧ (r1 ≠ 118 →
    ((r1 = 102 →
    Go (km 7 mX12_readsRule Q) 33 [some (.inr 76), some (.inl r1)] [] M1) ∧ (r1 ≠ 102 →
    ((r1 = 120 →
    Go (km 7 mX12_readsRule Q) 33 [some (.inr 76), some (.inl r1)] [] M1) ∧ (r1 ≠ 120 →
    Calls 0 mX12_wrongAt [.inr 76, .inl 1, .inl (M1 76 14)] M1 (fun r29 M29 =>
    (r29 = 0 ∨ r29 = 1) ∧
    Q r29 M29))))))))) : Calls 7 mX12_readsRule [.inr 76] M Q := Calls.of (by decide) (Nat.le_of_ble_eq_true rfl) (s_X12_readsRule_0   M h)
set_option maxRecDepth 20000 in
theorem s_X12_readsRule_33 {Q : Int → Me → Prop}  (x1 : Int) (M : Me) (h :
    ((M 76 21 ≠ 16 →
    (0 ≤ M 76 21 ∧ M 76 21 < 16) ∧
    cn ((M 76 14) + 1) ∧
    (0 ≤ M 76 21 ∧ M 76 21 < 16) ∧
    ((x1 = 120 →
    Go (km 7 mX12_readsRule Q) 118 [some (.inr 76), none] [.inl (M 76 21), .inr 93] (mput (mput (mput (mput (mput M 91 (M 76 21) x1) 76 14 ((M 76 14) + 1)) 92 (M 76 21) (M 76 19)) 76 18 0) 76 20 0)) ∧ (x1 ≠ 120 →
    Calls 4 mX12_readsSum [.inr 76] (mput (mput (mput (mput (mput M 91 (M 76 21) x1) 76 14 ((M 76 14) + 1)) 92 (M 76 21) (M 76 19)) 76 18 0) 76 20 0) (fun r102 M102 =>
    ((r102 ≠ 0 →
    Go (km 7 mX12_readsRule Q) 118 [some (.inr 76), none] [.inl (M102 76 21), .inr 93] M102) ∧ (r102 = 0 →
    Q 0 M102)))))) ∧ (M 76 21 = 16 →
    Calls 0 mX12_wrongAt [.inr 76, .inl 4, .inl (M 76 14)] M (fun r48 M48 =>
    (r48 = 0 ∨ r48 = 1) ∧
    Q r48 M48)))) :
    Go (km 7 mX12_readsRule Q) 33 [some (.inr 76), some (.inl x1)] [] M := by
  refine a_aload_n (pc := 33) dX12_readsRule_33 rfl ?_
  refine a_geti (pc := 34) 21 dX12_readsRule_34 f_X12_253 rfl rfl ?_
  refine a_bipush (pc := 37) dX12_readsRule_37 (by decide) (cnb rfl) ?_
  refine a_icmp_ne (pc := 39) 52 dX12_readsRule_39 rfl ⟨fun hc => ?_, fun hc => ?_⟩
  · replace h := h.1 hc
    refine a_aload_n (pc := 52) dX12_readsRule_52 rfl ?_
    refine a_getr (pc := 53) dX12_readsRule_53 f_X12_53 rfl ?_
    refine a_aload_n (pc := 56) dX12_readsRule_56 rfl ?_
    refine a_geti (pc := 57) 21 dX12_readsRule_57 f_X12_253 rfl rfl ?_
    refine a_iload_n (pc := 60) dX12_readsRule_60 rfl ?_
    refine a_iast (pc := 61) dX12_readsRule_61 rfl h.1.1 h.1.2 ?_
    replace h := h.2
    refine a_aload_n (pc := 62) dX12_readsRule_62 rfl ?_
    refine a_aload_n (pc := 63) dX12_readsRule_63 rfl ?_
    refine a_getiE (pc := 64) (M 76 14) 14 dX12_readsRule_64 f_X12_175 rfl rfl (mput_ne _ _ _ _ (by decide)) ?_
    refine a_iconst (pc := 67) dX12_readsRule_67 (cnb rfl) ?_
    refine a_iadd (pc := 68) dX12_readsRule_68 h.1 ?_
    replace h := h.2
    refine a_puti (pc := 69) 14 dX12_readsRule_69 f_X12_175 rfl rfl (Or.inl rfl) ?_
    refine a_aload_n (pc := 72) dX12_readsRule_72 rfl ?_
    refine a_getr (pc := 73) dX12_readsRule_73 f_X12_56 rfl ?_
    refine a_aload_n (pc := 76) dX12_readsRule_76 rfl ?_
    refine a_getiE (pc := 77) (M 76 21) 21 dX12_readsRule_77 f_X12_253 rfl rfl ((mput_ni _ _ _ _ (by decide)).trans (mput_ne _ _ _ _ (by decide))) ?_
    refine a_aload_n (pc := 80) dX12_readsRule_80 rfl ?_
    refine a_getiE (pc := 81) (M 76 19) 19 dX12_readsRule_81 f_X12_199 rfl rfl ((mput_ni _ _ _ _ (by decide)).trans (mput_ne _ _ _ _ (by decide))) ?_
    refine a_iast (pc := 84) dX12_readsRule_84 rfl h.1.1 h.1.2 ?_
    replace h := h.2
    refine a_aload_n (pc := 85) dX12_readsRule_85 rfl ?_
    refine a_iconst (pc := 86) dX12_readsRule_86 (cnb rfl) ?_
    refine a_puti (pc := 87) 18 dX12_readsRule_87 f_X12_203 rfl rfl (Or.inl rfl) ?_
    refine a_aload_n (pc := 90) dX12_readsRule_90 rfl ?_
    refine a_iconst (pc := 91) dX12_readsRule_91 (cnb rfl) ?_
    refine a_puti (pc := 92) 20 dX12_readsRule_92 f_X12_206 rfl rfl (Or.inl rfl) ?_
    refine a_iload_n (pc := 95) dX12_readsRule_95 rfl ?_
    refine a_bipush (pc := 96) dX12_readsRule_96 (by decide) (cnb rfl) ?_
    refine a_icmp_eq (pc := 98) 110 dX12_readsRule_98 rfl ⟨fun hc => ?_, fun hc => ?_⟩
    · replace h := h.1 hc
      refine a_aload_n (pc := 110) dX12_readsRule_110 rfl ?_
      refine a_getr (pc := 111) dX12_readsRule_111 f_X12_59 rfl ?_
      refine a_aload_n (pc := 114) dX12_readsRule_114 rfl ?_
      refine a_getiE (pc := 115) (M 76 21) 21 dX12_readsRule_115 f_X12_253 rfl rfl ((mput_ni _ _ _ _ (by decide)).trans ((mput_ni _ _ _ _ (by decide)).trans ((mput_ne _ _ _ _ (by decide)).trans ((mput_ni _ _ _ _ (by decide)).trans (mput_ne _ _ _ _ (by decide)))))) ?_
      exact Go.weak h (And.intro rfl True.intro)
    · replace h := h.2 hc
      refine a_aload_n (pc := 101) dX12_readsRule_101 rfl ?_
      refine a_callVi (pc := 102) (d := 4) (st := []) (o := 76) [] dX12_readsRule_102 l_X12_238 in_X12_readsSum se_X12_readsSum rfl rfl rfl ⟨Nat.le_of_ble_eq_true rfl, Nat.le_of_ble_eq_true rfl⟩ ⟨Nat.le_of_ble_eq_true rfl, Nat.le_of_ble_eq_true rfl⟩ (Nat.le_of_ble_eq_true rfl) ?_
      refine Calls.mono (fun r102 M102 hr102 hM102 h => ?_) h
      refine a_if_ne (pc := 105) 110 dX12_readsRule_105 rfl ⟨fun hc => ?_, fun hc => ?_⟩
      · replace h := h.1 hc
        refine a_aload_n (pc := 110) dX12_readsRule_110 rfl ?_
        refine a_getr (pc := 111) dX12_readsRule_111 f_X12_59 rfl ?_
        refine a_aload_n (pc := 114) dX12_readsRule_114 rfl ?_
        refine a_geti (pc := 115) 21 dX12_readsRule_115 f_X12_253 rfl rfl ?_
        exact Go.weak h (And.intro rfl True.intro)
      · replace h := h.2 hc
        refine a_iconst (pc := 108) dX12_readsRule_108 (cnb rfl) ?_
        exact a_iretZ (pc := 109) dX12_readsRule_109 rfl (by decide) h
  · replace h := h.2 hc
    refine a_aload_n (pc := 42) dX12_readsRule_42 rfl ?_
    refine a_iconst (pc := 43) dX12_readsRule_43 (cnb rfl) ?_
    refine a_aload_n (pc := 44) dX12_readsRule_44 rfl ?_
    refine a_geti (pc := 45) 14 dX12_readsRule_45 f_X12_175 rfl rfl ?_
    refine a_callVi (pc := 48) (d := 0) (st := []) (o := 76) [.inl 4, .inl (M 76 14)] dX12_readsRule_48 l_X12_188 in_X12_wrongAt se_X12_wrongAt rfl rfl rfl ⟨Nat.le_of_ble_eq_true rfl, Nat.le_of_ble_eq_true rfl⟩ ⟨Nat.le_of_ble_eq_true rfl, Nat.le_of_ble_eq_true rfl⟩ (Nat.le_of_ble_eq_true rfl) ?_
    refine Calls.mono (fun r48 M48 hr48 hM48 h => ?_) h
    exact a_iretZ (pc := 51) dX12_readsRule_51 rfl h.1 h.2
set_option maxRecDepth 20000 in
theorem s_X12_readsRule_118 {Q : Int → Me → Prop}  (t0 : Int) (M : Me) (h :
    (0 ≤ t0 ∧ t0 < 16) ∧
    Calls 6 mX12_readsCondition [.inr 76] (mput M 93 t0 (M 76 19)) (fun r124 M124 =>
    ((r124 ≠ 0 →
    (0 ≤ M124 76 21 ∧ M124 76 21 < 16) ∧
    cn ((M124 76 21) + 1) ∧
    Q 1 (mput (mput M124 94 (M124 76 21) (M124 76 19)) 76 21 ((M124 76 21) + 1))) ∧ (r124 = 0 →
    Q 0 M124)))) :
    Go (km 7 mX12_readsRule Q) 118 [some (.inr 76), none] [.inl t0, .inr 93] M := by
  refine a_aload_n (pc := 118) dX12_readsRule_118 rfl ?_
  refine a_geti (pc := 119) 19 dX12_readsRule_119 f_X12_199 rfl rfl ?_
  refine a_iast (pc := 122) dX12_readsRule_122 rfl h.1.1 h.1.2 ?_
  replace h := h.2
  refine a_aload_n (pc := 123) dX12_readsRule_123 rfl ?_
  refine a_callVi (pc := 124) (d := 6) (st := []) (o := 76) [] dX12_readsRule_124 l_X12_256 in_X12_readsCondition se_X12_readsCondition rfl rfl rfl ⟨Nat.le_of_ble_eq_true rfl, Nat.le_of_ble_eq_true rfl⟩ ⟨Nat.le_of_ble_eq_true rfl, Nat.le_of_ble_eq_true rfl⟩ (Nat.le_of_ble_eq_true rfl) ?_
  refine Calls.mono (fun r124 M124 hr124 hM124 h => ?_) h
  refine a_if_ne (pc := 127) 132 dX12_readsRule_127 rfl ⟨fun hc => ?_, fun hc => ?_⟩
  · replace h := h.1 hc
    refine a_aload_n (pc := 132) dX12_readsRule_132 rfl ?_
    refine a_getr (pc := 133) dX12_readsRule_133 f_X12_62 rfl ?_
    refine a_aload_n (pc := 136) dX12_readsRule_136 rfl ?_
    refine a_geti (pc := 137) 21 dX12_readsRule_137 f_X12_253 rfl rfl ?_
    refine a_aload_n (pc := 140) dX12_readsRule_140 rfl ?_
    refine a_geti (pc := 141) 19 dX12_readsRule_141 f_X12_199 rfl rfl ?_
    refine a_iast (pc := 144) dX12_readsRule_144 rfl h.1.1 h.1.2 ?_
    replace h := h.2
    refine a_aload_n (pc := 145) dX12_readsRule_145 rfl ?_
    refine a_aload_n (pc := 146) dX12_readsRule_146 rfl ?_
    refine a_getiE (pc := 147) (M124 76 21) 21 dX12_readsRule_147 f_X12_253 rfl rfl (mput_ne _ _ _ _ (by decide)) ?_
    refine a_iconst (pc := 150) dX12_readsRule_150 (cnb rfl) ?_
    refine a_iadd (pc := 151) dX12_readsRule_151 h.1 ?_
    replace h := h.2
    refine a_puti (pc := 152) 21 dX12_readsRule_152 f_X12_253 rfl rfl (Or.inl rfl) ?_
    refine a_iconst (pc := 155) dX12_readsRule_155 (cnb rfl) ?_
    exact a_iretZ (pc := 156) dX12_readsRule_156 rfl (by decide) h
  · replace h := h.2 hc
    refine a_iconst (pc := 130) dX12_readsRule_130 (cnb rfl) ?_
    exact a_iretZ (pc := 131) dX12_readsRule_131 rfl (by decide) h
