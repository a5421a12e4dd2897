set_option maxHeartbeats 8000000 in
set_option maxRecDepth 20000 in
theorem s_X4_rule_0 {Q : Int → Me → Prop}  (a : Int) (M : Me) (h :
    Calls 0 mX9_sign [.inr 1] M (fun r4 M4 =>
    ((r4 = 118 →
    Go (km 23 mX4_rule Q) 42 [some (.inr 29), some (.inl a), some (.inl r4)] [] M4) ∧ (r4 ≠ 118 →
    ((r4 = 102 →
    Go (km 23 mX4_rule Q) 42 [some (.inr 29), some (.inl a), some (.inl r4)] [] M4) ∧ (r4 ≠ 102 →
    ((r4 = 120 →
    Go (km 23 mX4_rule Q) 42 [some (.inr 29), some (.inl a), some (.inl r4)] [] M4) ∧ (r4 ≠ 120 →
    Calls 0 mX9_fail [.inr 1, .inl 1, .inl (M4 1 3)] M4 (fun r38 M38 =>
    Q 0 M38))))))))) :
    Go (km 23 mX4_rule Q) 0 [some (.inr 29), some (.inl a), none] [] M := by
  refine a_aload_n (pc := 0) dX4_rule_0 rfl ?_
  refine a_getr (pc := 1) dX4_rule_1 f_X4_7 rfl ?_
  refine a_callVi (pc := 4) (d := 0) (st := []) (o := 1) [] dX4_rule_4 l_X4_44 in_X9_sign se_X9_sign rfl rfl rfl ⟨Nat.le_of_ble_eq_true rfl, Nat.le_of_ble_eq_true rfl⟩ ⟨Nat.le_of_ble_eq_true rfl, Nat.le_of_ble_eq_true rfl⟩ (Nat.le_of_ble_eq_true rfl) ?_
  refine Calls.mono (fun r4 M4 hr4 hM4 h => ?_) h
  refine a_istore_n (pc := 7) dX4_rule_7 (Nat.le_of_ble_eq_true rfl) ?_
  refine a_iload_n (pc := 8) dX4_rule_8 rfl ?_
  refine a_bipush (pc := 9) dX4_rule_9 (by decide) (cnb rfl) ?_
  refine a_icmp_eq (pc := 11) 42 dX4_rule_11 rfl ⟨fun hc => ?_, fun hc => ?_⟩
  · replace h := h.1 hc
    exact h
  · replace h := h.2 hc
    refine a_iload_n (pc := 14) dX4_rule_14 rfl ?_
    refine a_bipush (pc := 15) dX4_rule_15 (by decide) (cnb rfl) ?_
    refine a_icmp_eq (pc := 17) 42 dX4_rule_17 rfl ⟨fun hc => ?_, fun hc => ?_⟩
    · replace h := h.1 hc
      exact h
    · replace h := h.2 hc
      refine a_iload_n (pc := 20) dX4_rule_20 rfl ?_
      refine a_bipush (pc := 21) dX4_rule_21 (by decide) (cnb rfl) ?_
      refine a_icmp_eq (pc := 23) 42 dX4_rule_23 rfl ⟨fun hc => ?_, fun hc => ?_⟩
      · replace h := h.1 hc
        exact h
      · replace h := h.2 hc
        refine a_aload_n (pc := 26) dX4_rule_26 rfl ?_
        refine a_getr (pc := 27) dX4_rule_27 f_X4_7 rfl ?_
        refine a_iconst (pc := 30) dX4_rule_30 (cnb rfl) ?_
        refine a_aload_n (pc := 31) dX4_rule_31 rfl ?_
        refine a_getr (pc := 32) dX4_rule_32 f_X4_7 rfl ?_
        refine a_geti (pc := 35) 3 dX4_rule_35 f_X4_48 rfl rfl ?_
        refine a_callVv (pc := 38) (d := 0) (st := []) (o := 1) [.inl 1, .inl (M4 1 3)] dX4_rule_38 l_X4_51 in_X9_fail se_X9_fail rfl rfl rfl ⟨Nat.le_of_ble_eq_true rfl, Nat.le_of_ble_eq_true rfl⟩ ⟨Nat.le_of_ble_eq_true rfl, Nat.le_of_ble_eq_true rfl⟩ (Nat.le_of_ble_eq_true rfl) ?_
        refine Calls.mono (fun r38 M38 hr38 hM38 h => ?_) h
        exact a_ret (pc := 41) dX4_rule_41 rfl h
set_option maxHeartbeats 8000000 in
set_option maxRecDepth 20000 in
theorem e_X4_rule {Q : Int → Me → Prop}  {a : Int} {M : Me} (h :
    Calls 0 mX9_sign [.inr 1] M (fun r4 M4 =>
    ((r4 = 118 →
    Go (km 23 mX4_rule Q) 42 [some (.inr 29), some (.inl a), some (.inl r4)] [] M4) ∧ (r4 ≠ 118 →
    ((r4 = 102 →
    Go (km 23 mX4_rule Q) 42 [some (.inr 29), some (.inl a), some (.inl r4)] [] M4) ∧ (r4 ≠ 102 →
    ((r4 = 120 →
    Go (km 23 mX4_rule Q) 42 [some (.inr 29), some (.inl a), some (.inl r4)] [] M4) ∧ (r4 ≠ 120 →
    Calls 0 mX9_fail [.inr 1, .inl 1, .inl (M4 1 3)] M4 (fun r38 M38 =>
    Q 0 M38))))))))) : Calls 23 mX4_rule [.inr 29, .inl a] M Q := Calls.of (by decide) (Nat.le_of_ble_eq_true rfl) (s_X4_rule_0  a M h)
set_option maxHeartbeats 8000000 in
set_option maxRecDepth 20000 in
theorem s_X4_rule_42 {Q : Int → Me → Prop}  (x1 x2 : Int) (M : Me) (h :
    ((x1 < 16 →
    cn ((M 1 3) + 1) ∧
    (0 ≤ x1 ∧ x1 < 16) ∧
    (0 ≤ x1 ∧ x1 < 16) ∧
    ((x2 = 120 →
    Go (km 23 mX4_rule Q) 114 [some (.inr 29), some (.inl x1), none] [] (mput (mput (mput M 1 3 ((M 1 3) + 1)) 31 x1 x2) 32 x1 (M 30 7))) ∧ (x2 ≠ 120 →
    Calls 22 mX4_sum [.inr 29, .inl 0] (mput (mput (mput M 1 3 ((M 1 3) + 1)) 31 x1 x2) 32 x1 (M 30 7)) (fun r111 M111 =>
    Go (km 23 mX4_rule Q) 114 [some (.inr 29), some (.inl x1), none] [] M111)))) ∧ (16 ≤ x1 →
    Calls 0 mX9_fail [.inr 1, .inl 4, .inl (M 1 3)] M (fun r60 M60 =>
    Q 0 M60)))) :
    Go (km 23 mX4_rule Q) 42 [some (.inr 29), some (.inl x1), some (.inl x2)] [] M := by
  refine a_iload_n (pc := 42) dX4_rule_42 rfl ?_
  refine a_bipush (pc := 43) dX4_rule_43 (by decide) (cnb rfl) ?_
  refine a_icmp_lt (pc := 45) 64 dX4_rule_45 rfl ⟨fun hc => ?_, fun hc => ?_⟩
  · replace h := h.1 hc
    refine a_aload_n (pc := 64) dX4_rule_64 rfl ?_
    refine a_getr (pc := 65) dX4_rule_65 f_X4_7 rfl ?_
    refine a_dup (pc := 68) dX4_rule_68 ?_
    refine a_geti (pc := 69) 3 dX4_rule_69 f_X4_48 rfl rfl ?_
    refine a_iconst (pc := 72) dX4_rule_72 (cnb rfl) ?_
    refine a_iadd (pc := 73) dX4_rule_73 h.1 ?_
    replace h := h.2
    refine a_puti (pc := 74) 3 dX4_rule_74 f_X4_48 rfl rfl (Or.inl rfl) ?_
    refine a_aload_n (pc := 77) dX4_rule_77 rfl ?_
    refine a_getr (pc := 78) dX4_rule_78 f_X4_16 rfl ?_
    refine a_getr (pc := 81) dX4_rule_81 f_X4_55 rfl ?_
    refine a_iload_n (pc := 84) dX4_rule_84 rfl ?_
    refine a_iload_n (pc := 85) dX4_rule_85 rfl ?_
    refine a_iast (pc := 86) dX4_rule_86 rfl h.1.1 h.1.2 ?_
    replace h := h.2
    refine a_aload_n (pc := 87) dX4_rule_87 rfl ?_
    refine a_getr (pc := 88) dX4_rule_88 f_X4_16 rfl ?_
    refine a_getr (pc := 91) dX4_rule_91 f_X4_59 rfl ?_
    refine a_iload_n (pc := 94) dX4_rule_94 rfl ?_
    refine a_aload_n (pc := 95) dX4_rule_95 rfl ?_
    refine a_getr (pc := 96) dX4_rule_96 f_X4_16 rfl ?_
    refine a_getiE (pc := 99) (M 30 7) 7 dX4_rule_99 f_X4_30 rfl rfl ((mput_ne _ _ _ _ (by decide)).trans (mput_ne _ _ _ _ (by decide))) ?_
    refine a_iast (pc := 102) dX4_rule_102 rfl h.1.1 h.1.2 ?_
    replace h := h.2
    refine a_iload_n (pc := 103) dX4_rule_103 rfl ?_
    refine a_bipush (pc := 104) dX4_rule_104 (by decide) (cnb rfl) ?_
    refine a_icmp_eq (pc := 106) 114 dX4_rule_106 rfl ⟨fun hc => ?_, fun hc => ?_⟩
    · replace h := h.1 hc
      exact Go.weak h (And.intro rfl (And.intro rfl True.intro))
    · replace h := h.2 hc
      refine a_aload_n (pc := 109) dX4_rule_109 rfl ?_
      refine a_iconst (pc := 110) dX4_rule_110 (cnb rfl) ?_
      refine a_callVv (pc := 111) (d := 22) (st := []) (o := 29) [.inl 0] dX4_rule_111 l_X4_62 in_X4_sum se_X4_sum rfl rfl rfl ⟨Nat.le_of_ble_eq_true rfl, Nat.le_of_ble_eq_true rfl⟩ ⟨Nat.le_of_ble_eq_true rfl, Nat.le_of_ble_eq_true rfl⟩ (Nat.le_of_ble_eq_true rfl) ?_
      refine Calls.mono (fun r111 M111 hr111 hM111 h => ?_) h
      exact Go.weak h (And.intro rfl (And.intro rfl True.intro))
  · replace h := h.2 hc
    refine a_aload_n (pc := 48) dX4_rule_48 rfl ?_
    refine a_getr (pc := 49) dX4_rule_49 f_X4_7 rfl ?_
    refine a_iconst (pc := 52) dX4_rule_52 (cnb rfl) ?_
    refine a_aload_n (pc := 53) dX4_rule_53 rfl ?_
    refine a_getr (pc := 54) dX4_rule_54 f_X4_7 rfl ?_
    refine a_geti (pc := 57) 3 dX4_rule_57 f_X4_48 rfl rfl ?_
    refine a_callVv (pc := 60) (d := 0) (st := []) (o := 1) [.inl 4, .inl (M 1 3)] dX4_rule_60 l_X4_51 in_X9_fail se_X9_fail rfl rfl rfl ⟨Nat.le_of_ble_eq_true rfl, Nat.le_of_ble_eq_true rfl⟩ ⟨Nat.le_of_ble_eq_true rfl, Nat.le_of_ble_eq_true rfl⟩ (Nat.le_of_ble_eq_true rfl) ?_
    refine Calls.mono (fun r60 M60 hr60 hM60 h => ?_) h
    exact a_ret (pc := 63) dX4_rule_63 rfl h
set_option maxHeartbeats 8000000 in
set_option maxRecDepth 20000 in
theorem s_X4_rule_114 {Q : Int → Me → Prop}  (x1 : Int) (M : Me) (h :
    (0 ≤ x1 ∧ x1 < 16) ∧
    Calls 1 mX9_take [.inr 1, .inl 40] (mput M 33 x1 (M 30 7)) (fun r136 M136 =>
    Calls 22 mX4_condition [.inr 29, .inl 1] M136 (fun r141 M141 =>
    Calls 1 mX9_take [.inr 1, .inl 41] M141 (fun r150 M150 =>
    (0 ≤ x1 ∧ x1 < 16) ∧
    cn (x1 + 1) ∧
    Q 0 (mput (mput M150 34 x1 (M150 30 7)) 30 6 (x1 + 1)))))) :
    Go (km 23 mX4_rule Q) 114 [some (.inr 29), some (.inl x1), none] [] M := by
  refine a_aload_n (pc := 114) dX4_rule_114 rfl ?_
  refine a_getr (pc := 115) dX4_rule_115 f_X4_16 rfl ?_
  refine a_getr (pc := 118) dX4_rule_118 f_X4_65 rfl ?_
  refine a_iload_n (pc := 121) dX4_rule_121 rfl ?_
  refine a_aload_n (pc := 122) dX4_rule_122 rfl ?_
  refine a_getr (pc := 123) dX4_rule_123 f_X4_16 rfl ?_
  refine a_geti (pc := 126) 7 dX4_rule_126 f_X4_30 rfl rfl ?_
  refine a_iast (pc := 129) dX4_rule_129 rfl h.1.1 h.1.2 ?_
  replace h := h.2
  refine a_aload_n (pc := 130) dX4_rule_130 rfl ?_
  refine a_getr (pc := 131) dX4_rule_131 f_X4_7 rfl ?_
  refine a_bipush (pc := 134) dX4_rule_134 (by decide) (cnb rfl) ?_
  refine a_callVv (pc := 136) (d := 1) (st := []) (o := 1) [.inl 40] dX4_rule_136 l_X4_68 in_X9_take se_X9_take rfl rfl rfl ⟨Nat.le_of_ble_eq_true rfl, Nat.le_of_ble_eq_true rfl⟩ ⟨Nat.le_of_ble_eq_true rfl, Nat.le_of_ble_eq_true rfl⟩ (Nat.le_of_ble_eq_true rfl) ?_
  refine Calls.mono (fun r136 M136 hr136 hM136 h => ?_) h
  refine a_aload_n (pc := 139) dX4_rule_139 rfl ?_
  refine a_iconst (pc := 140) dX4_rule_140 (cnb rfl) ?_
  refine a_callVv (pc := 141) (d := 22) (st := []) (o := 29) [.inl 1] dX4_rule_141 l_X4_72 in_X4_condition se_X4_condition rfl rfl rfl ⟨Nat.le_of_ble_eq_true rfl, Nat.le_of_ble_eq_true rfl⟩ ⟨Nat.le_of_ble_eq_true rfl, Nat.le_of_ble_eq_true rfl⟩ (Nat.le_of_ble_eq_true rfl) ?_
  refine Calls.mono (fun r141 M141 hr141 hM141 h => ?_) h
  refine a_aload_n (pc := 144) dX4_rule_144 rfl ?_
  refine a_getr (pc := 145) dX4_rule_145 f_X4_7 rfl ?_
  refine a_bipush (pc := 148) dX4_rule_148 (by decide) (cnb rfl) ?_
  refine a_callVv (pc := 150) (d := 1) (st := []) (o := 1) [.inl 41] dX4_rule_150 l_X4_68 in_X9_take se_X9_take rfl rfl rfl ⟨Nat.le_of_ble_eq_true rfl, Nat.le_of_ble_eq_true rfl⟩ ⟨Nat.le_of_ble_eq_true rfl, Nat.le_of_ble_eq_true rfl⟩ (Nat.le_of_ble_eq_true rfl) ?_
  refine Calls.mono (fun r150 M150 hr150 hM150 h => ?_) h
  refine a_aload_n (pc := 153) dX4_rule_153 rfl ?_
  refine a_getr (pc := 154) dX4_rule_154 f_X4_16 rfl ?_
  refine a_getr (pc := 157) dX4_rule_157 f_X4_75 rfl ?_
  refine a_iload_n (pc := 160) dX4_rule_160 rfl ?_
  refine a_aload_n (pc := 161) dX4_rule_161 rfl ?_
  refine a_getr (pc := 162) dX4_rule_162 f_X4_16 rfl ?_
  refine a_geti (pc := 165) 7 dX4_rule_165 f_X4_30 rfl rfl ?_
  refine a_iast (pc := 168) dX4_rule_168 rfl h.1.1 h.1.2 ?_
  replace h := h.2
  refine a_aload_n (pc := 169) dX4_rule_169 rfl ?_
  refine a_getr (pc := 170) dX4_rule_170 f_X4_16 rfl ?_
  refine a_iload_n (pc := 173) dX4_rule_173 rfl ?_
  refine a_iconst (pc := 174) dX4_rule_174 (cnb rfl) ?_
  refine a_iadd (pc := 175) dX4_rule_175 h.1 ?_
  replace h := h.2
  refine a_puti (pc := 176) 6 dX4_rule_176 f_X4_26 rfl rfl (Or.inl rfl) ?_
  exact a_ret (pc := 179) dX4_rule_179 rfl h
set_option maxHeartbeats 8000000 in
set_option maxRecDepth 20000 in
theorem s_X4_read_0 {Q : Int → Me → Prop}  (a : Int) (M : Me) (h :
    Calls 1 mX9_beginText [.inr 1, .inl a] M (fun r5 M5 =>
    Go (km 24 mX4_read Q) 28 [some (.inr 29), none, some (.inl 1), some (.inl 0)] [] (mput (mput M5 30 6 0) 30 7 0))) :
    Go (km 24 mX4_read Q) 0 [some (.inr 29), some (.inl a), none, none] [] M := by
  refine a_aload_n (pc := 0) dX4_read_0 rfl ?_
  refine a_getr (pc := 1) dX4_read_1 f_X4_7 rfl ?_
  refine a_iload_n (pc := 4) dX4_read_4 rfl ?_
  refine a_callVv (pc := 5) (d := 1) (st := []) (o := 1) [.inl a] dX4_read_5 l_X4_20 in_X9_beginText se_X9_beginText rfl rfl rfl ⟨Nat.le_of_ble_eq_true rfl, Nat.le_of_ble_eq_true rfl⟩ ⟨Nat.le_of_ble_eq_true rfl, Nat.le_of_ble_eq_true rfl⟩ (Nat.le_of_ble_eq_true rfl) ?_
  refine Calls.mono (fun r5 M5 hr5 hM5 h => ?_) h
  refine a_aload_n (pc := 8) dX4_read_8 rfl ?_
  refine a_getr (pc := 9) dX4_read_9 f_X4_16 rfl ?_
  refine a_iconst (pc := 12) dX4_read_12 (cnb rfl) ?_
  refine a_puti (pc := 13) 6 dX4_read_13 f_X4_26 rfl rfl (Or.inl rfl) ?_
  refine a_aload_n (pc := 16) dX4_read_16 rfl ?_
  refine a_getr (pc := 17) dX4_read_17 f_X4_16 rfl ?_
  refine a_iconst (pc := 20) dX4_read_20 (cnb rfl) ?_
  refine a_puti (pc := 21) 7 dX4_read_21 f_X4_30 rfl rfl (Or.inl rfl) ?_
  refine a_iconst (pc := 24) dX4_read_24 (cnb rfl) ?_
  refine a_istore_n (pc := 25) dX4_read_25 (Nat.le_of_ble_eq_true rfl) ?_
  refine a_iconst (pc := 26) dX4_read_26 (cnb rfl) ?_
  refine a_istore_n (pc := 27) dX4_read_27 (Nat.le_of_ble_eq_true rfl) ?_
  exact Go.weak h (And.intro rfl (And.intro rfl (And.intro rfl True.intro)))
set_option maxHeartbeats 8000000 in
set_option maxRecDepth 20000 in
theorem e_X4_read {Q : Int → Me → Prop}  {a : Int} {M : Me} (h :
    Calls 1 mX9_beginText [.inr 1, .inl a] M (fun r5 M5 =>
    Go (km 24 mX4_read Q) 28 [some (.inr 29), none, some (.inl 1), some (.inl 0)] [] (mput (mput M5 30 6 0) 30 7 0))) : Calls 24 mX4_read [.inr 29, .inl a] M Q := Calls.of (by decide) (Nat.le_of_ble_eq_true rfl) (s_X4_read_0  a M h)
set_option maxHeartbeats 8000000 in
set_option maxRecDepth 20000 in
theorem s_X4_read_28 {Q : Int → Me → Prop}  (x2 x3 : Int) (M : Me) (h :
    ((16 < x3 →
    Calls 1 mX9_endText [.inr 1, .inl (M 30 6)] M (fun r70 M70 =>
    Q r70 M70)) ∧ (x3 ≤ 16 →
    ((x2 = 0 →
    Calls 1 mX9_endText [.inr 1, .inl (M 30 6)] M (fun r70 M70 =>
    Q r70 M70)) ∧ (x2 ≠ 0 →
    Calls 23 mX4_rule [.inr 29, .inl x3] M (fun r40 M40 =>
    Calls 1 mX9_mayTake [.inr 1, .inl 59] M40 (fun r49 M49 =>
    cn (x3 + 1) ∧
    Go (km 24 mX4_read Q) 28 [some (.inr 29), none, some (.inl r49), some (.inl (x3 + 1))] [] M49))))))) :
    Go (km 24 mX4_read Q) 28 [some (.inr 29), none, some (.inl x2), some (.inl x3)] [] M := by
  refine a_iload_n (pc := 28) dX4_read_28 rfl ?_
  refine a_bipush (pc := 29) dX4_read_29 (by decide) (cnb rfl) ?_
  refine a_icmp_gt (pc := 31) 59 dX4_read_31 rfl ⟨fun hc => ?_, fun hc => ?_⟩
  · replace h := h.1 hc
    refine a_aload_n (pc := 59) dX4_read_59 rfl ?_
    refine a_getr (pc := 60) dX4_read_60 f_X4_7 rfl ?_
    refine a_aload_n (pc := 63) dX4_read_63 rfl ?_
    refine a_getr (pc := 64) dX4_read_64 f_X4_16 rfl ?_
    refine a_geti (pc := 67) 6 dX4_read_67 f_X4_26 rfl rfl ?_
    refine a_callVi (pc := 70) (d := 1) (st := []) (o := 1) [.inl (M 30 6)] dX4_read_70 l_X4_40 in_X9_endText se_X9_endText rfl rfl rfl ⟨Nat.le_of_ble_eq_true rfl, Nat.le_of_ble_eq_true rfl⟩ ⟨Nat.le_of_ble_eq_true rfl, Nat.le_of_ble_eq_true rfl⟩ (Nat.le_of_ble_eq_true rfl) ?_
    refine Calls.mono (fun r70 M70 hr70 hM70 h => ?_) h
    exact a_iretI (pc := 73) dX4_read_73 rfl h
  · replace h := h.2 hc
    refine a_iload_n (pc := 34) dX4_read_34 rfl ?_
    refine a_if_eq (pc := 35) 59 dX4_read_35 rfl ⟨fun hc => ?_, fun hc => ?_⟩
    · replace h := h.1 hc
      refine a_aload_n (pc := 59) dX4_read_59 rfl ?_
      refine a_getr (pc := 60) dX4_read_60 f_X4_7 rfl ?_
      refine a_aload_n (pc := 63) dX4_read_63 rfl ?_
      refine a_getr (pc := 64) dX4_read_64 f_X4_16 rfl ?_
      refine a_geti (pc := 67) 6 dX4_read_67 f_X4_26 rfl rfl ?_
      refine a_callVi (pc := 70) (d := 1) (st := []) (o := 1) [.inl (M 30 6)] dX4_read_70 l_X4_40 in_X9_endText se_X9_endText rfl rfl rfl ⟨Nat.le_of_ble_eq_true rfl, Nat.le_of_ble_eq_true rfl⟩ ⟨Nat.le_of_ble_eq_true rfl, Nat.le_of_ble_eq_true rfl⟩ (Nat.le_of_ble_eq_true rfl) ?_
      refine Calls.mono (fun r70 M70 hr70 hM70 h => ?_) h
      exact a_iretI (pc := 73) dX4_read_73 rfl h
    · replace h := h.2 hc
      refine a_aload_n (pc := 38) dX4_read_38 rfl ?_
      refine a_iload_n (pc := 39) dX4_read_39 rfl ?_
      refine a_callVv (pc := 40) (d := 23) (st := []) (o := 29) [.inl x3] dX4_read_40 l_X4_33 in_X4_rule se_X4_rule rfl rfl rfl ⟨Nat.le_of_ble_eq_true rfl, Nat.le_of_ble_eq_true rfl⟩ ⟨Nat.le_of_ble_eq_true rfl, Nat.le_of_ble_eq_true rfl⟩ (Nat.le_of_ble_eq_true rfl) ?_
      refine Calls.mono (fun r40 M40 hr40 hM40 h => ?_) h
      refine a_aload_n (pc := 43) dX4_read_43 rfl ?_
      refine a_getr (pc := 44) dX4_read_44 f_X4_7 rfl ?_
      refine a_bipush (pc := 47) dX4_read_47 (by decide) (cnb rfl) ?_
      refine a_callVi (pc := 49) (d := 1) (st := []) (o := 1) [.inl 59] dX4_read_49 l_X4_36 in_X9_mayTake se_X9_mayTake rfl rfl rfl ⟨Nat.le_of_ble_eq_true rfl, Nat.le_of_ble_eq_true rfl⟩ ⟨Nat.le_of_ble_eq_true rfl, Nat.le_of_ble_eq_true rfl⟩ (Nat.le_of_ble_eq_true rfl) ?_
      refine Calls.mono (fun r49 M49 hr49 hM49 h => ?_) h
      refine a_istore_n (pc := 52) dX4_read_52 (Nat.le_of_ble_eq_true rfl) ?_
      refine a_iinc (pc := 53) dX4_read_53 rfl h.1 (Nat.le_of_ble_eq_true rfl) ?_
      replace h := h.2
      refine a_goto (pc := 56) 28 dX4_read_56 rfl ?_
      exact h
set_option maxHeartbeats 8000000 in
set_option maxRecDepth 20000 in
theorem s_X3_copyOf_0 {Q : Int → Me → Prop}  (M : Me) (h :
    Q 0 (mput (mput (mcopy (mcopy (mcopy (mcopy (mcopy M 31 23 16) 32 24 16) 33 25 16) 34 26 16) 35 27 240) 22 6 (M 30 6)) 22 7 (M 30 7))) :
    Go (km 1 mX3_copyOf Q) 0 [some (.inr 22), some (.inr 30)] [] M := by
  refine a_aload_n (pc := 0) dX3_copyOf_0 rfl ?_
  refine a_getr (pc := 1) dX3_copyOf_1 f_X3_9 rfl ?_
  refine a_iconst (pc := 4) dX3_copyOf_4 (cnb rfl) ?_
  refine a_aload_n (pc := 5) dX3_copyOf_5 rfl ?_
  refine a_getr (pc := 6) dX3_copyOf_6 f_X3_9 rfl ?_
  refine a_iconst (pc := 9) dX3_copyOf_9 (cnb rfl) ?_
  refine a_bipush (pc := 10) dX3_copyOf_10 (by decide) (cnb rfl) ?_
  refine a_acopy (pc := 12) dX3_copyOf_12 ml_X3_39 ac_nat ac_st ac_ini rfl rfl (by decide) (by decide) (by decide) ⟨Nat.le_of_ble_eq_true rfl, Nat.le_of_ble_eq_true rfl⟩ (Nat.le_of_ble_eq_true rfl) ?_
  refine a_aload_n (pc := 15) dX3_copyOf_15 rfl ?_
  refine a_getr (pc := 16) dX3_copyOf_16 f_X3_13 rfl ?_
  refine a_iconst (pc := 19) dX3_copyOf_19 (cnb rfl) ?_
  refine a_aload_n (pc := 20) dX3_copyOf_20 rfl ?_
  refine a_getr (pc := 21) dX3_copyOf_21 f_X3_13 rfl ?_
  refine a_iconst (pc := 24) dX3_copyOf_24 (cnb rfl) ?_
  refine a_bipush (pc := 25) dX3_copyOf_25 (by decide) (cnb rfl) ?_
  refine a_acopy (pc := 27) dX3_copyOf_27 ml_X3_39 ac_nat ac_st ac_ini rfl rfl (by decide) (by decide) (by decide) ⟨Nat.le_of_ble_eq_true rfl, Nat.le_of_ble_eq_true rfl⟩ (Nat.le_of_ble_eq_true rfl) ?_
  refine a_aload_n (pc := 30) dX3_copyOf_30 rfl ?_
  refine a_getr (pc := 31) dX3_copyOf_31 f_X3_16 rfl ?_
  refine a_iconst (pc := 34) dX3_copyOf_34 (cnb rfl) ?_
  refine a_aload_n (pc := 35) dX3_copyOf_35 rfl ?_
  refine a_getr (pc := 36) dX3_copyOf_36 f_X3_16 rfl ?_
  refine a_iconst (pc := 39) dX3_copyOf_39 (cnb rfl) ?_
  refine a_bipush (pc := 40) dX3_copyOf_40 (by decide) (cnb rfl) ?_
  refine a_acopy (pc := 42) dX3_copyOf_42 ml_X3_39 ac_nat ac_st ac_ini rfl rfl (by decide) (by decide) (by decide) ⟨Nat.le_of_ble_eq_true rfl, Nat.le_of_ble_eq_true rfl⟩ (Nat.le_of_ble_eq_true rfl) ?_
  refine a_aload_n (pc := 45) dX3_copyOf_45 rfl ?_
  refine a_getr (pc := 46) dX3_copyOf_46 f_X3_19 rfl ?_
  refine a_iconst (pc := 49) dX3_copyOf_49 (cnb rfl) ?_
  refine a_aload_n (pc := 50) dX3_copyOf_50 rfl ?_
  refine a_getr (pc := 51) dX3_copyOf_51 f_X3_19 rfl ?_
  refine a_iconst (pc := 54) dX3_copyOf_54 (cnb rfl) ?_
  refine a_bipush (pc := 55) dX3_copyOf_55 (by decide) (cnb rfl) ?_
  refine a_acopy (pc := 57) dX3_copyOf_57 ml_X3_39 ac_nat ac_st ac_ini rfl rfl (by decide) (by decide) (by decide) ⟨Nat.le_of_ble_eq_true rfl, Nat.le_of_ble_eq_true rfl⟩ (Nat.le_of_ble_eq_true rfl) ?_
  refine a_aload_n (pc := 60) dX3_copyOf_60 rfl ?_
  refine a_getr (pc := 61) dX3_copyOf_61 f_X3_22 rfl ?_
  refine a_iconst (pc := 64) dX3_copyOf_64 (cnb rfl) ?_
  refine a_aload_n (pc := 65) dX3_copyOf_65 rfl ?_
  refine a_getr (pc := 66) dX3_copyOf_66 f_X3_22 rfl ?_
  refine a_iconst (pc := 69) dX3_copyOf_69 (cnb rfl) ?_
  refine a_sipush (pc := 70) dX3_copyOf_70 (by decide) (cnb rfl) ?_
  refine a_acopy (pc := 73) dX3_copyOf_73 ml_X3_39 ac_nat ac_st ac_ini rfl rfl (by decide) (by decide) (by decide) ⟨Nat.le_of_ble_eq_true rfl, Nat.le_of_ble_eq_true rfl⟩ (Nat.le_of_ble_eq_true rfl) ?_
  refine a_aload_n (pc := 76) dX3_copyOf_76 rfl ?_
  refine a_aload_n (pc := 77) dX3_copyOf_77 rfl ?_
  refine a_getiE (pc := 78) (M 30 6) 6 dX3_copyOf_78 f_X3_28 rfl rfl ((mcopy_ne _ _ _ (by decide)).trans ((mcopy_ne _ _ _ (by decide)).trans ((mcopy_ne _ _ _ (by decide)).trans ((mcopy_ne _ _ _ (by decide)).trans (mcopy_ne _ _ _ (by decide)))))) ?_
  refine a_puti (pc := 81) 6 dX3_copyOf_81 f_X3_28 rfl rfl (Or.inl rfl) ?_
  refine a_aload_n (pc := 84) dX3_copyOf_84 rfl ?_
  refine a_aload_n (pc := 85) dX3_copyOf_85 rfl ?_
  refine a_getiE (pc := 86) (M 30 7) 7 dX3_copyOf_86 f_X3_32 rfl rfl ((mput_ne _ _ _ _ (by decide)).trans ((mcopy_ne _ _ _ (by decide)).trans ((mcopy_ne _ _ _ (by decide)).trans ((mcopy_ne _ _ _ (by decide)).trans ((mcopy_ne _ _ _ (by decide)).trans (mcopy_ne _ _ _ (by decide))))))) ?_
  refine a_puti (pc := 89) 7 dX3_copyOf_89 f_X3_32 rfl rfl (Or.inl rfl) ?_
  exact a_ret (pc := 92) dX3_copyOf_92 rfl h
set_option maxHeartbeats 8000000 in
set_option maxRecDepth 20000 in
theorem e_X3_copyOf {Q : Int → Me → Prop}  {M : Me} (h :
    Q 0 (mput (mput (mcopy (mcopy (mcopy (mcopy (mcopy M 31 23 16) 32 24 16) 33 25 16) 34 26 16) 35 27 240) 22 6 (M 30 6)) 22 7 (M 30 7))) : Calls 1 mX3_copyOf [.inr 22, .inr 30] M Q := Calls.of (by decide) (Nat.le_of_ble_eq_true rfl) (s_X3_copyOf_0   M h)
set_option maxHeartbeats 8000000 in
set_option maxRecDepth 20000 in
theorem s_X11_law_0 {Q : Int → Me → Prop}  (a : Int) (M : Me) (h :
    ((a < 1 →
    Q (-1) M) ∧ (1 ≤ a →
    ((240 < a →
    Q (-1) M) ∧ (a ≤ 240 →
    ((a ≤ M 1 1 →
    Calls 24 mX4_read [.inr 29, .inl a] M (fun r30 M30 =>
    ((r30 ≤ 0 →
    Q r30 (mput M30 1 1 0)) ∧ (0 < r30 →
    Calls 1 mX3_copyOf [.inr 22, .inr 30] (mput M30 1 1 0) (fun r56 M56 =>
    Q r30 M56))))) ∧ (M 1 1 < a →
    Q (-1) M))))))) :
    Go (km 25 mX11_law Q) 0 [some (.inr 0), some (.inl a), none] [] M := by
  refine a_iload_n (pc := 0) dX11_law_0 rfl ?_
  refine a_iconst (pc := 1) dX11_law_1 (cnb rfl) ?_
  refine a_icmp_lt (pc := 2) 23 dX11_law_2 rfl ⟨fun hc => ?_, fun hc => ?_⟩
  · replace h := h.1 hc
    refine a_iconst (pc := 23) dX11_law_23 (cnb rfl) ?_
    exact a_iretI (pc := 24) dX11_law_24 rfl h
  · replace h := h.2 hc
    refine a_iload_n (pc := 5) dX11_law_5 rfl ?_
    refine a_sipush (pc := 6) dX11_law_6 (by decide) (cnb rfl) ?_
    refine a_icmp_gt (pc := 9) 23 dX11_law_9 rfl ⟨fun hc => ?_, fun hc => ?_⟩
    · replace h := h.1 hc
      refine a_iconst (pc := 23) dX11_law_23 (cnb rfl) ?_
      exact a_iretI (pc := 24) dX11_law_24 rfl h
    · replace h := h.2 hc
      refine a_iload_n (pc := 12) dX11_law_12 rfl ?_
      refine a_aload_n (pc := 13) dX11_law_13 rfl ?_
      refine a_getr (pc := 14) dX11_law_14 f_X11_10 rfl ?_
      refine a_geti (pc := 17) 1 dX11_law_17 f_X11_118 rfl rfl ?_
      refine a_icmp_le (pc := 20) 25 dX11_law_20 rfl ⟨fun hc => ?_, fun hc => ?_⟩
      · replace h := h.1 hc
        refine a_aload_n (pc := 25) dX11_law_25 rfl ?_
        refine a_getr (pc := 26) dX11_law_26 f_X11_42 rfl ?_
        refine a_iload_n (pc := 29) dX11_law_29 rfl ?_
        refine a_callVi (pc := 30) (d := 24) (st := []) (o := 29) [.inl a] dX11_law_30 l_X11_125 in_X4_read se_X4_read rfl rfl rfl ⟨Nat.le_of_ble_eq_true rfl, Nat.le_of_ble_eq_true rfl⟩ ⟨Nat.le_of_ble_eq_true rfl, Nat.le_of_ble_eq_true rfl⟩ (Nat.le_of_ble_eq_true rfl) ?_
        refine Calls.mono (fun r30 M30 hr30 hM30 h => ?_) h
        refine a_istore_n (pc := 33) dX11_law_33 (Nat.le_of_ble_eq_true rfl) ?_
        refine a_aload_n (pc := 34) dX11_law_34 rfl ?_
        refine a_getr (pc := 35) dX11_law_35 f_X11_10 rfl ?_
        refine a_callVv (pc := 38) (d := 0) (st := []) (o := 1) [] dX11_law_38 l_X11_129 in_X9_clear se_X9_clear rfl rfl rfl ⟨Nat.le_of_ble_eq_true rfl, Nat.le_of_ble_eq_true rfl⟩ ⟨Nat.le_of_ble_eq_true rfl, Nat.le_of_ble_eq_true rfl⟩ (Nat.le_of_ble_eq_true rfl) ?_
        refine p_X9_clear ?_
        refine a_iload_n (pc := 41) dX11_law_41 rfl ?_
        refine a_if_le (pc := 42) 59 dX11_law_42 rfl ⟨fun hc => ?_, fun hc => ?_⟩
        · replace h := h.1 hc
          refine a_iload_n (pc := 59) dX11_law_59 rfl ?_
          exact a_iretI (pc := 60) dX11_law_60 rfl h
        · replace h := h.2 hc
          refine a_aload_n (pc := 45) dX11_law_45 rfl ?_
          refine a_getr (pc := 46) dX11_law_46 f_X11_35 rfl ?_
          refine a_aload_n (pc := 49) dX11_law_49 rfl ?_
          refine a_getr (pc := 50) dX11_law_50 f_X11_42 rfl ?_
          refine a_getr (pc := 53) dX11_law_53 f_X11_132 rfl ?_
          refine a_callVv (pc := 56) (d := 1) (st := []) (o := 22) [.inr 30] dX11_law_56 l_X11_135 in_X3_copyOf se_X3_copyOf rfl rfl rfl ⟨Nat.le_of_ble_eq_true rfl, Nat.le_of_ble_eq_true rfl⟩ ⟨Nat.le_of_ble_eq_true rfl, Nat.le_of_ble_eq_true rfl⟩ (Nat.le_of_ble_eq_true rfl) ?_
          refine Calls.mono (fun r56 M56 hr56 hM56 h => ?_) h
          refine a_iload_n (pc := 59) dX11_law_59 rfl ?_
          exact a_iretI (pc := 60) dX11_law_60 rfl h
      · replace h := h.2 hc
        refine a_iconst (pc := 23) dX11_law_23 (cnb rfl) ?_
        exact a_iretI (pc := 24) dX11_law_24 rfl h
set_option maxHeartbeats 8000000 in
set_option maxRecDepth 20000 in
theorem e_X11_law {Q : Int → Me → Prop}  {a : Int} {M : Me} (h :
    ((a < 1 →
    Q (-1) M) ∧ (1 ≤ a →
    ((240 < a →
    Q (-1) M) ∧ (a ≤ 240 →
    ((a ≤ M 1 1 →
    Calls 24 mX4_read [.inr 29, .inl a] M (fun r30 M30 =>
    ((r30 ≤ 0 →
    Q r30 (mput M30 1 1 0)) ∧ (0 < r30 →
    Calls 1 mX3_copyOf [.inr 22, .inr 30] (mput M30 1 1 0) (fun r56 M56 =>
    Q r30 M56))))) ∧ (M 1 1 < a →
    Q (-1) M))))))) : Calls 25 mX11_law [.inr 0, .inl a] M Q := Calls.of (by decide) (Nat.le_of_ble_eq_true rfl) (s_X11_law_0  a M h)
set_option maxHeartbeats 8000000 in
set_option maxRecDepth 20000 in
theorem s_X12_law_0 {Q : Int → Me → Prop}  (a : Int) (M : Me) (h :
    ((1 ≤ a ∧ a ≤ 240 →
    ((a ≤ M 76 13 →
    Calls 0 mX12_beginsText [.inr 76, .inl a] M (fun r23 M23 =>
    Calls 7 mX12_readsRule [.inr 76] M23 (fun r27 M27 =>
    Go (km 8 mX12_law Q) 31 [some (.inr 76), none, some (.inl r27), none] [] M27))) ∧ (M 76 13 < a →
    Q (-1) M))) ∧ (¬ (1 ≤ a ∧ a ≤ 240) →
    Q (-1) M))) :
    Go (km 8 mX12_law Q) 0 [some (.inr 76), some (.inl a), none, none] [] M := by
  refine a_iload_n (pc := 0) dX12_law_0 rfl ?_
  refine a_iconst (pc := 1) dX12_law_1 (cnb rfl) ?_
  refine a_sipush (pc := 2) dX12_law_2 (by decide) (cnb rfl) ?_
  refine a_callSi (pc := 5) (d := 0) (st := []) [.inl a, .inl 1, .inl 240] dX12_law_5 l_X12_156 st_X12_in rfl ⟨Nat.le_of_ble_eq_true rfl, Nat.le_of_ble_eq_true rfl⟩ ⟨Nat.le_of_ble_eq_true rfl, Nat.le_of_ble_eq_true rfl⟩ (Nat.le_of_ble_eq_true rfl) ?_
  refine p_X12_in ⟨fun hc => ?_, fun hc => ?_⟩
  · replace h := h.1 hc
    refine a_if_eq (pc := 8) 19 dX12_law_8 rfl ⟨fun hc => absurd hc (by decide), fun _ => ?_⟩
    refine a_iload_n (pc := 11) dX12_law_11 rfl ?_
    refine a_aload_n (pc := 12) dX12_law_12 rfl ?_
    refine a_geti (pc := 13) 13 dX12_law_13 f_X12_168 rfl rfl ?_
    refine a_icmp_le (pc := 16) 21 dX12_law_16 rfl ⟨fun hc => ?_, fun hc => ?_⟩
    · replace h := h.1 hc
      refine a_aload_n (pc := 21) dX12_law_21 rfl ?_
      refine a_iload_n (pc := 22) dX12_law_22 rfl ?_
      refine a_callVv (pc := 23) (d := 0) (st := []) (o := 76) [.inl a] dX12_law_23 l_X12_259 in_X12_beginsText se_X12_beginsText rfl rfl rfl ⟨Nat.le_of_ble_eq_true rfl, Nat.le_of_ble_eq_true rfl⟩ ⟨Nat.le_of_ble_eq_true rfl, Nat.le_of_ble_eq_true rfl⟩ (Nat.le_of_ble_eq_true rfl) ?_
      refine Calls.mono (fun r23 M23 hr23 hM23 h => ?_) h
      refine a_aload_n (pc := 26) dX12_law_26 rfl ?_
      refine a_callVi (pc := 27) (d := 7) (st := []) (o := 76) [] dX12_law_27 l_X12_262 in_X12_readsRule se_X12_readsRule rfl rfl rfl ⟨Nat.le_of_ble_eq_true rfl, Nat.le_of_ble_eq_true rfl⟩ ⟨Nat.le_of_ble_eq_true rfl, Nat.le_of_ble_eq_true rfl⟩ (Nat.le_of_ble_eq_true rfl) ?_
      refine Calls.mono (fun r27 M27 hr27 hM27 h => ?_) h
      refine a_istore_n (pc := 30) dX12_law_30 (Nat.le_of_ble_eq_true rfl) ?_
      exact Go.weak h (And.intro rfl (And.intro rfl True.intro))
    · replace h := h.2 hc
      refine a_iconst (pc := 19) dX12_law_19 (cnb rfl) ?_
      exact a_iretI (pc := 20) dX12_law_20 rfl h
  · replace h := h.2 hc
    refine a_if_eq (pc := 8) 19 dX12_law_8 rfl ⟨fun _ => ?_, fun hc => absurd hc (by decide)⟩
    refine a_iconst (pc := 19) dX12_law_19 (cnb rfl) ?_
    exact a_iretI (pc := 20) dX12_law_20 rfl h
set_option maxHeartbeats 8000000 in
set_option maxRecDepth 20000 in
theorem e_X12_law {Q : Int → Me → Prop}  {a : Int} {M : Me} (h :
    ((1 ≤ a ∧ a ≤ 240 →
    ((a ≤ M 76 13 →
    Calls 0 mX12_beginsText [.inr 76, .inl a] M (fun r23 M23 =>
    Calls 7 mX12_readsRule [.inr 76] M23 (fun r27 M27 =>
    Go (km 8 mX12_law Q) 31 [some (.inr 76), none, some (.inl r27), none] [] M27))) ∧ (M 76 13 < a →
    Q (-1) M))) ∧ (¬ (1 ≤ a ∧ a ≤ 240) →
    Q (-1) M))) : Calls 8 mX12_law [.inr 76, .inl a] M Q := Calls.of (by decide) (Nat.le_of_ble_eq_true rfl) (s_X12_law_0  a M h)
set_option maxHeartbeats 8000000 in
set_option maxRecDepth 20000 in
theorem s_X12_law_31 {Q : Int → Me → Prop}  (x2 : Int) (M : Me) (h :
    ((x2 = 0 →
    ((x2 ≠ 0 →
    Go (km 8 mX12_law Q) 95 [some (.inr 76), none, none, some (.inl 0)] [] (mput (mput M 76 13 0) 76 22 (M 76 21))) ∧ (x2 = 0 →
    Q (M 76 16) (mput M 76 13 0)))) ∧ (x2 ≠ 0 →
    ((M 76 15 ≤ M 76 14 →
    ((x2 ≠ 0 →
    Go (km 8 mX12_law Q) 95 [some (.inr 76), none, none, some (.inl 0)] [] (mput (mput M 76 13 0) 76 22 (M 76 21))) ∧ (x2 = 0 →
    Q (M 76 16) (mput M 76 13 0)))) ∧ (M 76 14 < M 76 15 →
    Calls 1 mX12_takes [.inr 76, .inl 59] M (fun r49 M49 =>
    ((r49 = 0 →
    Go (km 8 mX12_law Q) 31 [some (.inr 76), none, some (.inl 0), none] [] M49) ∧ (r49 ≠ 0 →
    Calls 7 mX12_readsRule [.inr 76] M49 (fun r56 M56 =>
    ((r56 = 0 →
    Go (km 8 mX12_law Q) 31 [some (.inr 76), none, some (.inl 0), none] [] M56) ∧ (r56 ≠ 0 →
    Go (km 8 mX12_law Q) 31 [some (.inr 76), none, some (.inl 1), none] [] M56))))))))))) :
    Go (km 8 mX12_law Q) 31 [some (.inr 76), none, some (.inl x2), none] [] M := by
  refine a_iload_n (pc := 31) dX12_law_31 rfl ?_
  refine a_if_eq (pc := 32) 71 dX12_law_32 rfl ⟨fun hc => ?_, fun hc => ?_⟩
  · replace h := h.1 hc
    refine a_aload_n (pc := 71) dX12_law_71 rfl ?_
    refine a_iconst (pc := 72) dX12_law_72 (cnb rfl) ?_
    refine a_puti (pc := 73) 13 dX12_law_73 f_X12_168 rfl rfl (Or.inl rfl) ?_
    refine a_iload_n (pc := 76) dX12_law_76 rfl ?_
    refine a_if_ne (pc := 77) 85 dX12_law_77 rfl ⟨fun hc => ?_, fun hc => ?_⟩
    · replace h := h.1 hc
      refine a_aload_n (pc := 85) dX12_law_85 rfl ?_
      refine a_aload_n (pc := 86) dX12_law_86 rfl ?_
      refine a_getiE (pc := 87) (M 76 21) 21 dX12_law_87 f_X12_253 rfl rfl (mput_ni _ _ _ _ (by decide)) ?_
      refine a_puti (pc := 90) 22 dX12_law_90 f_X12_268 rfl rfl (Or.inl rfl) ?_
      refine a_iconst (pc := 93) dX12_law_93 (cnb rfl) ?_
      refine a_istore_n (pc := 94) dX12_law_94 (Nat.le_of_ble_eq_true rfl) ?_
      exact Go.weak h (And.intro rfl (And.intro rfl True.intro))
    · replace h := h.2 hc
      refine a_aload_n (pc := 80) dX12_law_80 rfl ?_
      refine a_getiE (pc := 81) (M 76 16) 16 dX12_law_81 f_X12_185 rfl rfl (mput_ni _ _ _ _ (by decide)) ?_
      exact a_iretI (pc := 84) dX12_law_84 rfl h
  · replace h := h.2 hc
    refine a_aload_n (pc := 35) dX12_law_35 rfl ?_
    refine a_geti (pc := 36) 14 dX12_law_36 f_X12_175 rfl rfl ?_
    refine a_aload_n (pc := 39) dX12_law_39 rfl ?_
    refine a_geti (pc := 40) 15 dX12_law_40 f_X12_178 rfl rfl ?_
    refine a_icmp_ge (pc := 43) 71 dX12_law_43 rfl ⟨fun hc => ?_, fun hc => ?_⟩
    · replace h := h.1 hc
      refine a_aload_n (pc := 71) dX12_law_71 rfl ?_
      refine a_iconst (pc := 72) dX12_law_72 (cnb rfl) ?_
      refine a_puti (pc := 73) 13 dX12_law_73 f_X12_168 rfl rfl (Or.inl rfl) ?_
      refine a_iload_n (pc := 76) dX12_law_76 rfl ?_
      refine a_if_ne (pc := 77) 85 dX12_law_77 rfl ⟨fun hc => ?_, fun hc => ?_⟩
      · replace h := h.1 hc
        refine a_aload_n (pc := 85) dX12_law_85 rfl ?_
        refine a_aload_n (pc := 86) dX12_law_86 rfl ?_
        refine a_getiE (pc := 87) (M 76 21) 21 dX12_law_87 f_X12_253 rfl rfl (mput_ni _ _ _ _ (by decide)) ?_
        refine a_puti (pc := 90) 22 dX12_law_90 f_X12_268 rfl rfl (Or.inl rfl) ?_
        refine a_iconst (pc := 93) dX12_law_93 (cnb rfl) ?_
        refine a_istore_n (pc := 94) dX12_law_94 (Nat.le_of_ble_eq_true rfl) ?_
        exact Go.weak h (And.intro rfl (And.intro rfl True.intro))
      · replace h := h.2 hc
        refine a_aload_n (pc := 80) dX12_law_80 rfl ?_
        refine a_getiE (pc := 81) (M 76 16) 16 dX12_law_81 f_X12_185 rfl rfl (mput_ni _ _ _ _ (by decide)) ?_
        exact a_iretI (pc := 84) dX12_law_84 rfl h
    · replace h := h.2 hc
      refine a_aload_n (pc := 46) dX12_law_46 rfl ?_
      refine a_bipush (pc := 47) dX12_law_47 (by decide) (cnb rfl) ?_
      refine a_callVi (pc := 49) (d := 1) (st := []) (o := 76) [.inl 59] dX12_law_49 l_X12_265 in_X12_takes se_X12_takes rfl rfl rfl ⟨Nat.le_of_ble_eq_true rfl, Nat.le_of_ble_eq_true rfl⟩ ⟨Nat.le_of_ble_eq_true rfl, Nat.le_of_ble_eq_true rfl⟩ (Nat.le_of_ble_eq_true rfl) ?_
      refine Calls.mono (fun r49 M49 hr49 hM49 h => ?_) h
      refine a_if_eq (pc := 52) 66 dX12_law_52 rfl ⟨fun hc => ?_, fun hc => ?_⟩
      · replace h := h.1 hc
        refine a_iconst (pc := 66) dX12_law_66 (cnb rfl) ?_
        refine a_istore_n (pc := 67) dX12_law_67 (Nat.le_of_ble_eq_true rfl) ?_
        refine a_goto (pc := 68) 31 dX12_law_68 rfl ?_
        exact h
      · replace h := h.2 hc
        refine a_aload_n (pc := 55) dX12_law_55 rfl ?_
        refine a_callVi (pc := 56) (d := 7) (st := []) (o := 76) [] dX12_law_56 l_X12_262 in_X12_readsRule se_X12_readsRule rfl rfl rfl ⟨Nat.le_of_ble_eq_true rfl, Nat.le_of_ble_eq_true rfl⟩ ⟨Nat.le_of_ble_eq_true rfl, Nat.le_of_ble_eq_true rfl⟩ (Nat.le_of_ble_eq_true rfl) ?_
        refine Calls.mono (fun r56 M56 hr56 hM56 h => ?_) h
        refine a_if_eq (pc := 59) 66 dX12_law_59 rfl ⟨fun hc => ?_, fun hc => ?_⟩
        · replace h := h.1 hc
          refine a_iconst (pc := 66) dX12_law_66 (cnb rfl) ?_
          refine a_istore_n (pc := 67) dX12_law_67 (Nat.le_of_ble_eq_true rfl) ?_
          refine a_goto (pc := 68) 31 dX12_law_68 rfl ?_
          exact h
        · replace h := h.2 hc
          refine a_iconst (pc := 62) dX12_law_62 (cnb rfl) ?_
          refine a_goto (pc := 63) 67 dX12_law_63 rfl ?_
          refine a_istore_n (pc := 67) dX12_law_67 (Nat.le_of_ble_eq_true rfl) ?_
          refine a_goto (pc := 68) 31 dX12_law_68 rfl ?_
          exact h
set_option maxHeartbeats 8000000 in
set_option maxRecDepth 20000 in
theorem s_X12_law_95 {Q : Int → Me → Prop}  (x3 : Int) (M : Me) (h :
    ((M 76 19 ≤ x3 →
    Go (km 8 mX12_law Q) 123 [some (.inr 76), none, none, some (.inl 0)] [] M) ∧ (x3 < M 76 19 →
    (0 ≤ x3 ∧ x3 < 260) ∧
    (0 ≤ x3 ∧ x3 < 260) ∧
    cn (x3 + 1) ∧
    Go (km 8 mX12_law Q) 95 [some (.inr 76), none, none, some (.inl (x3 + 1))] [] (mput M 95 x3 (M 89 x3))))) :
    Go (km 8 mX12_law Q) 95 [some (.inr 76), none, none, some (.inl x3)] [] M := by
  refine a_iload_n (pc := 95) dX12_law_95 rfl ?_
  refine a_aload_n (pc := 96) dX12_law_96 rfl ?_
  refine a_geti (pc := 97) 19 dX12_law_97 f_X12_199 rfl rfl ?_
  refine a_icmp_ge (pc := 100) 121 dX12_law_100 rfl ⟨fun hc => ?_, fun hc => ?_⟩
  · replace h := h.1 hc
    refine a_iconst (pc := 121) dX12_law_121 (cnb rfl) ?_
    refine a_istore_n (pc := 122) dX12_law_122 (Nat.le_of_ble_eq_true rfl) ?_
    exact h
  · replace h := h.2 hc
    refine a_aload_n (pc := 103) dX12_law_103 rfl ?_
    refine a_getr (pc := 104) dX12_law_104 f_X12_65 rfl ?_
    refine a_iload_n (pc := 107) dX12_law_107 rfl ?_
    refine a_aload_n (pc := 108) dX12_law_108 rfl ?_
    refine a_getr (pc := 109) dX12_law_109 f_X12_47 rfl ?_
    refine a_iload_n (pc := 112) dX12_law_112 rfl ?_
    refine a_iald (pc := 113) dX12_law_113 rfl h.1.1 h.1.2  ?_
    replace h := h.2
    refine a_iast (pc := 114) dX12_law_114 rfl h.1.1 h.1.2 ?_
    replace h := h.2
    refine a_iinc (pc := 115) dX12_law_115 rfl h.1 (Nat.le_of_ble_eq_true rfl) ?_
    replace h := h.2
    refine a_goto (pc := 118) 95 dX12_law_118 rfl ?_
    exact h
set_option maxHeartbeats 8000000 in
set_option maxRecDepth 20000 in
theorem s_X12_law_123 {Q : Int → Me → Prop}  (x3 : Int) (M : Me) (h :
    ((M 76 21 ≤ x3 →
    Q (M 76 21) M) ∧ (x3 < M 76 21 →
    (0 ≤ x3 ∧ x3 < 16) ∧
    (0 ≤ x3 ∧ x3 < 16) ∧
    (0 ≤ x3 ∧ x3 < 16) ∧
    (0 ≤ x3 ∧ x3 < 16) ∧
    (0 ≤ x3 ∧ x3 < 16) ∧
    (0 ≤ x3 ∧ x3 < 16) ∧
    (0 ≤ x3 ∧ x3 < 16) ∧
    (0 ≤ x3 ∧ x3 < 16) ∧
    cn (x3 + 1) ∧
    Go (km 8 mX12_law Q) 123 [some (.inr 76), none, none, some (.inl (x3 + 1))] [] (mput (mput (mput (mput M 96 x3 (M 91 x3)) 97 x3 (M 92 x3)) 98 x3 (M 93 x3)) 99 x3 (M 94 x3))))) :
    Go (km 8 mX12_law Q) 123 [some (.inr 76), none, none, some (.inl x3)] [] M := by
  refine a_iload_n (pc := 123) dX12_law_123 rfl ?_
  refine a_aload_n (pc := 124) dX12_law_124 rfl ?_
  refine a_geti (pc := 125) 21 dX12_law_125 f_X12_253 rfl rfl ?_
  refine a_icmp_ge (pc := 128) 185 dX12_law_128 rfl ⟨fun hc => ?_, fun hc => ?_⟩
  · replace h := h.1 hc
    refine a_aload_n (pc := 185) dX12_law_185 rfl ?_
    refine a_geti (pc := 186) 21 dX12_law_186 f_X12_253 rfl rfl ?_
    exact a_iretI (pc := 189) dX12_law_189 rfl h
  · replace h := h.2 hc
    refine a_aload_n (pc := 131) dX12_law_131 rfl ?_
    refine a_getr (pc := 132) dX12_law_132 f_X12_68 rfl ?_
    refine a_iload_n (pc := 135) dX12_law_135 rfl ?_
    refine a_aload_n (pc := 136) dX12_law_136 rfl ?_
    refine a_getr (pc := 137) dX12_law_137 f_X12_53 rfl ?_
    refine a_iload_n (pc := 140) dX12_law_140 rfl ?_
    refine a_iald (pc := 141) dX12_law_141 rfl h.1.1 h.1.2  ?_
    replace h := h.2
    refine a_iast (pc := 142) dX12_law_142 rfl h.1.1 h.1.2 ?_
    replace h := h.2
    refine a_aload_n (pc := 143) dX12_law_143 rfl ?_
    refine a_getr (pc := 144) dX12_law_144 f_X12_71 rfl ?_
    refine a_iload_n (pc := 147) dX12_law_147 rfl ?_
    refine a_aload_n (pc := 148) dX12_law_148 rfl ?_
    refine a_getr (pc := 149) dX12_law_149 f_X12_56 rfl ?_
    refine a_iload_n (pc := 152) dX12_law_152 rfl ?_
    refine a_ialdE (pc := 153) (M 92 x3) dX12_law_153 rfl h.1.1 h.1.2 (mput_ne _ _ _ _ (by decide)) ?_
    replace h := h.2
    refine a_iast (pc := 154) dX12_law_154 rfl h.1.1 h.1.2 ?_
    replace h := h.2
    refine a_aload_n (pc := 155) dX12_law_155 rfl ?_
    refine a_getr (pc := 156) dX12_law_156 f_X12_74 rfl ?_
    refine a_iload_n (pc := 159) dX12_law_159 rfl ?_
    refine a_aload_n (pc := 160) dX12_law_160 rfl ?_
    refine a_getr (pc := 161) dX12_law_161 f_X12_59 rfl ?_
    refine a_iload_n (pc := 164) dX12_law_164 rfl ?_
    refine a_ialdE (pc := 165) (M 93 x3) dX12_law_165 rfl h.1.1 h.1.2 ((mput_ne _ _ _ _ (by decide)).trans (mput_ne _ _ _ _ (by decide))) ?_
    replace h := h.2
    refine a_iast (pc := 166) dX12_law_166 rfl h.1.1 h.1.2 ?_
    replace h := h.2
    refine a_aload_n (pc := 167) dX12_law_167 rfl ?_
    refine a_getr (pc := 168) dX12_law_168 f_X12_77 rfl ?_
    refine a_iload_n (pc := 171) dX12_law_171 rfl ?_
    refine a_aload_n (pc := 172) dX12_law_172 rfl ?_
    refine a_getr (pc := 173) dX12_law_173 f_X12_62 rfl ?_
    refine a_iload_n (pc := 176) dX12_law_176 rfl ?_
    refine a_ialdE (pc := 177) (M 94 x3) dX12_law_177 rfl h.1.1 h.1.2 ((mput_ne _ _ _ _ (by decide)).trans ((mput_ne _ _ _ _ (by decide)).trans (mput_ne _ _ _ _ (by decide)))) ?_
    replace h := h.2
    refine a_iast (pc := 178) dX12_law_178 rfl h.1.1 h.1.2 ?_
    replace h := h.2
    refine a_iinc (pc := 179) dX12_law_179 rfl h.1 (Nat.le_of_ble_eq_true rfl) ?_
    replace h := h.2
    refine a_goto (pc := 182) 123 dX12_law_182 rfl ?_
    exact h
