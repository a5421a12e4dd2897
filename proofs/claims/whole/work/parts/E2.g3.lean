set_option maxHeartbeats 8000000 in
set_option maxRecDepth 20000 in
theorem s_X4_test_0 {Q : Int → Me → Prop} {k : Nat} (a : Int) (M : Me) (h :
    Calls 0 mX9_sign [.inr 1] M (fun r4 M4 =>
    ((r4 ≠ 33 →
    ((r4 ≠ 40 →
    Calls (zs k) mX4_sum [.inr 29, .inl a] M4 (fun r73 M73 =>
    Calls 0 mX9_sign [.inr 1] M73 (fun r80 M80 =>
    ((r80 = 60 →
    cn ((M80 1 3) + 1) ∧
    Calls (zs k) mX4_sum [.inr 29, .inl a] (mput M80 1 3 ((M80 1 3) + 1)) (fun r133 M133 =>
    Calls 0 mX3_add [.inr 30, .inl (bchr r80), .inl 0] M133 (fun r143 M143 =>
    Q 0 M143))) ∧ (r80 ≠ 60 →
    ((r80 = 62 →
    cn ((M80 1 3) + 1) ∧
    Calls (zs k) mX4_sum [.inr 29, .inl a] (mput M80 1 3 ((M80 1 3) + 1)) (fun r133 M133 =>
    Calls 0 mX3_add [.inr 30, .inl (bchr r80), .inl 0] M133 (fun r143 M143 =>
    Q 0 M143))) ∧ (r80 ≠ 62 →
    ((r80 = 61 →
    cn ((M80 1 3) + 1) ∧
    Calls (zs k) mX4_sum [.inr 29, .inl a] (mput M80 1 3 ((M80 1 3) + 1)) (fun r133 M133 =>
    Calls 0 mX3_add [.inr 30, .inl (bchr r80), .inl 0] M133 (fun r143 M143 =>
    Q 0 M143))) ∧ (r80 ≠ 61 →
    Calls 0 mX9_fail [.inr 1, .inl 1, .inl (M80 1 3)] M80 (fun r114 M114 =>
    Q 0 M114)))))))))) ∧ (r4 = 40 →
    Calls 1 mX4_mayOpen [.inr 29, .inl a] M4 (fun r48 M48 =>
    ((r48 = 0 →
    Q 0 M48) ∧ (r48 ≠ 0 →
    cn (a + 1) ∧
    Calls (zj k) mX4_condition [.inr 29, .inl (a + 1)] M48 (fun r58 M58 =>
    Calls 1 mX9_take [.inr 1, .inl 41] M58 (fun r67 M67 =>
    Q 0 M67)))))))) ∧ (r4 = 33 →
    Calls 1 mX4_mayOpen [.inr 29, .inl a] M4 (fun r16 M16 =>
    ((r16 = 0 →
    Q 0 M16) ∧ (r16 ≠ 0 →
    cn (a + 1) ∧
    Calls (zh k) mX4_test [.inr 29, .inl (a + 1)] M16 (fun r26 M26 =>
    Calls 0 mX3_add [.inr 30, .inl 33, .inl 0] M26 (fun r36 M36 =>
    Q 0 M36))))))))) :
    Go (km (zt k) mX4_test Q) 0 [some (.inr 29), some (.inl a), none, none] [] M := by
  refine a_aload_n (pc := 0) dX4_test_0 rfl ?_
  refine a_getr (pc := 1) dX4_test_1 f_X4_7 rfl ?_
  refine a_callVi (pc := 4) (y := mX9_sign) (d := 0) (st := []) (o := 1) [] dX4_test_4 l_X4_44 in_X9_sign se_X9_sign rfl rfl rfl (roomD (d := 0) (e := zt k) (N := 1) (by have := zfacts k; omega) (Nat.le_of_ble_eq_true rfl)) ⟨Nat.le_of_ble_eq_true rfl, Nat.le_of_ble_eq_true rfl⟩ (Nat.le_of_ble_eq_true rfl) ?_
  refine Calls.mono (fun r4 M4 hr4 hM4 h => ?_) h
  refine a_istore_n (pc := 7) dX4_test_7 (Nat.le_of_ble_eq_true rfl) ?_
  refine a_iload_n (pc := 8) dX4_test_8 rfl ?_
  refine a_bipush (pc := 9) dX4_test_9 (by decide) (cnb rfl) ?_
  refine a_icmp_ne (pc := 11) 40 dX4_test_11 rfl ⟨fun hc => ?_, fun hc => ?_⟩
  · replace h := h.1 hc
    refine a_iload_n (pc := 40) dX4_test_40 rfl ?_
    refine a_bipush (pc := 41) dX4_test_41 (by decide) (cnb rfl) ?_
    refine a_icmp_ne (pc := 43) 71 dX4_test_43 rfl ⟨fun hc => ?_, fun hc => ?_⟩
    · replace h := h.1 hc
      refine a_aload_n (pc := 71) dX4_test_71 rfl ?_
      refine a_iload_n (pc := 72) dX4_test_72 rfl ?_
      refine a_callVv (pc := 73) (y := mX4_sum) (d := zs k) (st := []) (o := 29) [.inl a] dX4_test_73 l_X4_62 in_X4_sum se_X4_sum rfl rfl rfl (roomD (d := zs k) (e := zt k) (N := 7) (by have := zfacts k; omega) (Nat.le_of_ble_eq_true rfl)) ⟨Nat.le_of_ble_eq_true rfl, Nat.le_of_ble_eq_true rfl⟩ (Nat.le_of_ble_eq_true rfl) ?_
      refine Calls.mono (fun r73 M73 hr73 hM73 h => ?_) h
      refine a_aload_n (pc := 76) dX4_test_76 rfl ?_
      refine a_getr (pc := 77) dX4_test_77 f_X4_7 rfl ?_
      refine a_callVi (pc := 80) (y := mX9_sign) (d := 0) (st := []) (o := 1) [] dX4_test_80 l_X4_44 in_X9_sign se_X9_sign rfl rfl rfl (roomD (d := 0) (e := zt k) (N := 1) (by have := zfacts k; omega) (Nat.le_of_ble_eq_true rfl)) ⟨Nat.le_of_ble_eq_true rfl, Nat.le_of_ble_eq_true rfl⟩ (Nat.le_of_ble_eq_true rfl) ?_
      refine Calls.mono (fun r80 M80 hr80 hM80 h => ?_) h
      refine a_istore_n (pc := 83) dX4_test_83 (Nat.le_of_ble_eq_true rfl) ?_
      refine a_iload_n (pc := 84) dX4_test_84 rfl ?_
      refine a_bipush (pc := 85) dX4_test_85 (by decide) (cnb rfl) ?_
      refine a_icmp_eq (pc := 87) 118 dX4_test_87 rfl ⟨fun hc => ?_, fun hc => ?_⟩
      · replace h := h.1 hc
        refine a_aload_n (pc := 118) dX4_test_118 rfl ?_
        refine a_getr (pc := 119) dX4_test_119 f_X4_7 rfl ?_
        refine a_dup (pc := 122) dX4_test_122 ?_
        refine a_geti (pc := 123) 3 dX4_test_123 f_X4_48 rfl rfl ?_
        refine a_iconst (pc := 126) dX4_test_126 (cnb rfl) ?_
        refine a_iadd (pc := 127) dX4_test_127 h.1 ?_
        replace h := h.2
        refine a_puti (pc := 128) 3 dX4_test_128 f_X4_48 rfl rfl (Or.inl rfl) ?_
        refine a_aload_n (pc := 131) dX4_test_131 rfl ?_
        refine a_iload_n (pc := 132) dX4_test_132 rfl ?_
        refine a_callVv (pc := 133) (y := mX4_sum) (d := zs k) (st := []) (o := 29) [.inl a] dX4_test_133 l_X4_62 in_X4_sum se_X4_sum rfl rfl rfl (roomD (d := zs k) (e := zt k) (N := 7) (by have := zfacts k; omega) (Nat.le_of_ble_eq_true rfl)) ⟨Nat.le_of_ble_eq_true rfl, Nat.le_of_ble_eq_true rfl⟩ (Nat.le_of_ble_eq_true rfl) ?_
        refine Calls.mono (fun r133 M133 hr133 hM133 h => ?_) h
        refine a_aload_n (pc := 136) dX4_test_136 rfl ?_
        refine a_getr (pc := 137) dX4_test_137 f_X4_16 rfl ?_
        refine a_iload_n (pc := 140) dX4_test_140 rfl ?_
        refine a_i2c (pc := 141) dX4_test_141 ?_
        refine a_iconst (pc := 142) dX4_test_142 (cnb rfl) ?_
        refine a_callVv (pc := 143) (y := mX3_add) (d := 0) (st := []) (o := 30) [.inl (bchr r80), .inl 0] dX4_test_143 l_X4_92 in_X3_add se_X3_add rfl rfl rfl (roomD (d := 0) (e := zt k) (N := 3) (by have := zfacts k; omega) (Nat.le_of_ble_eq_true rfl)) ⟨Nat.le_of_ble_eq_true rfl, Nat.le_of_ble_eq_true rfl⟩ (Nat.le_of_ble_eq_true rfl) ?_
        refine Calls.mono (fun r143 M143 hr143 hM143 h => ?_) h
        exact a_ret (pc := 146) dX4_test_146 rfl h
      · replace h := h.2 hc
        refine a_iload_n (pc := 90) dX4_test_90 rfl ?_
        refine a_bipush (pc := 91) dX4_test_91 (by decide) (cnb rfl) ?_
        refine a_icmp_eq (pc := 93) 118 dX4_test_93 rfl ⟨fun hc => ?_, fun hc => ?_⟩
        · replace h := h.1 hc
          refine a_aload_n (pc := 118) dX4_test_118 rfl ?_
          refine a_getr (pc := 119) dX4_test_119 f_X4_7 rfl ?_
          refine a_dup (pc := 122) dX4_test_122 ?_
          refine a_geti (pc := 123) 3 dX4_test_123 f_X4_48 rfl rfl ?_
          refine a_iconst (pc := 126) dX4_test_126 (cnb rfl) ?_
          refine a_iadd (pc := 127) dX4_test_127 h.1 ?_
          replace h := h.2
          refine a_puti (pc := 128) 3 dX4_test_128 f_X4_48 rfl rfl (Or.inl rfl) ?_
          refine a_aload_n (pc := 131) dX4_test_131 rfl ?_
          refine a_iload_n (pc := 132) dX4_test_132 rfl ?_
          refine a_callVv (pc := 133) (y := mX4_sum) (d := zs k) (st := []) (o := 29) [.inl a] dX4_test_133 l_X4_62 in_X4_sum se_X4_sum rfl rfl rfl (roomD (d := zs k) (e := zt k) (N := 7) (by have := zfacts k; omega) (Nat.le_of_ble_eq_true rfl)) ⟨Nat.le_of_ble_eq_true rfl, Nat.le_of_ble_eq_true rfl⟩ (Nat.le_of_ble_eq_true rfl) ?_
          refine Calls.mono (fun r133 M133 hr133 hM133 h => ?_) h
          refine a_aload_n (pc := 136) dX4_test_136 rfl ?_
          refine a_getr (pc := 137) dX4_test_137 f_X4_16 rfl ?_
          refine a_iload_n (pc := 140) dX4_test_140 rfl ?_
          refine a_i2c (pc := 141) dX4_test_141 ?_
          refine a_iconst (pc := 142) dX4_test_142 (cnb rfl) ?_
          refine a_callVv (pc := 143) (y := mX3_add) (d := 0) (st := []) (o := 30) [.inl (bchr r80), .inl 0] dX4_test_143 l_X4_92 in_X3_add se_X3_add rfl rfl rfl (roomD (d := 0) (e := zt k) (N := 3) (by have := zfacts k; omega) (Nat.le_of_ble_eq_true rfl)) ⟨Nat.le_of_ble_eq_true rfl, Nat.le_of_ble_eq_true rfl⟩ (Nat.le_of_ble_eq_true rfl) ?_
          refine Calls.mono (fun r143 M143 hr143 hM143 h => ?_) h
          exact a_ret (pc := 146) dX4_test_146 rfl h
        · replace h := h.2 hc
          refine a_iload_n (pc := 96) dX4_test_96 rfl ?_
          refine a_bipush (pc := 97) dX4_test_97 (by decide) (cnb rfl) ?_
          refine a_icmp_eq (pc := 99) 118 dX4_test_99 rfl ⟨fun hc => ?_, fun hc => ?_⟩
          · replace h := h.1 hc
            refine a_aload_n (pc := 118) dX4_test_118 rfl ?_
            refine a_getr (pc := 119) dX4_test_119 f_X4_7 rfl ?_
            refine a_dup (pc := 122) dX4_test_122 ?_
            refine a_geti (pc := 123) 3 dX4_test_123 f_X4_48 rfl rfl ?_
            refine a_iconst (pc := 126) dX4_test_126 (cnb rfl) ?_
            refine a_iadd (pc := 127) dX4_test_127 h.1 ?_
            replace h := h.2
            refine a_puti (pc := 128) 3 dX4_test_128 f_X4_48 rfl rfl (Or.inl rfl) ?_
            refine a_aload_n (pc := 131) dX4_test_131 rfl ?_
            refine a_iload_n (pc := 132) dX4_test_132 rfl ?_
            refine a_callVv (pc := 133) (y := mX4_sum) (d := zs k) (st := []) (o := 29) [.inl a] dX4_test_133 l_X4_62 in_X4_sum se_X4_sum rfl rfl rfl (roomD (d := zs k) (e := zt k) (N := 7) (by have := zfacts k; omega) (Nat.le_of_ble_eq_true rfl)) ⟨Nat.le_of_ble_eq_true rfl, Nat.le_of_ble_eq_true rfl⟩ (Nat.le_of_ble_eq_true rfl) ?_
            refine Calls.mono (fun r133 M133 hr133 hM133 h => ?_) h
            refine a_aload_n (pc := 136) dX4_test_136 rfl ?_
            refine a_getr (pc := 137) dX4_test_137 f_X4_16 rfl ?_
            refine a_iload_n (pc := 140) dX4_test_140 rfl ?_
            refine a_i2c (pc := 141) dX4_test_141 ?_
            refine a_iconst (pc := 142) dX4_test_142 (cnb rfl) ?_
            refine a_callVv (pc := 143) (y := mX3_add) (d := 0) (st := []) (o := 30) [.inl (bchr r80), .inl 0] dX4_test_143 l_X4_92 in_X3_add se_X3_add rfl rfl rfl (roomD (d := 0) (e := zt k) (N := 3) (by have := zfacts k; omega) (Nat.le_of_ble_eq_true rfl)) ⟨Nat.le_of_ble_eq_true rfl, Nat.le_of_ble_eq_true rfl⟩ (Nat.le_of_ble_eq_true rfl) ?_
            refine Calls.mono (fun r143 M143 hr143 hM143 h => ?_) h
            exact a_ret (pc := 146) dX4_test_146 rfl h
          · replace h := h.2 hc
            refine a_aload_n (pc := 102) dX4_test_102 rfl ?_
            refine a_getr (pc := 103) dX4_test_103 f_X4_7 rfl ?_
            refine a_iconst (pc := 106) dX4_test_106 (cnb rfl) ?_
            refine a_aload_n (pc := 107) dX4_test_107 rfl ?_
            refine a_getr (pc := 108) dX4_test_108 f_X4_7 rfl ?_
            refine a_geti (pc := 111) 3 dX4_test_111 f_X4_48 rfl rfl ?_
            refine a_callVv (pc := 114) (y := mX9_fail) (d := 0) (st := []) (o := 1) [.inl 1, .inl (M80 1 3)] dX4_test_114 l_X4_51 in_X9_fail se_X9_fail rfl rfl rfl (roomD (d := 0) (e := zt k) (N := 3) (by have := zfacts k; omega) (Nat.le_of_ble_eq_true rfl)) ⟨Nat.le_of_ble_eq_true rfl, Nat.le_of_ble_eq_true rfl⟩ (Nat.le_of_ble_eq_true rfl) ?_
            refine Calls.mono (fun r114 M114 hr114 hM114 h => ?_) h
            exact a_ret (pc := 117) dX4_test_117 rfl h
    · replace h := h.2 hc
      refine a_aload_n (pc := 46) dX4_test_46 rfl ?_
      refine a_iload_n (pc := 47) dX4_test_47 rfl ?_
      refine a_callVi (pc := 48) (y := mX4_mayOpen) (d := 1) (st := []) (o := 29) [.inl a] dX4_test_48 l_X4_88 in_X4_mayOpen se_X4_mayOpen rfl rfl rfl (roomD (d := 1) (e := zt k) (N := 2) (by have := zfacts k; omega) (Nat.le_of_ble_eq_true rfl)) ⟨Nat.le_of_ble_eq_true rfl, Nat.le_of_ble_eq_true rfl⟩ (Nat.le_of_ble_eq_true rfl) ?_
      refine Calls.mono (fun r48 M48 hr48 hM48 h => ?_) h
      refine a_if_eq (pc := 51) 70 dX4_test_51 rfl ⟨fun hc => ?_, fun hc => ?_⟩
      · replace h := h.1 hc
        exact a_ret (pc := 70) dX4_test_70 rfl h
      · replace h := h.2 hc
        refine a_aload_n (pc := 54) dX4_test_54 rfl ?_
        refine a_iload_n (pc := 55) dX4_test_55 rfl ?_
        refine a_iconst (pc := 56) dX4_test_56 (cnb rfl) ?_
        refine a_iadd (pc := 57) dX4_test_57 h.1 ?_
        replace h := h.2
        refine a_callVv (pc := 58) (y := mX4_condition) (d := zj k) (st := []) (o := 29) [.inl (a + 1)] dX4_test_58 l_X4_72 in_X4_condition se_X4_condition rfl rfl rfl (roomD (d := zj k) (e := zt k) (N := 8) (by have := zfacts k; omega) (Nat.le_of_ble_eq_true rfl)) ⟨Nat.le_of_ble_eq_true rfl, Nat.le_of_ble_eq_true rfl⟩ (Nat.le_of_ble_eq_true rfl) ?_
        refine Calls.mono (fun r58 M58 hr58 hM58 h => ?_) h
        refine a_aload_n (pc := 61) dX4_test_61 rfl ?_
        refine a_getr (pc := 62) dX4_test_62 f_X4_7 rfl ?_
        refine a_bipush (pc := 65) dX4_test_65 (by decide) (cnb rfl) ?_
        refine a_callVv (pc := 67) (y := mX9_take) (d := 1) (st := []) (o := 1) [.inl 41] dX4_test_67 l_X4_68 in_X9_take se_X9_take rfl rfl rfl (roomD (d := 1) (e := zt k) (N := 2) (by have := zfacts k; omega) (Nat.le_of_ble_eq_true rfl)) ⟨Nat.le_of_ble_eq_true rfl, Nat.le_of_ble_eq_true rfl⟩ (Nat.le_of_ble_eq_true rfl) ?_
        refine Calls.mono (fun r67 M67 hr67 hM67 h => ?_) h
        exact a_ret (pc := 70) dX4_test_70 rfl h
  · replace h := h.2 hc
    refine a_aload_n (pc := 14) dX4_test_14 rfl ?_
    refine a_iload_n (pc := 15) dX4_test_15 rfl ?_
    refine a_callVi (pc := 16) (y := mX4_mayOpen) (d := 1) (st := []) (o := 29) [.inl a] dX4_test_16 l_X4_88 in_X4_mayOpen se_X4_mayOpen rfl rfl rfl (roomD (d := 1) (e := zt k) (N := 2) (by have := zfacts k; omega) (Nat.le_of_ble_eq_true rfl)) ⟨Nat.le_of_ble_eq_true rfl, Nat.le_of_ble_eq_true rfl⟩ (Nat.le_of_ble_eq_true rfl) ?_
    refine Calls.mono (fun r16 M16 hr16 hM16 h => ?_) h
    refine a_if_eq (pc := 19) 39 dX4_test_19 rfl ⟨fun hc => ?_, fun hc => ?_⟩
    · replace h := h.1 hc
      exact a_ret (pc := 39) dX4_test_39 rfl h
    · replace h := h.2 hc
      refine a_aload_n (pc := 22) dX4_test_22 rfl ?_
      refine a_iload_n (pc := 23) dX4_test_23 rfl ?_
      refine a_iconst (pc := 24) dX4_test_24 (cnb rfl) ?_
      refine a_iadd (pc := 25) dX4_test_25 h.1 ?_
      replace h := h.2
      refine a_callVv (pc := 26) (y := mX4_test) (d := zh k) (st := []) (o := 29) [.inl (a + 1)] dX4_test_26 l_X4_78 in_X4_test se_X4_test rfl rfl rfl (roomD (d := zh k) (e := zt k) (N := 4) (by have := zfacts k; omega) (Nat.le_of_ble_eq_true rfl)) ⟨Nat.le_of_ble_eq_true rfl, Nat.le_of_ble_eq_true rfl⟩ (Nat.le_of_ble_eq_true rfl) ?_
      refine Calls.mono (fun r26 M26 hr26 hM26 h => ?_) h
      refine a_aload_n (pc := 29) dX4_test_29 rfl ?_
      refine a_getr (pc := 30) dX4_test_30 f_X4_16 rfl ?_
      refine a_bipush (pc := 33) dX4_test_33 (by decide) (cnb rfl) ?_
      refine a_iconst (pc := 35) dX4_test_35 (cnb rfl) ?_
      refine a_callVv (pc := 36) (y := mX3_add) (d := 0) (st := []) (o := 30) [.inl 33, .inl 0] dX4_test_36 l_X4_92 in_X3_add se_X3_add rfl rfl rfl (roomD (d := 0) (e := zt k) (N := 3) (by have := zfacts k; omega) (Nat.le_of_ble_eq_true rfl)) ⟨Nat.le_of_ble_eq_true rfl, Nat.le_of_ble_eq_true rfl⟩ (Nat.le_of_ble_eq_true rfl) ?_
      refine Calls.mono (fun r36 M36 hr36 hM36 h => ?_) h
      exact a_ret (pc := 39) dX4_test_39 rfl h
set_option maxHeartbeats 8000000 in
set_option maxRecDepth 20000 in
theorem e_X4_test {Q : Int → Me → Prop} {k : Nat} {a : Int} {M : Me} (h :
    Calls 0 mX9_sign [.inr 1] M (fun r4 M4 =>
    ((r4 ≠ 33 →
    ((r4 ≠ 40 →
    Calls (zs k) mX4_sum [.inr 29, .inl a] M4 (fun r73 M73 =>
    Calls 0 mX9_sign [.inr 1] M73 (fun r80 M80 =>
    ((r80 = 60 →
    cn ((M80 1 3) + 1) ∧
    Calls (zs k) mX4_sum [.inr 29, .inl a] (mput M80 1 3 ((M80 1 3) + 1)) (fun r133 M133 =>
    Calls 0 mX3_add [.inr 30, .inl (bchr r80), .inl 0] M133 (fun r143 M143 =>
    Q 0 M143))) ∧ (r80 ≠ 60 →
    ((r80 = 62 →
    cn ((M80 1 3) + 1) ∧
    Calls (zs k) mX4_sum [.inr 29, .inl a] (mput M80 1 3 ((M80 1 3) + 1)) (fun r133 M133 =>
    Calls 0 mX3_add [.inr 30, .inl (bchr r80), .inl 0] M133 (fun r143 M143 =>
    Q 0 M143))) ∧ (r80 ≠ 62 →
    ((r80 = 61 →
    cn ((M80 1 3) + 1) ∧
    Calls (zs k) mX4_sum [.inr 29, .inl a] (mput M80 1 3 ((M80 1 3) + 1)) (fun r133 M133 =>
    Calls 0 mX3_add [.inr 30, .inl (bchr r80), .inl 0] M133 (fun r143 M143 =>
    Q 0 M143))) ∧ (r80 ≠ 61 →
    Calls 0 mX9_fail [.inr 1, .inl 1, .inl (M80 1 3)] M80 (fun r114 M114 =>
    Q 0 M114)))))))))) ∧ (r4 = 40 →
    Calls 1 mX4_mayOpen [.inr 29, .inl a] M4 (fun r48 M48 =>
    ((r48 = 0 →
    Q 0 M48) ∧ (r48 ≠ 0 →
    cn (a + 1) ∧
    Calls (zj k) mX4_condition [.inr 29, .inl (a + 1)] M48 (fun r58 M58 =>
    Calls 1 mX9_take [.inr 1, .inl 41] M58 (fun r67 M67 =>
    Q 0 M67)))))))) ∧ (r4 = 33 →
    Calls 1 mX4_mayOpen [.inr 29, .inl a] M4 (fun r16 M16 =>
    ((r16 = 0 →
    Q 0 M16) ∧ (r16 ≠ 0 →
    cn (a + 1) ∧
    Calls (zh k) mX4_test [.inr 29, .inl (a + 1)] M16 (fun r26 M26 =>
    Calls 0 mX3_add [.inr 30, .inl 33, .inl 0] M26 (fun r36 M36 =>
    Q 0 M36))))))))) : Calls (zt k) mX4_test [.inr 29, .inl a] M Q := Calls.of (by decide) (Nat.le_of_ble_eq_true rfl) (s_X4_test_0  a M h)
