set_option maxHeartbeats 8000000 in
set_option maxRecDepth 20000 in
theorem s_X4_factor_0 {Q : Int → Me → Prop} {k : Nat} (a : Int) (M : Me) (h :
    Calls 0 mX9_sign [.inr 1] M (fun r4 M4 =>
    ((r4 < 0 →
    ((r4 ≠ 91 →
    ((48 ≤ r4 ∧ r4 ≤ 57 →
    Go (km (zf k) mX4_factor Q) 100 [some (.inr 29), none, none, none, some (.inl 0), some (.inl 0)] [] M4) ∧ (¬ (48 ≤ r4 ∧ r4 ≤ 57) →
    Calls 0 mX9_fail [.inr 1, .inl 1, .inl (M4 1 3)] M4 (fun r210 M210 =>
    Q 0 M210)))) ∧ (r4 = 91 →
    Calls 1 mX4_mayOpen [.inr 29, .inl a] M4 (fun r32 M32 =>
    ((r32 = 0 →
    Q 0 M32) ∧ (r32 ≠ 0 →
    cn (a + 1) ∧
    Calls (zg k) mX4_sum [.inr 29, .inl (a + 1)] M32 (fun r42 M42 =>
    Calls 1 mX9_take [.inr 1, .inl 93] M42 (fun r51 M51 =>
    Q 0 M51)))))))) ∧ (0 ≤ r4 →
    Calls 8 mJ0_indexOf_0f7a4 [.inr 1001, .inl (bchr r4)] M4 (fun r16 M16 =>
    ((r4 ≠ 91 →
    ((r16 < 0 →
    ((48 ≤ r4 ∧ r4 ≤ 57 →
    Go (km (zf k) mX4_factor Q) 100 [some (.inr 29), none, none, none, some (.inl 0), some (.inl 0)] [] M16) ∧ (¬ (48 ≤ r4 ∧ r4 ≤ 57) →
    Calls 0 mX9_fail [.inr 1, .inl 1, .inl (M16 1 3)] M16 (fun r210 M210 =>
    Q 0 M210)))) ∧ (0 ≤ r16 →
    cn ((M16 1 3) + 1) ∧
    Calls 0 mX3_add [.inr 30, .inl 97, .inl r16] (mput M16 1 3 ((M16 1 3) + 1)) (fun r81 M81 =>
    Q 0 M81)))) ∧ (r4 = 91 →
    Calls 1 mX4_mayOpen [.inr 29, .inl a] M16 (fun r32 M32 =>
    ((r32 = 0 →
    Q 0 M32) ∧ (r32 ≠ 0 →
    cn (a + 1) ∧
    Calls (zg k) mX4_sum [.inr 29, .inl (a + 1)] M32 (fun r42 M42 =>
    Calls 1 mX9_take [.inr 1, .inl 93] M42 (fun r51 M51 =>
    Q 0 M51)))))))))))) :
    Go (km (zf k) mX4_factor Q) 0 [some (.inr 29), some (.inl a), none, none, none, none] [] M := by
  refine a_aload_n (pc := 0) dX4_factor_0 rfl ?_
  refine a_getr (pc := 1) dX4_factor_1 f_X4_7 rfl ?_
  refine a_callVi (pc := 4) (y := mX9_sign) (d := 0) (st := []) (o := 1) [] dX4_factor_4 l_X4_44 in_X9_sign se_X9_sign rfl rfl rfl (roomD (d := 0) (e := zf k) (N := 1) (by have := zfacts k; omega) (Nat.le_of_ble_eq_true rfl)) ⟨Nat.le_of_ble_eq_true rfl, Nat.le_of_ble_eq_true rfl⟩ (Nat.le_of_ble_eq_true rfl) ?_
  refine Calls.mono (fun r4 M4 hr4 hM4 h => ?_) h
  refine a_istore_n (pc := 7) dX4_factor_7 (Nat.le_of_ble_eq_true rfl) ?_
  refine a_iload_n (pc := 8) dX4_factor_8 rfl ?_
  refine a_if_lt (pc := 9) 22 dX4_factor_9 rfl ⟨fun hc => ?_, fun hc => ?_⟩
  · replace h := h.1 hc
    refine a_iconst (pc := 22) dX4_factor_22 (cnb rfl) ?_
    refine a_istore_n (pc := 23) dX4_factor_23 (Nat.le_of_ble_eq_true rfl) ?_
    refine a_iload_n (pc := 24) dX4_factor_24 rfl ?_
    refine a_bipush (pc := 25) dX4_factor_25 (by decide) (cnb rfl) ?_
    refine a_icmp_ne (pc := 27) 57 dX4_factor_27 rfl ⟨fun hc => ?_, fun hc => ?_⟩
    · replace h := h.1 hc
      refine a_iload_n (pc := 57) dX4_factor_57 rfl ?_
      refine a_if_lt (pc := 58) 87 dX4_factor_58 rfl ⟨fun _ => ?_, fun hc => absurd hc (by decide)⟩
      refine a_iload_n (pc := 87) dX4_factor_87 rfl ?_
      refine a_callNi (pc := 88) (y := mX11_isDigit) (d := 0) (st := []) [.inl r4] dX4_factor_88 l_X4_106 st_X11_isDigit rfl (roomD (d := 0) (e := zf k) (N := 1) (by have := zfacts k; omega) (Nat.le_of_ble_eq_true rfl)) ⟨Nat.le_of_ble_eq_true rfl, Nat.le_of_ble_eq_true rfl⟩ (Nat.le_of_ble_eq_true rfl) ?_
      refine p_X11_isDigit ⟨fun hc => ?_, fun hc => ?_⟩
      · replace h := h.1 hc
        refine a_if_eq (pc := 91) 198 dX4_factor_91 rfl ⟨fun hc => absurd hc (by decide), fun _ => ?_⟩
        refine a_iconst (pc := 94) dX4_factor_94 (cnb rfl) ?_
        refine a_istore (pc := 95) dX4_factor_95 (Nat.le_of_ble_eq_true rfl) ?_
        refine a_iconst (pc := 97) dX4_factor_97 (cnb rfl) ?_
        refine a_istore (pc := 98) dX4_factor_98 (Nat.le_of_ble_eq_true rfl) ?_
        exact Go.weak h (And.intro rfl (And.intro rfl (And.intro rfl True.intro)))
      · replace h := h.2 hc
        refine a_if_eq (pc := 91) 198 dX4_factor_91 rfl ⟨fun _ => ?_, fun hc => absurd hc (by decide)⟩
        refine a_aload_n (pc := 198) dX4_factor_198 rfl ?_
        refine a_getr (pc := 199) dX4_factor_199 f_X4_7 rfl ?_
        refine a_iconst (pc := 202) dX4_factor_202 (cnb rfl) ?_
        refine a_aload_n (pc := 203) dX4_factor_203 rfl ?_
        refine a_getr (pc := 204) dX4_factor_204 f_X4_7 rfl ?_
        refine a_geti (pc := 207) 3 dX4_factor_207 f_X4_48 rfl rfl ?_
        refine a_callVv (pc := 210) (y := mX9_fail) (d := 0) (st := []) (o := 1) [.inl 1, .inl (M4 1 3)] dX4_factor_210 l_X4_51 in_X9_fail se_X9_fail rfl rfl rfl (roomD (d := 0) (e := zf k) (N := 3) (by have := zfacts k; omega) (Nat.le_of_ble_eq_true rfl)) ⟨Nat.le_of_ble_eq_true rfl, Nat.le_of_ble_eq_true rfl⟩ (Nat.le_of_ble_eq_true rfl) ?_
        refine Calls.mono (fun r210 M210 hr210 hM210 h => ?_) h
        exact a_ret (pc := 213) dX4_factor_213 rfl h
    · replace h := h.2 hc
      refine a_aload_n (pc := 30) dX4_factor_30 rfl ?_
      refine a_iload_n (pc := 31) dX4_factor_31 rfl ?_
      refine a_callVi (pc := 32) (y := mX4_mayOpen) (d := 1) (st := []) (o := 29) [.inl a] dX4_factor_32 l_X4_88 in_X4_mayOpen se_X4_mayOpen rfl rfl rfl (roomD (d := 1) (e := zf k) (N := 2) (by have := zfacts k; omega) (Nat.le_of_ble_eq_true rfl)) ⟨Nat.le_of_ble_eq_true rfl, Nat.le_of_ble_eq_true rfl⟩ (Nat.le_of_ble_eq_true rfl) ?_
      refine Calls.mono (fun r32 M32 hr32 hM32 h => ?_) h
      refine a_if_eq (pc := 35) 213 dX4_factor_35 rfl ⟨fun hc => ?_, fun hc => ?_⟩
      · replace h := h.1 hc
        exact a_ret (pc := 213) dX4_factor_213 rfl h
      · replace h := h.2 hc
        refine a_aload_n (pc := 38) dX4_factor_38 rfl ?_
        refine a_iload_n (pc := 39) dX4_factor_39 rfl ?_
        refine a_iconst (pc := 40) dX4_factor_40 (cnb rfl) ?_
        refine a_iadd (pc := 41) dX4_factor_41 h.1 ?_
        replace h := h.2
        refine a_callVv (pc := 42) (y := mX4_sum) (d := zg k) (st := []) (o := 29) [.inl (a + 1)] dX4_factor_42 l_X4_62 in_X4_sum se_X4_sum rfl rfl rfl (roomD (d := zg k) (e := zf k) (N := 7) (by have := zfacts k; omega) (Nat.le_of_ble_eq_true rfl)) ⟨Nat.le_of_ble_eq_true rfl, Nat.le_of_ble_eq_true rfl⟩ (Nat.le_of_ble_eq_true rfl) ?_
        refine Calls.mono (fun r42 M42 hr42 hM42 h => ?_) h
        refine a_aload_n (pc := 45) dX4_factor_45 rfl ?_
        refine a_getr (pc := 46) dX4_factor_46 f_X4_7 rfl ?_
        refine a_bipush (pc := 49) dX4_factor_49 (by decide) (cnb rfl) ?_
        refine a_callVv (pc := 51) (y := mX9_take) (d := 1) (st := []) (o := 1) [.inl 93] dX4_factor_51 l_X4_68 in_X9_take se_X9_take rfl rfl rfl (roomD (d := 1) (e := zf k) (N := 2) (by have := zfacts k; omega) (Nat.le_of_ble_eq_true rfl)) ⟨Nat.le_of_ble_eq_true rfl, Nat.le_of_ble_eq_true rfl⟩ (Nat.le_of_ble_eq_true rfl) ?_
        refine Calls.mono (fun r51 M51 hr51 hM51 h => ?_) h
        refine a_goto (pc := 54) 213 dX4_factor_54 rfl ?_
        exact a_ret (pc := 213) dX4_factor_213 rfl h
  · replace h := h.2 hc
    refine a_ldcS (pc := 12) dX4_factor_12 rfl ?_
    refine a_iload_n (pc := 14) dX4_factor_14 rfl ?_
    refine a_i2c (pc := 15) dX4_factor_15 ?_
    refine a_callVs (pc := 16) (y := mJ0_indexOf_0f7a4) (d := 8) (st := []) [.inl (bchr r4)] dX4_factor_16 l_X4_101 in_J0_indexOf_0f7a4 se_J0_indexOf_0f7a4 rfl rfl (roomD (d := 8) (e := zf k) (N := 2) (by have := zfacts k; omega) (Nat.le_of_ble_eq_true rfl)) ⟨Nat.le_of_ble_eq_true rfl, Nat.le_of_ble_eq_true rfl⟩ (Nat.le_of_ble_eq_true rfl) ?_
    refine Calls.mono (fun r16 M16 hr16 hM16 h => ?_) h
    refine a_goto (pc := 19) 23 dX4_factor_19 rfl ?_
    refine a_istore_n (pc := 23) dX4_factor_23 (Nat.le_of_ble_eq_true rfl) ?_
    refine a_iload_n (pc := 24) dX4_factor_24 rfl ?_
    refine a_bipush (pc := 25) dX4_factor_25 (by decide) (cnb rfl) ?_
    refine a_icmp_ne (pc := 27) 57 dX4_factor_27 rfl ⟨fun hc => ?_, fun hc => ?_⟩
    · replace h := h.1 hc
      refine a_iload_n (pc := 57) dX4_factor_57 rfl ?_
      refine a_if_lt (pc := 58) 87 dX4_factor_58 rfl ⟨fun hc => ?_, fun hc => ?_⟩
      · replace h := h.1 hc
        refine a_iload_n (pc := 87) dX4_factor_87 rfl ?_
        refine a_callNi (pc := 88) (y := mX11_isDigit) (d := 0) (st := []) [.inl r4] dX4_factor_88 l_X4_106 st_X11_isDigit rfl (roomD (d := 0) (e := zf k) (N := 1) (by have := zfacts k; omega) (Nat.le_of_ble_eq_true rfl)) ⟨Nat.le_of_ble_eq_true rfl, Nat.le_of_ble_eq_true rfl⟩ (Nat.le_of_ble_eq_true rfl) ?_
        refine p_X11_isDigit ⟨fun hc => ?_, fun hc => ?_⟩
        · replace h := h.1 hc
          refine a_if_eq (pc := 91) 198 dX4_factor_91 rfl ⟨fun hc => absurd hc (by decide), fun _ => ?_⟩
          refine a_iconst (pc := 94) dX4_factor_94 (cnb rfl) ?_
          refine a_istore (pc := 95) dX4_factor_95 (Nat.le_of_ble_eq_true rfl) ?_
          refine a_iconst (pc := 97) dX4_factor_97 (cnb rfl) ?_
          refine a_istore (pc := 98) dX4_factor_98 (Nat.le_of_ble_eq_true rfl) ?_
          exact Go.weak h (And.intro rfl (And.intro rfl (And.intro rfl True.intro)))
        · replace h := h.2 hc
          refine a_if_eq (pc := 91) 198 dX4_factor_91 rfl ⟨fun _ => ?_, fun hc => absurd hc (by decide)⟩
          refine a_aload_n (pc := 198) dX4_factor_198 rfl ?_
          refine a_getr (pc := 199) dX4_factor_199 f_X4_7 rfl ?_
          refine a_iconst (pc := 202) dX4_factor_202 (cnb rfl) ?_
          refine a_aload_n (pc := 203) dX4_factor_203 rfl ?_
          refine a_getr (pc := 204) dX4_factor_204 f_X4_7 rfl ?_
          refine a_geti (pc := 207) 3 dX4_factor_207 f_X4_48 rfl rfl ?_
          refine a_callVv (pc := 210) (y := mX9_fail) (d := 0) (st := []) (o := 1) [.inl 1, .inl (M16 1 3)] dX4_factor_210 l_X4_51 in_X9_fail se_X9_fail rfl rfl rfl (roomD (d := 0) (e := zf k) (N := 3) (by have := zfacts k; omega) (Nat.le_of_ble_eq_true rfl)) ⟨Nat.le_of_ble_eq_true rfl, Nat.le_of_ble_eq_true rfl⟩ (Nat.le_of_ble_eq_true rfl) ?_
          refine Calls.mono (fun r210 M210 hr210 hM210 h => ?_) h
          exact a_ret (pc := 213) dX4_factor_213 rfl h
      · replace h := h.2 hc
        refine a_aload_n (pc := 61) dX4_factor_61 rfl ?_
        refine a_getr (pc := 62) dX4_factor_62 f_X4_7 rfl ?_
        refine a_dup (pc := 65) dX4_factor_65 ?_
        refine a_geti (pc := 66) 3 dX4_factor_66 f_X4_48 rfl rfl ?_
        refine a_iconst (pc := 69) dX4_factor_69 (cnb rfl) ?_
        refine a_iadd (pc := 70) dX4_factor_70 h.1 ?_
        replace h := h.2
        refine a_puti (pc := 71) 3 dX4_factor_71 f_X4_48 rfl rfl (Or.inl rfl) ?_
        refine a_aload_n (pc := 74) dX4_factor_74 rfl ?_
        refine a_getr (pc := 75) dX4_factor_75 f_X4_16 rfl ?_
        refine a_bipush (pc := 78) dX4_factor_78 (by decide) (cnb rfl) ?_
        refine a_iload_n (pc := 80) dX4_factor_80 rfl ?_
        refine a_callVv (pc := 81) (y := mX3_add) (d := 0) (st := []) (o := 30) [.inl 97, .inl r16] dX4_factor_81 l_X4_92 in_X3_add se_X3_add rfl rfl rfl (roomD (d := 0) (e := zf k) (N := 3) (by have := zfacts k; omega) (Nat.le_of_ble_eq_true rfl)) ⟨Nat.le_of_ble_eq_true rfl, Nat.le_of_ble_eq_true rfl⟩ (Nat.le_of_ble_eq_true rfl) ?_
        refine Calls.mono (fun r81 M81 hr81 hM81 h => ?_) h
        refine a_goto (pc := 84) 213 dX4_factor_84 rfl ?_
        exact a_ret (pc := 213) dX4_factor_213 rfl h
    · replace h := h.2 hc
      refine a_aload_n (pc := 30) dX4_factor_30 rfl ?_
      refine a_iload_n (pc := 31) dX4_factor_31 rfl ?_
      refine a_callVi (pc := 32) (y := mX4_mayOpen) (d := 1) (st := []) (o := 29) [.inl a] dX4_factor_32 l_X4_88 in_X4_mayOpen se_X4_mayOpen rfl rfl rfl (roomD (d := 1) (e := zf k) (N := 2) (by have := zfacts k; omega) (Nat.le_of_ble_eq_true rfl)) ⟨Nat.le_of_ble_eq_true rfl, Nat.le_of_ble_eq_true rfl⟩ (Nat.le_of_ble_eq_true rfl) ?_
      refine Calls.mono (fun r32 M32 hr32 hM32 h => ?_) h
      refine a_if_eq (pc := 35) 213 dX4_factor_35 rfl ⟨fun hc => ?_, fun hc => ?_⟩
      · replace h := h.1 hc
        exact a_ret (pc := 213) dX4_factor_213 rfl h
      · replace h := h.2 hc
        refine a_aload_n (pc := 38) dX4_factor_38 rfl ?_
        refine a_iload_n (pc := 39) dX4_factor_39 rfl ?_
        refine a_iconst (pc := 40) dX4_factor_40 (cnb rfl) ?_
        refine a_iadd (pc := 41) dX4_factor_41 h.1 ?_
        replace h := h.2
        refine a_callVv (pc := 42) (y := mX4_sum) (d := zg k) (st := []) (o := 29) [.inl (a + 1)] dX4_factor_42 l_X4_62 in_X4_sum se_X4_sum rfl rfl rfl (roomD (d := zg k) (e := zf k) (N := 7) (by have := zfacts k; omega) (Nat.le_of_ble_eq_true rfl)) ⟨Nat.le_of_ble_eq_true rfl, Nat.le_of_ble_eq_true rfl⟩ (Nat.le_of_ble_eq_true rfl) ?_
        refine Calls.mono (fun r42 M42 hr42 hM42 h => ?_) h
        refine a_aload_n (pc := 45) dX4_factor_45 rfl ?_
        refine a_getr (pc := 46) dX4_factor_46 f_X4_7 rfl ?_
        refine a_bipush (pc := 49) dX4_factor_49 (by decide) (cnb rfl) ?_
        refine a_callVv (pc := 51) (y := mX9_take) (d := 1) (st := []) (o := 1) [.inl 93] dX4_factor_51 l_X4_68 in_X9_take se_X9_take rfl rfl rfl (roomD (d := 1) (e := zf k) (N := 2) (by have := zfacts k; omega) (Nat.le_of_ble_eq_true rfl)) ⟨Nat.le_of_ble_eq_true rfl, Nat.le_of_ble_eq_true rfl⟩ (Nat.le_of_ble_eq_true rfl) ?_
        refine Calls.mono (fun r51 M51 hr51 hM51 h => ?_) h
        refine a_goto (pc := 54) 213 dX4_factor_54 rfl ?_
        exact a_ret (pc := 213) dX4_factor_213 rfl h
set_option maxHeartbeats 8000000 in
set_option maxRecDepth 20000 in
theorem e_X4_factor {Q : Int → Me → Prop} {k : Nat} {a : Int} {M : Me} (h :
    Calls 0 mX9_sign [.inr 1] M (fun r4 M4 =>
    ((r4 < 0 →
    ((r4 ≠ 91 →
    ((48 ≤ r4 ∧ r4 ≤ 57 →
    Go (km (zf k) mX4_factor Q) 100 [some (.inr 29), none, none, none, some (.inl 0), some (.inl 0)] [] M4) ∧ (¬ (48 ≤ r4 ∧ r4 ≤ 57) →
    Calls 0 mX9_fail [.inr 1, .inl 1, .inl (M4 1 3)] M4 (fun r210 M210 =>
    Q 0 M210)))) ∧ (r4 = 91 →
    Calls 1 mX4_mayOpen [.inr 29, .inl a] M4 (fun r32 M32 =>
    ((r32 = 0 →
    Q 0 M32) ∧ (r32 ≠ 0 →
    cn (a + 1) ∧
    Calls (zg k) mX4_sum [.inr 29, .inl (a + 1)] M32 (fun r42 M42 =>
    Calls 1 mX9_take [.inr 1, .inl 93] M42 (fun r51 M51 =>
    Q 0 M51)))))))) ∧ (0 ≤ r4 →
    Calls 8 mJ0_indexOf_0f7a4 [.inr 1001, .inl (bchr r4)] M4 (fun r16 M16 =>
    ((r4 ≠ 91 →
    ((r16 < 0 →
    ((48 ≤ r4 ∧ r4 ≤ 57 →
    Go (km (zf k) mX4_factor Q) 100 [some (.inr 29), none, none, none, some (.inl 0), some (.inl 0)] [] M16) ∧ (¬ (48 ≤ r4 ∧ r4 ≤ 57) →
    Calls 0 mX9_fail [.inr 1, .inl 1, .inl (M16 1 3)] M16 (fun r210 M210 =>
    Q 0 M210)))) ∧ (0 ≤ r16 →
    cn ((M16 1 3) + 1) ∧
    Calls 0 mX3_add [.inr 30, .inl 97, .inl r16] (mput M16 1 3 ((M16 1 3) + 1)) (fun r81 M81 =>
    Q 0 M81)))) ∧ (r4 = 91 →
    Calls 1 mX4_mayOpen [.inr 29, .inl a] M16 (fun r32 M32 =>
    ((r32 = 0 →
    Q 0 M32) ∧ (r32 ≠ 0 →
    cn (a + 1) ∧
    Calls (zg k) mX4_sum [.inr 29, .inl (a + 1)] M32 (fun r42 M42 =>
    Calls 1 mX9_take [.inr 1, .inl 93] M42 (fun r51 M51 =>
    Q 0 M51)))))))))))) : Calls (zf k) mX4_factor [.inr 29, .inl a] M Q := Calls.of (by decide) (Nat.le_of_ble_eq_true rfl) (s_X4_factor_0  a M h)
set_option maxHeartbeats 8000000 in
set_option maxRecDepth 20000 in
theorem s_X4_factor_100 {Q : Int → Me → Prop} {k : Nat} (x4 x5 : Int) (M : Me) (h :
    ((5 ≤ x5 →
    Calls 0 mX3_add [.inr 30, .inl 48, .inl x4] M (fun r164 M164 =>
    Calls 0 mX9_sign [.inr 1] M164 (fun r171 M171 =>
    ((48 ≤ r171 ∧ r171 ≤ 57 →
    Calls 0 mX9_fail [.inr 1, .inl 2, .inl (M171 1 3)] M171 (fun r192 M192 =>
    Q 0 M192)) ∧ (¬ (48 ≤ r171 ∧ r171 ≤ 57) →
    Q 0 M171))))) ∧ (x5 < 5 →
    Calls 0 mX9_sign [.inr 1] M (fun r110 M110 =>
    ((48 ≤ r110 ∧ r110 ≤ 57 →
    cn (10 * x4) ∧
    Calls 0 mX9_sign [.inr 1] M110 (fun r128 M128 =>
    cn ((10 * x4) + r128) ∧
    cn (((10 * x4) + r128) - 48) ∧
    cn ((M128 1 3) + 1) ∧
    cn (x5 + 1) ∧
    Go (km (zf k) mX4_factor Q) 100 [some (.inr 29), none, none, none, some (.inl (((10 * x4) + r128) - 48)), some (.inl (x5 + 1))] [] (mput M128 1 3 ((M128 1 3) + 1)))) ∧ (¬ (48 ≤ r110 ∧ r110 ≤ 57) →
    Calls 0 mX3_add [.inr 30, .inl 48, .inl x4] M110 (fun r164 M164 =>
    Calls 0 mX9_sign [.inr 1] M164 (fun r171 M171 =>
    ((48 ≤ r171 ∧ r171 ≤ 57 →
    Calls 0 mX9_fail [.inr 1, .inl 2, .inl (M171 1 3)] M171 (fun r192 M192 =>
    Q 0 M192)) ∧ (¬ (48 ≤ r171 ∧ r171 ≤ 57) →
    Q 0 M171)))))))))) :
    Go (km (zf k) mX4_factor Q) 100 [some (.inr 29), none, none, none, some (.inl x4), some (.inl x5)] [] M := by
  refine a_iload (pc := 100) dX4_factor_100 rfl ?_
  refine a_iconst (pc := 102) dX4_factor_102 (cnb rfl) ?_
  refine a_icmp_ge (pc := 103) 156 dX4_factor_103 rfl ⟨fun hc => ?_, fun hc => ?_⟩
  · replace h := h.1 hc
    refine a_aload_n (pc := 156) dX4_factor_156 rfl ?_
    refine a_getr (pc := 157) dX4_factor_157 f_X4_16 rfl ?_
    refine a_bipush (pc := 160) dX4_factor_160 (by decide) (cnb rfl) ?_
    refine a_iload (pc := 162) dX4_factor_162 rfl ?_
    refine a_callVv (pc := 164) (y := mX3_add) (d := 0) (st := []) (o := 30) [.inl 48, .inl x4] dX4_factor_164 l_X4_92 in_X3_add se_X3_add rfl rfl rfl (roomD (d := 0) (e := zf k) (N := 3) (by have := zfacts k; omega) (Nat.le_of_ble_eq_true rfl)) ⟨Nat.le_of_ble_eq_true rfl, Nat.le_of_ble_eq_true rfl⟩ (Nat.le_of_ble_eq_true rfl) ?_
    refine Calls.mono (fun r164 M164 hr164 hM164 h => ?_) h
    refine a_aload_n (pc := 167) dX4_factor_167 rfl ?_
    refine a_getr (pc := 168) dX4_factor_168 f_X4_7 rfl ?_
    refine a_callVi (pc := 171) (y := mX9_sign) (d := 0) (st := []) (o := 1) [] dX4_factor_171 l_X4_44 in_X9_sign se_X9_sign rfl rfl rfl (roomD (d := 0) (e := zf k) (N := 1) (by have := zfacts k; omega) (Nat.le_of_ble_eq_true rfl)) ⟨Nat.le_of_ble_eq_true rfl, Nat.le_of_ble_eq_true rfl⟩ (Nat.le_of_ble_eq_true rfl) ?_
    refine Calls.mono (fun r171 M171 hr171 hM171 h => ?_) h
    refine a_callNi (pc := 174) (y := mX11_isDigit) (d := 0) (st := []) [.inl r171] dX4_factor_174 l_X4_106 st_X11_isDigit rfl (roomD (d := 0) (e := zf k) (N := 1) (by have := zfacts k; omega) (Nat.le_of_ble_eq_true rfl)) ⟨Nat.le_of_ble_eq_true rfl, Nat.le_of_ble_eq_true rfl⟩ (Nat.le_of_ble_eq_true rfl) ?_
    refine p_X11_isDigit ⟨fun hc => ?_, fun hc => ?_⟩
    · replace h := h.1 hc
      refine a_if_eq (pc := 177) 195 dX4_factor_177 rfl ⟨fun hc => absurd hc (by decide), fun _ => ?_⟩
      refine a_aload_n (pc := 180) dX4_factor_180 rfl ?_
      refine a_getr (pc := 181) dX4_factor_181 f_X4_7 rfl ?_
      refine a_iconst (pc := 184) dX4_factor_184 (cnb rfl) ?_
      refine a_aload_n (pc := 185) dX4_factor_185 rfl ?_
      refine a_getr (pc := 186) dX4_factor_186 f_X4_7 rfl ?_
      refine a_geti (pc := 189) 3 dX4_factor_189 f_X4_48 rfl rfl ?_
      refine a_callVv (pc := 192) (y := mX9_fail) (d := 0) (st := []) (o := 1) [.inl 2, .inl (M171 1 3)] dX4_factor_192 l_X4_51 in_X9_fail se_X9_fail rfl rfl rfl (roomD (d := 0) (e := zf k) (N := 3) (by have := zfacts k; omega) (Nat.le_of_ble_eq_true rfl)) ⟨Nat.le_of_ble_eq_true rfl, Nat.le_of_ble_eq_true rfl⟩ (Nat.le_of_ble_eq_true rfl) ?_
      refine Calls.mono (fun r192 M192 hr192 hM192 h => ?_) h
      refine a_goto (pc := 195) 213 dX4_factor_195 rfl ?_
      exact a_ret (pc := 213) dX4_factor_213 rfl h
    · replace h := h.2 hc
      refine a_if_eq (pc := 177) 195 dX4_factor_177 rfl ⟨fun _ => ?_, fun hc => absurd hc (by decide)⟩
      refine a_goto (pc := 195) 213 dX4_factor_195 rfl ?_
      exact a_ret (pc := 213) dX4_factor_213 rfl h
  · replace h := h.2 hc
    refine a_aload_n (pc := 106) dX4_factor_106 rfl ?_
    refine a_getr (pc := 107) dX4_factor_107 f_X4_7 rfl ?_
    refine a_callVi (pc := 110) (y := mX9_sign) (d := 0) (st := []) (o := 1) [] dX4_factor_110 l_X4_44 in_X9_sign se_X9_sign rfl rfl rfl (roomD (d := 0) (e := zf k) (N := 1) (by have := zfacts k; omega) (Nat.le_of_ble_eq_true rfl)) ⟨Nat.le_of_ble_eq_true rfl, Nat.le_of_ble_eq_true rfl⟩ (Nat.le_of_ble_eq_true rfl) ?_
    refine Calls.mono (fun r110 M110 hr110 hM110 h => ?_) h
    refine a_callNi (pc := 113) (y := mX11_isDigit) (d := 0) (st := []) [.inl r110] dX4_factor_113 l_X4_106 st_X11_isDigit rfl (roomD (d := 0) (e := zf k) (N := 1) (by have := zfacts k; omega) (Nat.le_of_ble_eq_true rfl)) ⟨Nat.le_of_ble_eq_true rfl, Nat.le_of_ble_eq_true rfl⟩ (Nat.le_of_ble_eq_true rfl) ?_
    refine p_X11_isDigit ⟨fun hc => ?_, fun hc => ?_⟩
    · replace h := h.1 hc
      refine a_if_eq (pc := 116) 156 dX4_factor_116 rfl ⟨fun hc => absurd hc (by decide), fun _ => ?_⟩
      refine a_bipush (pc := 119) dX4_factor_119 (by decide) (cnb rfl) ?_
      refine a_iload (pc := 121) dX4_factor_121 rfl ?_
      refine a_imul (pc := 123) dX4_factor_123 h.1 ?_
      replace h := h.2
      refine a_aload_n (pc := 124) dX4_factor_124 rfl ?_
      refine a_getr (pc := 125) dX4_factor_125 f_X4_7 rfl ?_
      refine a_callVi (pc := 128) (y := mX9_sign) (d := 0) (st := [.inl (10 * x4)]) (o := 1) [] dX4_factor_128 l_X4_44 in_X9_sign se_X9_sign rfl rfl rfl (roomD (d := 0) (e := zf k) (N := 1) (by have := zfacts k; omega) (Nat.le_of_ble_eq_true rfl)) ⟨Nat.le_of_ble_eq_true rfl, Nat.le_of_ble_eq_true rfl⟩ (Nat.le_of_ble_eq_true rfl) ?_
      refine Calls.mono (fun r128 M128 hr128 hM128 h => ?_) h
      refine a_iadd (pc := 131) dX4_factor_131 h.1 ?_
      replace h := h.2
      refine a_bipush (pc := 132) dX4_factor_132 (by decide) (cnb rfl) ?_
      refine a_isub (pc := 134) dX4_factor_134 h.1 ?_
      replace h := h.2
      refine a_istore (pc := 135) dX4_factor_135 (Nat.le_of_ble_eq_true rfl) ?_
      refine a_aload_n (pc := 137) dX4_factor_137 rfl ?_
      refine a_getr (pc := 138) dX4_factor_138 f_X4_7 rfl ?_
      refine a_dup (pc := 141) dX4_factor_141 ?_
      refine a_geti (pc := 142) 3 dX4_factor_142 f_X4_48 rfl rfl ?_
      refine a_iconst (pc := 145) dX4_factor_145 (cnb rfl) ?_
      refine a_iadd (pc := 146) dX4_factor_146 h.1 ?_
      replace h := h.2
      refine a_puti (pc := 147) 3 dX4_factor_147 f_X4_48 rfl rfl (Or.inl rfl) ?_
      refine a_iinc (pc := 150) dX4_factor_150 rfl h.1 (Nat.le_of_ble_eq_true rfl) ?_
      replace h := h.2
      refine a_goto (pc := 153) 100 dX4_factor_153 rfl ?_
      exact h
    · replace h := h.2 hc
      refine a_if_eq (pc := 116) 156 dX4_factor_116 rfl ⟨fun _ => ?_, fun hc => absurd hc (by decide)⟩
      refine a_aload_n (pc := 156) dX4_factor_156 rfl ?_
      refine a_getr (pc := 157) dX4_factor_157 f_X4_16 rfl ?_
      refine a_bipush (pc := 160) dX4_factor_160 (by decide) (cnb rfl) ?_
      refine a_iload (pc := 162) dX4_factor_162 rfl ?_
      refine a_callVv (pc := 164) (y := mX3_add) (d := 0) (st := []) (o := 30) [.inl 48, .inl x4] dX4_factor_164 l_X4_92 in_X3_add se_X3_add rfl rfl rfl (roomD (d := 0) (e := zf k) (N := 3) (by have := zfacts k; omega) (Nat.le_of_ble_eq_true rfl)) ⟨Nat.le_of_ble_eq_true rfl, Nat.le_of_ble_eq_true rfl⟩ (Nat.le_of_ble_eq_true rfl) ?_
      refine Calls.mono (fun r164 M164 hr164 hM164 h => ?_) h
      refine a_aload_n (pc := 167) dX4_factor_167 rfl ?_
      refine a_getr (pc := 168) dX4_factor_168 f_X4_7 rfl ?_
      refine a_callVi (pc := 171) (y := mX9_sign) (d := 0) (st := []) (o := 1) [] dX4_factor_171 l_X4_44 in_X9_sign se_X9_sign rfl rfl rfl (roomD (d := 0) (e := zf k) (N := 1) (by have := zfacts k; omega) (Nat.le_of_ble_eq_true rfl)) ⟨Nat.le_of_ble_eq_true rfl, Nat.le_of_ble_eq_true rfl⟩ (Nat.le_of_ble_eq_true rfl) ?_
      refine Calls.mono (fun r171 M171 hr171 hM171 h => ?_) h
      refine a_callNi (pc := 174) (y := mX11_isDigit) (d := 0) (st := []) [.inl r171] dX4_factor_174 l_X4_106 st_X11_isDigit rfl (roomD (d := 0) (e := zf k) (N := 1) (by have := zfacts k; omega) (Nat.le_of_ble_eq_true rfl)) ⟨Nat.le_of_ble_eq_true rfl, Nat.le_of_ble_eq_true rfl⟩ (Nat.le_of_ble_eq_true rfl) ?_
      refine p_X11_isDigit ⟨fun hc => ?_, fun hc => ?_⟩
      · replace h := h.1 hc
        refine a_if_eq (pc := 177) 195 dX4_factor_177 rfl ⟨fun hc => absurd hc (by decide), fun _ => ?_⟩
        refine a_aload_n (pc := 180) dX4_factor_180 rfl ?_
        refine a_getr (pc := 181) dX4_factor_181 f_X4_7 rfl ?_
        refine a_iconst (pc := 184) dX4_factor_184 (cnb rfl) ?_
        refine a_aload_n (pc := 185) dX4_factor_185 rfl ?_
        refine a_getr (pc := 186) dX4_factor_186 f_X4_7 rfl ?_
        refine a_geti (pc := 189) 3 dX4_factor_189 f_X4_48 rfl rfl ?_
        refine a_callVv (pc := 192) (y := mX9_fail) (d := 0) (st := []) (o := 1) [.inl 2, .inl (M171 1 3)] dX4_factor_192 l_X4_51 in_X9_fail se_X9_fail rfl rfl rfl (roomD (d := 0) (e := zf k) (N := 3) (by have := zfacts k; omega) (Nat.le_of_ble_eq_true rfl)) ⟨Nat.le_of_ble_eq_true rfl, Nat.le_of_ble_eq_true rfl⟩ (Nat.le_of_ble_eq_true rfl) ?_
        refine Calls.mono (fun r192 M192 hr192 hM192 h => ?_) h
        refine a_goto (pc := 195) 213 dX4_factor_195 rfl ?_
        exact a_ret (pc := 213) dX4_factor_213 rfl h
      · replace h := h.2 hc
        refine a_if_eq (pc := 177) 195 dX4_factor_177 rfl ⟨fun _ => ?_, fun hc => absurd hc (by decide)⟩
        refine a_goto (pc := 195) 213 dX4_factor_195 rfl ?_
        exact a_ret (pc := 213) dX4_factor_213 rfl h
