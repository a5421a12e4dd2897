set_option maxHeartbeats 8000000 in
set_option maxRecDepth 20000 in
theorem s_X4_sum_0 {Q : Int → Me → Prop} {k : Nat} (a : Int) (M : Me) (h :
    Go (km (zs k) mX4_sum Q) 10 [some (.inr 29), some (.inl a), some (.inl 0), some (.inl 0), some (.inl 1), some (.inl 0), none] [] M) :
    Go (km (zs k) mX4_sum Q) 0 [some (.inr 29), some (.inl a), none, none, none, none, none] [] M := by
  refine a_iconst (pc := 0) dX4_sum_0 (cnb rfl) ?_
  refine a_istore_n (pc := 1) dX4_sum_1 (Nat.le_of_ble_eq_true rfl) ?_
  refine a_iconst (pc := 2) dX4_sum_2 (cnb rfl) ?_
  refine a_istore_n (pc := 3) dX4_sum_3 (Nat.le_of_ble_eq_true rfl) ?_
  refine a_iconst (pc := 4) dX4_sum_4 (cnb rfl) ?_
  refine a_istore (pc := 5) dX4_sum_5 (Nat.le_of_ble_eq_true rfl) ?_
  refine a_iconst (pc := 7) dX4_sum_7 (cnb rfl) ?_
  refine a_istore (pc := 8) dX4_sum_8 (Nat.le_of_ble_eq_true rfl) ?_
  exact h
set_option maxHeartbeats 8000000 in
set_option maxRecDepth 20000 in
theorem e_X4_sum {Q : Int → Me → Prop} {k : Nat} {a : Int} {M : Me} (h :
    Go (km (zs k) mX4_sum Q) 10 [some (.inr 29), some (.inl a), some (.inl 0), some (.inl 0), some (.inl 1), some (.inl 0), none] [] M) : Calls (zs k) mX4_sum [.inr 29, .inl a] M Q := Calls.of (by decide) (Nat.le_of_ble_eq_true rfl) (s_X4_sum_0  a M h)
set_option maxHeartbeats 8000000 in
set_option maxRecDepth 20000 in
theorem s_X4_sum_10 {Q : Int → Me → Prop} {k : Nat} (x1 x2 x3 x4 x5 : Int) (M : Me) (h :
    ((240 ≤ x5 →
    Q 0 M) ∧ (x5 < 240 →
    ((x4 = 0 →
    Q 0 M) ∧ (x4 ≠ 0 →
    Calls (zf k) mX4_factor [.inr 29, .inl x1] M (fun r25 M25 =>
    ((x3 = 0 →
    Go (km (zs k) mX4_sum Q) 42 [some (.inr 29), some (.inl x1), some (.inl x2), none, none, some (.inl x5), none] [] M25) ∧ (x3 ≠ 0 →
    Calls 0 mX3_add [.inr 30, .inl (bchr x3), .inl 0] M25 (fun r39 M39 =>
    Go (km (zs k) mX4_sum Q) 42 [some (.inr 29), some (.inl x1), some (.inl x2), none, none, some (.inl x5), none] [] M39))))))))) :
    Go (km (zs k) mX4_sum Q) 10 [some (.inr 29), some (.inl x1), some (.inl x2), some (.inl x3), some (.inl x4), some (.inl x5), none] [] M := by
  refine a_iload (pc := 10) dX4_sum_10 rfl ?_
  refine a_sipush (pc := 12) dX4_sum_12 (by decide) (cnb rfl) ?_
  refine a_icmp_ge (pc := 15) 153 dX4_sum_15 rfl ⟨fun hc => ?_, fun hc => ?_⟩
  · replace h := h.1 hc
    exact a_ret (pc := 153) dX4_sum_153 rfl h
  · replace h := h.2 hc
    refine a_iload (pc := 18) dX4_sum_18 rfl ?_
    refine a_if_eq (pc := 20) 153 dX4_sum_20 rfl ⟨fun hc => ?_, fun hc => ?_⟩
    · replace h := h.1 hc
      exact a_ret (pc := 153) dX4_sum_153 rfl h
    · replace h := h.2 hc
      refine a_aload_n (pc := 23) dX4_sum_23 rfl ?_
      refine a_iload_n (pc := 24) dX4_sum_24 rfl ?_
      refine a_callVv (pc := 25) (y := mX4_factor) (d := zf k) (st := []) (o := 29) [.inl x1] dX4_sum_25 l_X4_96 in_X4_factor se_X4_factor rfl rfl rfl (roomD (d := zf k) (e := zs k) (N := 6) (by have := zfacts k; omega) (Nat.le_of_ble_eq_true rfl)) ⟨Nat.le_of_ble_eq_true rfl, Nat.le_of_ble_eq_true rfl⟩ (Nat.le_of_ble_eq_true rfl) ?_
      refine Calls.mono (fun r25 M25 hr25 hM25 h => ?_) h
      refine a_iload_n (pc := 28) dX4_sum_28 rfl ?_
      refine a_if_eq (pc := 29) 42 dX4_sum_29 rfl ⟨fun hc => ?_, fun hc => ?_⟩
      · replace h := h.1 hc
        exact Go.weak h (And.intro rfl (And.intro rfl (And.intro rfl (And.intro rfl True.intro))))
      · replace h := h.2 hc
        refine a_aload_n (pc := 32) dX4_sum_32 rfl ?_
        refine a_getr (pc := 33) dX4_sum_33 f_X4_16 rfl ?_
        refine a_iload_n (pc := 36) dX4_sum_36 rfl ?_
        refine a_i2c (pc := 37) dX4_sum_37 ?_
        refine a_iconst (pc := 38) dX4_sum_38 (cnb rfl) ?_
        refine a_callVv (pc := 39) (y := mX3_add) (d := 0) (st := []) (o := 30) [.inl (bchr x3), .inl 0] dX4_sum_39 l_X4_92 in_X3_add se_X3_add rfl rfl rfl (roomD (d := 0) (e := zs k) (N := 3) (by have := zfacts k; omega) (Nat.le_of_ble_eq_true rfl)) ⟨Nat.le_of_ble_eq_true rfl, Nat.le_of_ble_eq_true rfl⟩ (Nat.le_of_ble_eq_true rfl) ?_
        refine Calls.mono (fun r39 M39 hr39 hM39 h => ?_) h
        exact Go.weak h (And.intro rfl (And.intro rfl (And.intro rfl (And.intro rfl True.intro))))
set_option maxHeartbeats 8000000 in
set_option maxRecDepth 20000 in
theorem s_X4_sum_42 {Q : Int → Me → Prop} {k : Nat} (x1 x2 x5 : Int) (M : Me) (h :
    Calls 0 mX9_sign [.inr 1] M (fun r46 M46 =>
    ((r46 = 42 →
    Go (km (zs k) mX4_sum Q) 79 [some (.inr 29), some (.inl x1), some (.inl x2), some (.inl r46), none, some (.inl x5), some (.inl r46)] [] M46) ∧ (r46 ≠ 42 →
    ((r46 = 47 →
    Go (km (zs k) mX4_sum Q) 79 [some (.inr 29), some (.inl x1), some (.inl x2), some (.inl r46), none, some (.inl x5), some (.inl r46)] [] M46) ∧ (r46 ≠ 47 →
    ((r46 ≠ 37 →
    Go (km (zs k) mX4_sum Q) 79 [some (.inr 29), some (.inl x1), some (.inl x2), some (.inl 0), none, some (.inl x5), some (.inl r46)] [] M46) ∧ (r46 = 37 →
    Go (km (zs k) mX4_sum Q) 79 [some (.inr 29), some (.inl x1), some (.inl x2), some (.inl r46), none, some (.inl x5), some (.inl r46)] [] M46)))))))) :
    Go (km (zs k) mX4_sum Q) 42 [some (.inr 29), some (.inl x1), some (.inl x2), none, none, some (.inl x5), none] [] M := by
  refine a_aload_n (pc := 42) dX4_sum_42 rfl ?_
  refine a_getr (pc := 43) dX4_sum_43 f_X4_7 rfl ?_
  refine a_callVi (pc := 46) (y := mX9_sign) (d := 0) (st := []) (o := 1) [] dX4_sum_46 l_X4_44 in_X9_sign se_X9_sign rfl rfl rfl (roomD (d := 0) (e := zs k) (N := 1) (by have := zfacts k; omega) (Nat.le_of_ble_eq_true rfl)) ⟨Nat.le_of_ble_eq_true rfl, Nat.le_of_ble_eq_true rfl⟩ (Nat.le_of_ble_eq_true rfl) ?_
  refine Calls.mono (fun r46 M46 hr46 hM46 h => ?_) h
  refine a_istore (pc := 49) dX4_sum_49 (Nat.le_of_ble_eq_true rfl) ?_
  refine a_iload (pc := 51) dX4_sum_51 rfl ?_
  refine a_bipush (pc := 53) dX4_sum_53 (by decide) (cnb rfl) ?_
  refine a_icmp_eq (pc := 55) 72 dX4_sum_55 rfl ⟨fun hc => ?_, fun hc => ?_⟩
  · replace h := h.1 hc
    refine a_iload (pc := 72) dX4_sum_72 rfl ?_
    refine a_goto (pc := 74) 78 dX4_sum_74 rfl ?_
    refine a_istore_n (pc := 78) dX4_sum_78 (Nat.le_of_ble_eq_true rfl) ?_
    exact h
  · replace h := h.2 hc
    refine a_iload (pc := 58) dX4_sum_58 rfl ?_
    refine a_bipush (pc := 60) dX4_sum_60 (by decide) (cnb rfl) ?_
    refine a_icmp_eq (pc := 62) 72 dX4_sum_62 rfl ⟨fun hc => ?_, fun hc => ?_⟩
    · replace h := h.1 hc
      refine a_iload (pc := 72) dX4_sum_72 rfl ?_
      refine a_goto (pc := 74) 78 dX4_sum_74 rfl ?_
      refine a_istore_n (pc := 78) dX4_sum_78 (Nat.le_of_ble_eq_true rfl) ?_
      exact h
    · replace h := h.2 hc
      refine a_iload (pc := 65) dX4_sum_65 rfl ?_
      refine a_bipush (pc := 67) dX4_sum_67 (by decide) (cnb rfl) ?_
      refine a_icmp_ne (pc := 69) 77 dX4_sum_69 rfl ⟨fun hc => ?_, fun hc => ?_⟩
      · replace h := h.1 hc
        refine a_iconst (pc := 77) dX4_sum_77 (cnb rfl) ?_
        refine a_istore_n (pc := 78) dX4_sum_78 (Nat.le_of_ble_eq_true rfl) ?_
        exact h
      · replace h := h.2 hc
        refine a_iload (pc := 72) dX4_sum_72 rfl ?_
        refine a_goto (pc := 74) 78 dX4_sum_74 rfl ?_
        refine a_istore_n (pc := 78) dX4_sum_78 (Nat.le_of_ble_eq_true rfl) ?_
        exact h
set_option maxHeartbeats 8000000 in
set_option maxRecDepth 20000 in
theorem s_X4_sum_79 {Q : Int → Me → Prop} {k : Nat} (x1 x2 x3 x5 x6 : Int) (M : Me) (h :
    ((x3 ≠ 0 →
    Go (km (zs k) mX4_sum Q) 104 [some (.inr 29), some (.inl x1), some (.inl x2), some (.inl x3), some (.inl 1), some (.inl x5), some (.inl x6)] [] M) ∧ (x3 = 0 →
    ((x6 = 43 →
    Go (km (zs k) mX4_sum Q) 104 [some (.inr 29), some (.inl x1), some (.inl x2), some (.inl x3), some (.inl 1), some (.inl x5), some (.inl x6)] [] M) ∧ (x6 ≠ 43 →
    ((x6 ≠ 45 →
    Go (km (zs k) mX4_sum Q) 104 [some (.inr 29), some (.inl x1), some (.inl x2), some (.inl x3), some (.inl 0), some (.inl x5), some (.inl x6)] [] M) ∧ (x6 = 45 →
    Go (km (zs k) mX4_sum Q) 104 [some (.inr 29), some (.inl x1), some (.inl x2), some (.inl x3), some (.inl 1), some (.inl x5), some (.inl x6)] [] M))))))) :
    Go (km (zs k) mX4_sum Q) 79 [some (.inr 29), some (.inl x1), some (.inl x2), some (.inl x3), none, some (.inl x5), some (.inl x6)] [] M := by
  refine a_iload_n (pc := 79) dX4_sum_79 rfl ?_
  refine a_if_ne (pc := 80) 97 dX4_sum_80 rfl ⟨fun hc => ?_, fun hc => ?_⟩
  · replace h := h.1 hc
    refine a_iconst (pc := 97) dX4_sum_97 (cnb rfl) ?_
    refine a_goto (pc := 98) 102 dX4_sum_98 rfl ?_
    refine a_istore (pc := 102) dX4_sum_102 (Nat.le_of_ble_eq_true rfl) ?_
    exact h
  · replace h := h.2 hc
    refine a_iload (pc := 83) dX4_sum_83 rfl ?_
    refine a_bipush (pc := 85) dX4_sum_85 (by decide) (cnb rfl) ?_
    refine a_icmp_eq (pc := 87) 97 dX4_sum_87 rfl ⟨fun hc => ?_, fun hc => ?_⟩
    · replace h := h.1 hc
      refine a_iconst (pc := 97) dX4_sum_97 (cnb rfl) ?_
      refine a_goto (pc := 98) 102 dX4_sum_98 rfl ?_
      refine a_istore (pc := 102) dX4_sum_102 (Nat.le_of_ble_eq_true rfl) ?_
      exact h
    · replace h := h.2 hc
      refine a_iload (pc := 90) dX4_sum_90 rfl ?_
      refine a_bipush (pc := 92) dX4_sum_92 (by decide) (cnb rfl) ?_
      refine a_icmp_ne (pc := 94) 101 dX4_sum_94 rfl ⟨fun hc => ?_, fun hc => ?_⟩
      · replace h := h.1 hc
        refine a_iconst (pc := 101) dX4_sum_101 (cnb rfl) ?_
        refine a_istore (pc := 102) dX4_sum_102 (Nat.le_of_ble_eq_true rfl) ?_
        exact h
      · replace h := h.2 hc
        refine a_iconst (pc := 97) dX4_sum_97 (cnb rfl) ?_
        refine a_goto (pc := 98) 102 dX4_sum_98 rfl ?_
        refine a_istore (pc := 102) dX4_sum_102 (Nat.le_of_ble_eq_true rfl) ?_
        exact h
set_option maxHeartbeats 8000000 in
set_option maxRecDepth 20000 in
theorem s_X4_sum_104 {Q : Int → Me → Prop} {k : Nat} (x1 x2 x3 x4 x5 x6 : Int) (M : Me) (h :
    ((x3 ≠ 0 →
    Go (km (zs k) mX4_sum Q) 122 [some (.inr 29), some (.inl x1), some (.inl x2), some (.inl x3), some (.inl x4), some (.inl x5), some (.inl x6)] [] M) ∧ (x3 = 0 →
    ((x2 = 0 →
    Go (km (zs k) mX4_sum Q) 122 [some (.inr 29), some (.inl x1), some (.inl x2), some (.inl x3), some (.inl x4), some (.inl x5), some (.inl x6)] [] M) ∧ (x2 ≠ 0 →
    Calls 0 mX3_add [.inr 30, .inl (bchr x2), .inl 0] M (fun r119 M119 =>
    Go (km (zs k) mX4_sum Q) 122 [some (.inr 29), some (.inl x1), some (.inl x2), some (.inl x3), some (.inl x4), some (.inl x5), some (.inl x6)] [] M119)))))) :
    Go (km (zs k) mX4_sum Q) 104 [some (.inr 29), some (.inl x1), some (.inl x2), some (.inl x3), some (.inl x4), some (.inl x5), some (.inl x6)] [] M := by
  refine a_iload_n (pc := 104) dX4_sum_104 rfl ?_
  refine a_if_ne (pc := 105) 122 dX4_sum_105 rfl ⟨fun hc => ?_, fun hc => ?_⟩
  · replace h := h.1 hc
    exact h
  · replace h := h.2 hc
    refine a_iload_n (pc := 108) dX4_sum_108 rfl ?_
    refine a_if_eq (pc := 109) 122 dX4_sum_109 rfl ⟨fun hc => ?_, fun hc => ?_⟩
    · replace h := h.1 hc
      exact h
    · replace h := h.2 hc
      refine a_aload_n (pc := 112) dX4_sum_112 rfl ?_
      refine a_getr (pc := 113) dX4_sum_113 f_X4_16 rfl ?_
      refine a_iload_n (pc := 116) dX4_sum_116 rfl ?_
      refine a_i2c (pc := 117) dX4_sum_117 ?_
      refine a_iconst (pc := 118) dX4_sum_118 (cnb rfl) ?_
      refine a_callVv (pc := 119) (y := mX3_add) (d := 0) (st := []) (o := 30) [.inl (bchr x2), .inl 0] dX4_sum_119 l_X4_92 in_X3_add se_X3_add rfl rfl rfl (roomD (d := 0) (e := zs k) (N := 3) (by have := zfacts k; omega) (Nat.le_of_ble_eq_true rfl)) ⟨Nat.le_of_ble_eq_true rfl, Nat.le_of_ble_eq_true rfl⟩ (Nat.le_of_ble_eq_true rfl) ?_
      refine Calls.mono (fun r119 M119 hr119 hM119 h => ?_) h
      exact h
set_option maxHeartbeats 8000000 in
set_option maxRecDepth 20000 in
theorem s_X4_sum_122 {Q : Int → Me → Prop} {k : Nat} (x1 x2 x3 x4 x5 x6 : Int) (M : Me) (h :
    ((x3 ≠ 0 →
    ((x4 = 0 →
    Go (km (zs k) mX4_sum Q) 147 [some (.inr 29), some (.inl x1), some (.inl x2), some (.inl x3), some (.inl x4), some (.inl x5), none] [] M) ∧ (x4 ≠ 0 →
    cn ((M 1 3) + 1) ∧
    Go (km (zs k) mX4_sum Q) 147 [some (.inr 29), some (.inl x1), some (.inl x2), some (.inl x3), some (.inl x4), some (.inl x5), none] [] (mput M 1 3 ((M 1 3) + 1))))) ∧ (x3 = 0 →
    ((x4 = 0 →
    Go (km (zs k) mX4_sum Q) 147 [some (.inr 29), some (.inl x1), some (.inl x6), some (.inl x3), some (.inl x4), some (.inl x5), none] [] M) ∧ (x4 ≠ 0 →
    cn ((M 1 3) + 1) ∧
    Go (km (zs k) mX4_sum Q) 147 [some (.inr 29), some (.inl x1), some (.inl x6), some (.inl x3), some (.inl x4), some (.inl x5), none] [] (mput M 1 3 ((M 1 3) + 1))))))) :
    Go (km (zs k) mX4_sum Q) 122 [some (.inr 29), some (.inl x1), some (.inl x2), some (.inl x3), some (.inl x4), some (.inl x5), some (.inl x6)] [] M := by
  refine a_iload_n (pc := 122) dX4_sum_122 rfl ?_
  refine a_if_ne (pc := 123) 129 dX4_sum_123 rfl ⟨fun hc => ?_, fun hc => ?_⟩
  · replace h := h.1 hc
    refine a_iload (pc := 129) dX4_sum_129 rfl ?_
    refine a_if_eq (pc := 131) 147 dX4_sum_131 rfl ⟨fun hc => ?_, fun hc => ?_⟩
    · replace h := h.1 hc
      exact Go.weak h (And.intro rfl (And.intro rfl (And.intro rfl (And.intro rfl (And.intro rfl (And.intro rfl True.intro))))))
    · replace h := h.2 hc
      refine a_aload_n (pc := 134) dX4_sum_134 rfl ?_
      refine a_getr (pc := 135) dX4_sum_135 f_X4_7 rfl ?_
      refine a_dup (pc := 138) dX4_sum_138 ?_
      refine a_geti (pc := 139) 3 dX4_sum_139 f_X4_48 rfl rfl ?_
      refine a_iconst (pc := 142) dX4_sum_142 (cnb rfl) ?_
      refine a_iadd (pc := 143) dX4_sum_143 h.1 ?_
      replace h := h.2
      refine a_puti (pc := 144) 3 dX4_sum_144 f_X4_48 rfl rfl (Or.inl rfl) ?_
      exact Go.weak h (And.intro rfl (And.intro rfl (And.intro rfl (And.intro rfl (And.intro rfl (And.intro rfl True.intro))))))
  · replace h := h.2 hc
    refine a_iload (pc := 126) dX4_sum_126 rfl ?_
    refine a_istore_n (pc := 128) dX4_sum_128 (Nat.le_of_ble_eq_true rfl) ?_
    refine a_iload (pc := 129) dX4_sum_129 rfl ?_
    refine a_if_eq (pc := 131) 147 dX4_sum_131 rfl ⟨fun hc => ?_, fun hc => ?_⟩
    · replace h := h.1 hc
      exact Go.weak h (And.intro rfl (And.intro rfl (And.intro rfl (And.intro rfl (And.intro rfl (And.intro rfl True.intro))))))
    · replace h := h.2 hc
      refine a_aload_n (pc := 134) dX4_sum_134 rfl ?_
      refine a_getr (pc := 135) dX4_sum_135 f_X4_7 rfl ?_
      refine a_dup (pc := 138) dX4_sum_138 ?_
      refine a_geti (pc := 139) 3 dX4_sum_139 f_X4_48 rfl rfl ?_
      refine a_iconst (pc := 142) dX4_sum_142 (cnb rfl) ?_
      refine a_iadd (pc := 143) dX4_sum_143 h.1 ?_
      replace h := h.2
      refine a_puti (pc := 144) 3 dX4_sum_144 f_X4_48 rfl rfl (Or.inl rfl) ?_
      exact Go.weak h (And.intro rfl (And.intro rfl (And.intro rfl (And.intro rfl (And.intro rfl (And.intro rfl True.intro))))))
set_option maxHeartbeats 8000000 in
set_option maxRecDepth 20000 in
theorem s_X4_sum_147 {Q : Int → Me → Prop} {k : Nat} (x1 x2 x3 x4 x5 : Int) (M : Me) (h :
    cn (x5 + 1) ∧
    Go (km (zs k) mX4_sum Q) 10 [some (.inr 29), some (.inl x1), some (.inl x2), some (.inl x3), some (.inl x4), some (.inl (x5 + 1)), none] [] M) :
    Go (km (zs k) mX4_sum Q) 147 [some (.inr 29), some (.inl x1), some (.inl x2), some (.inl x3), some (.inl x4), some (.inl x5), none] [] M := by
  refine a_iinc (pc := 147) dX4_sum_147 rfl h.1 (Nat.le_of_ble_eq_true rfl) ?_
  replace h := h.2
  refine a_goto (pc := 150) 10 dX4_sum_150 rfl ?_
  exact h
