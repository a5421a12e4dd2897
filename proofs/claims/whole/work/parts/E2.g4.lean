set_option maxHeartbeats 8000000 in
set_option maxRecDepth 20000 in
theorem s_X4_condition_0 {Q : Int → Me → Prop} {k : Nat} (a : Int) (M : Me) (h :
    Go (km (zc k) mX4_condition Q) 10 [some (.inr 29), some (.inl a), some (.inl (-1)), some (.inl (-1)), some (.inl 1), some (.inl 0), none, none] [] M) :
    Go (km (zc k) mX4_condition Q) 0 [some (.inr 29), some (.inl a), none, none, none, none, none, none] [] M := by
  refine a_iconst (pc := 0) dX4_condition_0 (cnb rfl) ?_
  refine a_istore_n (pc := 1) dX4_condition_1 (Nat.le_of_ble_eq_true rfl) ?_
  refine a_iconst (pc := 2) dX4_condition_2 (cnb rfl) ?_
  refine a_istore_n (pc := 3) dX4_condition_3 (Nat.le_of_ble_eq_true rfl) ?_
  refine a_iconst (pc := 4) dX4_condition_4 (cnb rfl) ?_
  refine a_istore (pc := 5) dX4_condition_5 (Nat.le_of_ble_eq_true rfl) ?_
  refine a_iconst (pc := 7) dX4_condition_7 (cnb rfl) ?_
  refine a_istore (pc := 8) dX4_condition_8 (Nat.le_of_ble_eq_true rfl) ?_
  exact h
set_option maxHeartbeats 8000000 in
set_option maxRecDepth 20000 in
theorem e_X4_condition {Q : Int → Me → Prop} {k : Nat} {a : Int} {M : Me} (h :
    Go (km (zc k) mX4_condition Q) 10 [some (.inr 29), some (.inl a), some (.inl (-1)), some (.inl (-1)), some (.inl 1), some (.inl 0), none, none] [] M) : Calls (zc k) mX4_condition [.inr 29, .inl a] M Q := Calls.of (by decide) (Nat.le_of_ble_eq_true rfl) (s_X4_condition_0  a M h)
set_option maxHeartbeats 8000000 in
set_option maxRecDepth 20000 in
theorem s_X4_condition_10 {Q : Int → Me → Prop} {k : Nat} (x1 x2 x3 x4 x5 : Int) (M : Me) (h :
    ((240 ≤ x5 →
    Calls 0 mX3_endJumps [.inr 30, .inl x3] M (fun r136 M136 =>
    Q 0 M136)) ∧ (x5 < 240 →
    ((x4 = 0 →
    Calls 0 mX3_endJumps [.inr 30, .inl x3] M (fun r136 M136 =>
    Q 0 M136)) ∧ (x4 ≠ 0 →
    Calls (zt k) mX4_test [.inr 29, .inl x1] M (fun r25 M25 =>
    Calls 1 mX9_mayTake [.inr 1, .inl 38] M25 (fun r34 M34 =>
    ((r34 ≠ 0 →
    ((r34 = 0 →
    Calls 0 mX3_endJumps [.inr 30, .inl x2] M34 (fun r87 M87 =>
    Go (km (zc k) mX4_condition Q) 110 [some (.inr 29), some (.inl x1), some (.inl (-1)), some (.inl x3), none, some (.inl x5), none, some (.inl 0)] [.inl r34] M87)) ∧ (r34 ≠ 0 →
    Calls 1 mX3_addJump [.inr 30, .inl 38, .inl x2] M34 (fun r75 M75 =>
    Go (km (zc k) mX4_condition Q) 110 [some (.inr 29), some (.inl x1), some (.inl r75), some (.inl x3), none, some (.inl x5), none, some (.inl 0)] [.inl r34] M75)))) ∧ (r34 = 0 →
    Calls 1 mX9_mayTake [.inr 1, .inl 124] M34 (fun r50 M50 =>
    ((r50 = 0 →
    ((r34 = 0 →
    Calls 0 mX3_endJumps [.inr 30, .inl x2] M50 (fun r87 M87 =>
    Go (km (zc k) mX4_condition Q) 110 [some (.inr 29), some (.inl x1), some (.inl (-1)), some (.inl x3), none, some (.inl x5), none, some (.inl 0)] [.inl r34] M87)) ∧ (r34 ≠ 0 →
    Calls 1 mX3_addJump [.inr 30, .inl 38, .inl x2] M50 (fun r75 M75 =>
    Go (km (zc k) mX4_condition Q) 110 [some (.inr 29), some (.inl x1), some (.inl r75), some (.inl x3), none, some (.inl x5), none, some (.inl 0)] [.inl r34] M75)))) ∧ (r50 ≠ 0 →
    ((r34 = 0 →
    Calls 0 mX3_endJumps [.inr 30, .inl x2] M50 (fun r87 M87 =>
    Calls 1 mX3_addJump [.inr 30, .inl 124, .inl x3] M87 (fun r104 M104 =>
    Go (km (zc k) mX4_condition Q) 110 [some (.inr 29), some (.inl x1), some (.inl (-1)), some (.inl r104), none, some (.inl x5), none, some (.inl 1)] [.inl r34] M104))) ∧ (r34 ≠ 0 →
    Calls 1 mX3_addJump [.inr 30, .inl 38, .inl x2] M50 (fun r75 M75 =>
    Calls 1 mX3_addJump [.inr 30, .inl 124, .inl x3] M75 (fun r104 M104 =>
    Go (km (zc k) mX4_condition Q) 110 [some (.inr 29), some (.inl x1), some (.inl r75), some (.inl r104), none, some (.inl x5), none, some (.inl 1)] [.inl r34] M104)))))))))))))))) :
    Go (km (zc k) mX4_condition Q) 10 [some (.inr 29), some (.inl x1), some (.inl x2), some (.inl x3), some (.inl x4), some (.inl x5), none, none] [] M := by
  refine a_iload (pc := 10) dX4_condition_10 rfl ?_
  refine a_sipush (pc := 12) dX4_condition_12 (by decide) (cnb rfl) ?_
  refine a_icmp_ge (pc := 15) 131 dX4_condition_15 rfl ⟨fun hc => ?_, fun hc => ?_⟩
  · replace h := h.1 hc
    refine a_aload_n (pc := 131) dX4_condition_131 rfl ?_
    refine a_getr (pc := 132) dX4_condition_132 f_X4_16 rfl ?_
    refine a_iload_n (pc := 135) dX4_condition_135 rfl ?_
    refine a_callVv (pc := 136) (y := mX3_endJumps) (d := 0) (st := []) (o := 30) [.inl x3] dX4_condition_136 l_X4_85 in_X3_endJumps se_X3_endJumps rfl rfl rfl (roomD (d := 0) (e := zc k) (N := 5) (by have := zfacts k; omega) (Nat.le_of_ble_eq_true rfl)) ⟨Nat.le_of_ble_eq_true rfl, Nat.le_of_ble_eq_true rfl⟩ (Nat.le_of_ble_eq_true rfl) ?_
    refine Calls.mono (fun r136 M136 hr136 hM136 h => ?_) h
    exact a_ret (pc := 139) dX4_condition_139 rfl h
  · replace h := h.2 hc
    refine a_iload (pc := 18) dX4_condition_18 rfl ?_
    refine a_if_eq (pc := 20) 131 dX4_condition_20 rfl ⟨fun hc => ?_, fun hc => ?_⟩
    · replace h := h.1 hc
      refine a_aload_n (pc := 131) dX4_condition_131 rfl ?_
      refine a_getr (pc := 132) dX4_condition_132 f_X4_16 rfl ?_
      refine a_iload_n (pc := 135) dX4_condition_135 rfl ?_
      refine a_callVv (pc := 136) (y := mX3_endJumps) (d := 0) (st := []) (o := 30) [.inl x3] dX4_condition_136 l_X4_85 in_X3_endJumps se_X3_endJumps rfl rfl rfl (roomD (d := 0) (e := zc k) (N := 5) (by have := zfacts k; omega) (Nat.le_of_ble_eq_true rfl)) ⟨Nat.le_of_ble_eq_true rfl, Nat.le_of_ble_eq_true rfl⟩ (Nat.le_of_ble_eq_true rfl) ?_
      refine Calls.mono (fun r136 M136 hr136 hM136 h => ?_) h
      exact a_ret (pc := 139) dX4_condition_139 rfl h
    · replace h := h.2 hc
      refine a_aload_n (pc := 23) dX4_condition_23 rfl ?_
      refine a_iload_n (pc := 24) dX4_condition_24 rfl ?_
      refine a_callVv (pc := 25) (y := mX4_test) (d := zt k) (st := []) (o := 29) [.inl x1] dX4_condition_25 l_X4_78 in_X4_test se_X4_test rfl rfl rfl (roomD (d := zt k) (e := zc k) (N := 4) (by have := zfacts k; omega) (Nat.le_of_ble_eq_true rfl)) ⟨Nat.le_of_ble_eq_true rfl, Nat.le_of_ble_eq_true rfl⟩ (Nat.le_of_ble_eq_true rfl) ?_
      refine Calls.mono (fun r25 M25 hr25 hM25 h => ?_) h
      refine a_aload_n (pc := 28) dX4_condition_28 rfl ?_
      refine a_getr (pc := 29) dX4_condition_29 f_X4_7 rfl ?_
      refine a_bipush (pc := 32) dX4_condition_32 (by decide) (cnb rfl) ?_
      refine a_callVi (pc := 34) (y := mX9_mayTake) (d := 1) (st := []) (o := 1) [.inl 38] dX4_condition_34 l_X4_36 in_X9_mayTake se_X9_mayTake rfl rfl rfl (roomD (d := 1) (e := zc k) (N := 3) (by have := zfacts k; omega) (Nat.le_of_ble_eq_true rfl)) ⟨Nat.le_of_ble_eq_true rfl, Nat.le_of_ble_eq_true rfl⟩ (Nat.le_of_ble_eq_true rfl) ?_
      refine Calls.mono (fun r34 M34 hr34 hM34 h => ?_) h
      refine a_istore (pc := 37) dX4_condition_37 (Nat.le_of_ble_eq_true rfl) ?_
      refine a_iload (pc := 39) dX4_condition_39 rfl ?_
      refine a_if_ne (pc := 41) 60 dX4_condition_41 rfl ⟨fun hc => ?_, fun hc => ?_⟩
      · replace h := h.1 hc
        refine a_iconst (pc := 60) dX4_condition_60 (cnb rfl) ?_
        refine a_istore (pc := 61) dX4_condition_61 (Nat.le_of_ble_eq_true rfl) ?_
        refine a_iload (pc := 63) dX4_condition_63 rfl ?_
        refine a_if_eq (pc := 65) 82 dX4_condition_65 rfl ⟨fun hc => ?_, fun hc => ?_⟩
        · replace h := h.1 hc
          refine a_aload_n (pc := 82) dX4_condition_82 rfl ?_
          refine a_getr (pc := 83) dX4_condition_83 f_X4_16 rfl ?_
          refine a_iload_n (pc := 86) dX4_condition_86 rfl ?_
          refine a_callVv (pc := 87) (y := mX3_endJumps) (d := 0) (st := []) (o := 30) [.inl x2] dX4_condition_87 l_X4_85 in_X3_endJumps se_X3_endJumps rfl rfl rfl (roomD (d := 0) (e := zc k) (N := 5) (by have := zfacts k; omega) (Nat.le_of_ble_eq_true rfl)) ⟨Nat.le_of_ble_eq_true rfl, Nat.le_of_ble_eq_true rfl⟩ (Nat.le_of_ble_eq_true rfl) ?_
          refine Calls.mono (fun r87 M87 hr87 hM87 h => ?_) h
          refine a_iconst (pc := 90) dX4_condition_90 (cnb rfl) ?_
          refine a_istore_n (pc := 91) dX4_condition_91 (Nat.le_of_ble_eq_true rfl) ?_
          refine a_iload (pc := 92) dX4_condition_92 rfl ?_
          refine a_if_eq (pc := 94) 108 dX4_condition_94 rfl ⟨fun _ => ?_, fun hc => absurd hc (by decide)⟩
          refine a_iload (pc := 108) dX4_condition_108 rfl ?_
          exact Go.weak h (And.intro rfl (And.intro rfl (And.intro rfl (And.intro rfl (And.intro rfl (And.intro rfl True.intro))))))
        · replace h := h.2 hc
          refine a_aload_n (pc := 68) dX4_condition_68 rfl ?_
          refine a_getr (pc := 69) dX4_condition_69 f_X4_16 rfl ?_
          refine a_bipush (pc := 72) dX4_condition_72 (by decide) (cnb rfl) ?_
          refine a_iload_n (pc := 74) dX4_condition_74 rfl ?_
          refine a_callVi (pc := 75) (y := mX3_addJump) (d := 1) (st := []) (o := 30) [.inl 38, .inl x2] dX4_condition_75 l_X4_81 in_X3_addJump se_X3_addJump rfl rfl rfl (roomD (d := 1) (e := zc k) (N := 3) (by have := zfacts k; omega) (Nat.le_of_ble_eq_true rfl)) ⟨Nat.le_of_ble_eq_true rfl, Nat.le_of_ble_eq_true rfl⟩ (Nat.le_of_ble_eq_true rfl) ?_
          refine Calls.mono (fun r75 M75 hr75 hM75 h => ?_) h
          refine a_istore_n (pc := 78) dX4_condition_78 (Nat.le_of_ble_eq_true rfl) ?_
          refine a_goto (pc := 79) 92 dX4_condition_79 rfl ?_
          refine a_iload (pc := 92) dX4_condition_92 rfl ?_
          refine a_if_eq (pc := 94) 108 dX4_condition_94 rfl ⟨fun _ => ?_, fun hc => absurd hc (by decide)⟩
          refine a_iload (pc := 108) dX4_condition_108 rfl ?_
          exact Go.weak h (And.intro rfl (And.intro rfl (And.intro rfl (And.intro rfl (And.intro rfl (And.intro rfl True.intro))))))
      · replace h := h.2 hc
        refine a_aload_n (pc := 44) dX4_condition_44 rfl ?_
        refine a_getr (pc := 45) dX4_condition_45 f_X4_7 rfl ?_
        refine a_bipush (pc := 48) dX4_condition_48 (by decide) (cnb rfl) ?_
        refine a_callVi (pc := 50) (y := mX9_mayTake) (d := 1) (st := []) (o := 1) [.inl 124] dX4_condition_50 l_X4_36 in_X9_mayTake se_X9_mayTake rfl rfl rfl (roomD (d := 1) (e := zc k) (N := 3) (by have := zfacts k; omega) (Nat.le_of_ble_eq_true rfl)) ⟨Nat.le_of_ble_eq_true rfl, Nat.le_of_ble_eq_true rfl⟩ (Nat.le_of_ble_eq_true rfl) ?_
        refine Calls.mono (fun r50 M50 hr50 hM50 h => ?_) h
        refine a_if_eq (pc := 53) 60 dX4_condition_53 rfl ⟨fun hc => ?_, fun hc => ?_⟩
        · replace h := h.1 hc
          refine a_iconst (pc := 60) dX4_condition_60 (cnb rfl) ?_
          refine a_istore (pc := 61) dX4_condition_61 (Nat.le_of_ble_eq_true rfl) ?_
          refine a_iload (pc := 63) dX4_condition_63 rfl ?_
          refine a_if_eq (pc := 65) 82 dX4_condition_65 rfl ⟨fun hc => ?_, fun hc => ?_⟩
          · replace h := h.1 hc
            refine a_aload_n (pc := 82) dX4_condition_82 rfl ?_
            refine a_getr (pc := 83) dX4_condition_83 f_X4_16 rfl ?_
            refine a_iload_n (pc := 86) dX4_condition_86 rfl ?_
            refine a_callVv (pc := 87) (y := mX3_endJumps) (d := 0) (st := []) (o := 30) [.inl x2] dX4_condition_87 l_X4_85 in_X3_endJumps se_X3_endJumps rfl rfl rfl (roomD (d := 0) (e := zc k) (N := 5) (by have := zfacts k; omega) (Nat.le_of_ble_eq_true rfl)) ⟨Nat.le_of_ble_eq_true rfl, Nat.le_of_ble_eq_true rfl⟩ (Nat.le_of_ble_eq_true rfl) ?_
            refine Calls.mono (fun r87 M87 hr87 hM87 h => ?_) h
            refine a_iconst (pc := 90) dX4_condition_90 (cnb rfl) ?_
            refine a_istore_n (pc := 91) dX4_condition_91 (Nat.le_of_ble_eq_true rfl) ?_
            refine a_iload (pc := 92) dX4_condition_92 rfl ?_
            refine a_if_eq (pc := 94) 108 dX4_condition_94 rfl ⟨fun _ => ?_, fun hc => absurd hc (by decide)⟩
            refine a_iload (pc := 108) dX4_condition_108 rfl ?_
            exact Go.weak h (And.intro rfl (And.intro rfl (And.intro rfl (And.intro rfl (And.intro rfl (And.intro rfl True.intro))))))
          · replace h := h.2 hc
            refine a_aload_n (pc := 68) dX4_condition_68 rfl ?_
            refine a_getr (pc := 69) dX4_condition_69 f_X4_16 rfl ?_
            refine a_bipush (pc := 72) dX4_condition_72 (by decide) (cnb rfl) ?_
            refine a_iload_n (pc := 74) dX4_condition_74 rfl ?_
            refine a_callVi (pc := 75) (y := mX3_addJump) (d := 1) (st := []) (o := 30) [.inl 38, .inl x2] dX4_condition_75 l_X4_81 in_X3_addJump se_X3_addJump rfl rfl rfl (roomD (d := 1) (e := zc k) (N := 3) (by have := zfacts k; omega) (Nat.le_of_ble_eq_true rfl)) ⟨Nat.le_of_ble_eq_true rfl, Nat.le_of_ble_eq_true rfl⟩ (Nat.le_of_ble_eq_true rfl) ?_
            refine Calls.mono (fun r75 M75 hr75 hM75 h => ?_) h
            refine a_istore_n (pc := 78) dX4_condition_78 (Nat.le_of_ble_eq_true rfl) ?_
            refine a_goto (pc := 79) 92 dX4_condition_79 rfl ?_
            refine a_iload (pc := 92) dX4_condition_92 rfl ?_
            refine a_if_eq (pc := 94) 108 dX4_condition_94 rfl ⟨fun _ => ?_, fun hc => absurd hc (by decide)⟩
            refine a_iload (pc := 108) dX4_condition_108 rfl ?_
            exact Go.weak h (And.intro rfl (And.intro rfl (And.intro rfl (And.intro rfl (And.intro rfl (And.intro rfl True.intro))))))
        · replace h := h.2 hc
          refine a_iconst (pc := 56) dX4_condition_56 (cnb rfl) ?_
          refine a_goto (pc := 57) 61 dX4_condition_57 rfl ?_
          refine a_istore (pc := 61) dX4_condition_61 (Nat.le_of_ble_eq_true rfl) ?_
          refine a_iload (pc := 63) dX4_condition_63 rfl ?_
          refine a_if_eq (pc := 65) 82 dX4_condition_65 rfl ⟨fun hc => ?_, fun hc => ?_⟩
          · replace h := h.1 hc
            refine a_aload_n (pc := 82) dX4_condition_82 rfl ?_
            refine a_getr (pc := 83) dX4_condition_83 f_X4_16 rfl ?_
            refine a_iload_n (pc := 86) dX4_condition_86 rfl ?_
            refine a_callVv (pc := 87) (y := mX3_endJumps) (d := 0) (st := []) (o := 30) [.inl x2] dX4_condition_87 l_X4_85 in_X3_endJumps se_X3_endJumps rfl rfl rfl (roomD (d := 0) (e := zc k) (N := 5) (by have := zfacts k; omega) (Nat.le_of_ble_eq_true rfl)) ⟨Nat.le_of_ble_eq_true rfl, Nat.le_of_ble_eq_true rfl⟩ (Nat.le_of_ble_eq_true rfl) ?_
            refine Calls.mono (fun r87 M87 hr87 hM87 h => ?_) h
            refine a_iconst (pc := 90) dX4_condition_90 (cnb rfl) ?_
            refine a_istore_n (pc := 91) dX4_condition_91 (Nat.le_of_ble_eq_true rfl) ?_
            refine a_iload (pc := 92) dX4_condition_92 rfl ?_
            refine a_if_eq (pc := 94) 108 dX4_condition_94 rfl ⟨fun hc => absurd hc (by decide), fun _ => ?_⟩
            refine a_aload_n (pc := 97) dX4_condition_97 rfl ?_
            refine a_getr (pc := 98) dX4_condition_98 f_X4_16 rfl ?_
            refine a_bipush (pc := 101) dX4_condition_101 (by decide) (cnb rfl) ?_
            refine a_iload_n (pc := 103) dX4_condition_103 rfl ?_
            refine a_callVi (pc := 104) (y := mX3_addJump) (d := 1) (st := []) (o := 30) [.inl 124, .inl x3] dX4_condition_104 l_X4_81 in_X3_addJump se_X3_addJump rfl rfl rfl (roomD (d := 1) (e := zc k) (N := 3) (by have := zfacts k; omega) (Nat.le_of_ble_eq_true rfl)) ⟨Nat.le_of_ble_eq_true rfl, Nat.le_of_ble_eq_true rfl⟩ (Nat.le_of_ble_eq_true rfl) ?_
            refine Calls.mono (fun r104 M104 hr104 hM104 h => ?_) h
            refine a_istore_n (pc := 107) dX4_condition_107 (Nat.le_of_ble_eq_true rfl) ?_
            refine a_iload (pc := 108) dX4_condition_108 rfl ?_
            exact Go.weak h (And.intro rfl (And.intro rfl (And.intro rfl (And.intro rfl (And.intro rfl (And.intro rfl True.intro))))))
          · replace h := h.2 hc
            refine a_aload_n (pc := 68) dX4_condition_68 rfl ?_
            refine a_getr (pc := 69) dX4_condition_69 f_X4_16 rfl ?_
            refine a_bipush (pc := 72) dX4_condition_72 (by decide) (cnb rfl) ?_
            refine a_iload_n (pc := 74) dX4_condition_74 rfl ?_
            refine a_callVi (pc := 75) (y := mX3_addJump) (d := 1) (st := []) (o := 30) [.inl 38, .inl x2] dX4_condition_75 l_X4_81 in_X3_addJump se_X3_addJump rfl rfl rfl (roomD (d := 1) (e := zc k) (N := 3) (by have := zfacts k; omega) (Nat.le_of_ble_eq_true rfl)) ⟨Nat.le_of_ble_eq_true rfl, Nat.le_of_ble_eq_true rfl⟩ (Nat.le_of_ble_eq_true rfl) ?_
            refine Calls.mono (fun r75 M75 hr75 hM75 h => ?_) h
            refine a_istore_n (pc := 78) dX4_condition_78 (Nat.le_of_ble_eq_true rfl) ?_
            refine a_goto (pc := 79) 92 dX4_condition_79 rfl ?_
            refine a_iload (pc := 92) dX4_condition_92 rfl ?_
            refine a_if_eq (pc := 94) 108 dX4_condition_94 rfl ⟨fun hc => absurd hc (by decide), fun _ => ?_⟩
            refine a_aload_n (pc := 97) dX4_condition_97 rfl ?_
            refine a_getr (pc := 98) dX4_condition_98 f_X4_16 rfl ?_
            refine a_bipush (pc := 101) dX4_condition_101 (by decide) (cnb rfl) ?_
            refine a_iload_n (pc := 103) dX4_condition_103 rfl ?_
            refine a_callVi (pc := 104) (y := mX3_addJump) (d := 1) (st := []) (o := 30) [.inl 124, .inl x3] dX4_condition_104 l_X4_81 in_X3_addJump se_X3_addJump rfl rfl rfl (roomD (d := 1) (e := zc k) (N := 3) (by have := zfacts k; omega) (Nat.le_of_ble_eq_true rfl)) ⟨Nat.le_of_ble_eq_true rfl, Nat.le_of_ble_eq_true rfl⟩ (Nat.le_of_ble_eq_true rfl) ?_
            refine Calls.mono (fun r104 M104 hr104 hM104 h => ?_) h
            refine a_istore_n (pc := 107) dX4_condition_107 (Nat.le_of_ble_eq_true rfl) ?_
            refine a_iload (pc := 108) dX4_condition_108 rfl ?_
            exact Go.weak h (And.intro rfl (And.intro rfl (And.intro rfl (And.intro rfl (And.intro rfl (And.intro rfl True.intro))))))
set_option maxHeartbeats 8000000 in
set_option maxRecDepth 20000 in
theorem s_X4_condition_110 {Q : Int → Me → Prop} {k : Nat} (x1 x2 x3 x5 x7 t0 : Int) (M : Me) (h :
    ((t0 ≠ 0 →
    cn (x5 + 1) ∧
    Go (km (zc k) mX4_condition Q) 10 [some (.inr 29), some (.inl x1), some (.inl x2), some (.inl x3), some (.inl 1), some (.inl (x5 + 1)), none, none] [] M) ∧ (t0 = 0 →
    ((x7 = 0 →
    cn (x5 + 1) ∧
    Go (km (zc k) mX4_condition Q) 10 [some (.inr 29), some (.inl x1), some (.inl x2), some (.inl x3), some (.inl 0), some (.inl (x5 + 1)), none, none] [] M) ∧ (x7 ≠ 0 →
    cn (x5 + 1) ∧
    Go (km (zc k) mX4_condition Q) 10 [some (.inr 29), some (.inl x1), some (.inl x2), some (.inl x3), some (.inl 1), some (.inl (x5 + 1)), none, none] [] M))))) :
    Go (km (zc k) mX4_condition Q) 110 [some (.inr 29), some (.inl x1), some (.inl x2), some (.inl x3), none, some (.inl x5), none, some (.inl x7)] [.inl t0] M := by
  refine a_if_ne (pc := 110) 118 dX4_condition_110 rfl ⟨fun hc => ?_, fun hc => ?_⟩
  · replace h := h.1 hc
    refine a_iconst (pc := 118) dX4_condition_118 (cnb rfl) ?_
    refine a_goto (pc := 119) 123 dX4_condition_119 rfl ?_
    refine a_istore (pc := 123) dX4_condition_123 (Nat.le_of_ble_eq_true rfl) ?_
    refine a_iinc (pc := 125) dX4_condition_125 rfl h.1 (Nat.le_of_ble_eq_true rfl) ?_
    replace h := h.2
    refine a_goto (pc := 128) 10 dX4_condition_128 rfl ?_
    exact Go.weak h (And.intro rfl (And.intro rfl (And.intro rfl (And.intro rfl (And.intro rfl (And.intro rfl True.intro))))))
  · replace h := h.2 hc
    refine a_iload (pc := 113) dX4_condition_113 rfl ?_
    refine a_if_eq (pc := 115) 122 dX4_condition_115 rfl ⟨fun hc => ?_, fun hc => ?_⟩
    · replace h := h.1 hc
      refine a_iconst (pc := 122) dX4_condition_122 (cnb rfl) ?_
      refine a_istore (pc := 123) dX4_condition_123 (Nat.le_of_ble_eq_true rfl) ?_
      refine a_iinc (pc := 125) dX4_condition_125 rfl h.1 (Nat.le_of_ble_eq_true rfl) ?_
      replace h := h.2
      refine a_goto (pc := 128) 10 dX4_condition_128 rfl ?_
      exact Go.weak h (And.intro rfl (And.intro rfl (And.intro rfl (And.intro rfl (And.intro rfl (And.intro rfl True.intro))))))
    · replace h := h.2 hc
      refine a_iconst (pc := 118) dX4_condition_118 (cnb rfl) ?_
      refine a_goto (pc := 119) 123 dX4_condition_119 rfl ?_
      refine a_istore (pc := 123) dX4_condition_123 (Nat.le_of_ble_eq_true rfl) ?_
      refine a_iinc (pc := 125) dX4_condition_125 rfl h.1 (Nat.le_of_ble_eq_true rfl) ?_
      replace h := h.2
      refine a_goto (pc := 128) 10 dX4_condition_128 rfl ?_
      exact Go.weak h (And.intro rfl (And.intro rfl (And.intro rfl (And.intro rfl (And.intro rfl (And.intro rfl True.intro))))))
