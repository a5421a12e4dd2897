set_option maxRecDepth 20000 in
theorem s_X11_doCross_0 {Q : Int → Me → Prop}  (a b c d : Int) (M : Me) (h :
    pl a ∧
    pl b ∧
    pl c ∧
    (-800 ≤ (sd a b c) ∧ (sd a b c) ≤ 800) ∧
    pl a ∧
    pl b ∧
    pl d ∧
    (-800 ≤ (sd a b d) ∧ (sd a b d) ≤ 800) ∧
    cn ((sgn (sd a b c)) * (sgn (sd a b d))) ∧
    ((0 ≤ (sgn (sd a b c)) * (sgn (sd a b d)) →
    pl c ∧
    pl d ∧
    pl a ∧
    (-800 ≤ (sd c d a) ∧ (sd c d a) ≤ 800) ∧
    pl c ∧
    pl d ∧
    pl b ∧
    (-800 ≤ (sd c d b) ∧ (sd c d b) ≤ 800) ∧
    cn ((sgn (sd c d a)) * (sgn (sd c d b))) ∧
    ((0 ≤ (sgn (sd c d a)) * (sgn (sd c d b)) →
    pl a ∧
    pl b ∧
    pl c ∧
    ((onW a b c →
    Q 1 M) ∧ (¬ (onW a b c) →
    pl a ∧
    pl b ∧
    pl d ∧
    ((onW a b d →
    Q 1 M) ∧ (¬ (onW a b d) →
    pl c ∧
    pl d ∧
    pl a ∧
    ((onW c d a →
    Q 1 M) ∧ (¬ (onW c d a) →
    pl c ∧
    pl d ∧
    pl b ∧
    ((onW c d b →
    Q 1 M) ∧ (¬ (onW c d b) →
    Q 0 M))))))))) ∧ ((sgn (sd c d a)) * (sgn (sd c d b)) < 0 →
    pl a ∧
    pl b ∧
    pl c ∧
    ((onW a b c →
    Q 1 M) ∧ (¬ (onW a b c) →
    pl a ∧
    pl b ∧
    pl d ∧
    ((onW a b d →
    Q 1 M) ∧ (¬ (onW a b d) →
    pl c ∧
    pl d ∧
    pl a ∧
    ((onW c d a →
    Q 1 M) ∧ (¬ (onW c d a) →
    pl c ∧
    pl d ∧
    pl b ∧
    ((onW c d b →
    Q 1 M) ∧ (¬ (onW c d b) →
    Q 0 M))))))))))) ∧ ((sgn (sd a b c)) * (sgn (sd a b d)) < 0 →
    pl c ∧
    pl d ∧
    pl a ∧
    (-800 ≤ (sd c d a) ∧ (sd c d a) ≤ 800) ∧
    pl c ∧
    pl d ∧
    pl b ∧
    (-800 ≤ (sd c d b) ∧ (sd c d b) ≤ 800) ∧
    cn ((sgn (sd c d a)) * (sgn (sd c d b))) ∧
    ((0 ≤ (sgn (sd c d a)) * (sgn (sd c d b)) →
    pl a ∧
    pl b ∧
    pl c ∧
    ((onW a b c →
    Q 1 M) ∧ (¬ (onW a b c) →
    pl a ∧
    pl b ∧
    pl d ∧
    ((onW a b d →
    Q 1 M) ∧ (¬ (onW a b d) →
    pl c ∧
    pl d ∧
    pl a ∧
    ((onW c d a →
    Q 1 M) ∧ (¬ (onW c d a) →
    pl c ∧
    pl d ∧
    pl b ∧
    ((onW c d b →
    Q 1 M) ∧ (¬ (onW c d b) →
    Q 0 M))))))))) ∧ ((sgn (sd c d a)) * (sgn (sd c d b)) < 0 →
    Q 1 M))))) :
    Go (km 3 mX11_doCross Q) 0 [some (.inl a), some (.inl b), some (.inl c), some (.inl d), none, none] [] M := by
  refine a_iload_n (pc := 0) dX11_doCross_0 rfl ?_
  refine a_iload_n (pc := 1) dX11_doCross_1 rfl ?_
  refine a_iload_n (pc := 2) dX11_doCross_2 rfl ?_
  refine a_callSi (pc := 3) (d := 0) (st := []) [.inl a, .inl b, .inl c] dX11_doCross_3 l_X11_316 st_X11_side rfl ⟨Nat.le_of_ble_eq_true rfl, Nat.le_of_ble_eq_true rfl⟩ ⟨Nat.le_of_ble_eq_true rfl, Nat.le_of_ble_eq_true rfl⟩ (Nat.le_of_ble_eq_true rfl) ?_
  have hp3_1 := h.1
  replace h := h.2
  have hp3_2 := h.1
  replace h := h.2
  have hp3_3 := h.1
  replace h := h.2
  refine p_X11_side hp3_1 hp3_2 hp3_3 ?_
  refine a_callSi (pc := 6) (d := 0) (st := []) [.inl (sd a b c)] dX11_doCross_6 l_X11_320 st_J6_signum_0f7a4 rfl ⟨Nat.le_of_ble_eq_true rfl, Nat.le_of_ble_eq_true rfl⟩ ⟨Nat.le_of_ble_eq_true rfl, Nat.le_of_ble_eq_true rfl⟩ (Nat.le_of_ble_eq_true rfl) ?_
  have hp6_4 := h.1
  replace h := h.2
  refine p_signum hp6_4 ?_
  refine a_iload_n (pc := 9) dX11_doCross_9 rfl ?_
  refine a_iload_n (pc := 10) dX11_doCross_10 rfl ?_
  refine a_iload_n (pc := 11) dX11_doCross_11 rfl ?_
  refine a_callSi (pc := 12) (d := 0) (st := [.inl (sgn (sd a b c))]) [.inl a, .inl b, .inl d] dX11_doCross_12 l_X11_316 st_X11_side rfl ⟨Nat.le_of_ble_eq_true rfl, Nat.le_of_ble_eq_true rfl⟩ ⟨Nat.le_of_ble_eq_true rfl, Nat.le_of_ble_eq_true rfl⟩ (Nat.le_of_ble_eq_true rfl) ?_
  have hp12_5 := h.1
  replace h := h.2
  have hp12_6 := h.1
  replace h := h.2
  have hp12_7 := h.1
  replace h := h.2
  refine p_X11_side hp12_5 hp12_6 hp12_7 ?_
  refine a_callSi (pc := 15) (d := 0) (st := [.inl (sgn (sd a b c))]) [.inl (sd a b d)] dX11_doCross_15 l_X11_320 st_J6_signum_0f7a4 rfl ⟨Nat.le_of_ble_eq_true rfl, Nat.le_of_ble_eq_true rfl⟩ ⟨Nat.le_of_ble_eq_true rfl, Nat.le_of_ble_eq_true rfl⟩ (Nat.le_of_ble_eq_true rfl) ?_
  have hp15_8 := h.1
  replace h := h.2
  refine p_signum hp15_8 ?_
  refine a_imul (pc := 18) dX11_doCross_18 h.1 ?_
  replace h := h.2
  refine a_if_ge (pc := 19) 26 dX11_doCross_19 rfl ⟨fun hc => ?_, fun hc => ?_⟩
  · replace h := h.1 hc
    refine a_iconst (pc := 26) dX11_doCross_26 (cnb rfl) ?_
    refine a_istore (pc := 27) dX11_doCross_27 (Nat.le_of_ble_eq_true rfl) ?_
    refine a_iload_n (pc := 29) dX11_doCross_29 rfl ?_
    refine a_iload_n (pc := 30) dX11_doCross_30 rfl ?_
    refine a_iload_n (pc := 31) dX11_doCross_31 rfl ?_
    refine a_callSi (pc := 32) (d := 0) (st := []) [.inl c, .inl d, .inl a] dX11_doCross_32 l_X11_316 st_X11_side rfl ⟨Nat.le_of_ble_eq_true rfl, Nat.le_of_ble_eq_true rfl⟩ ⟨Nat.le_of_ble_eq_true rfl, Nat.le_of_ble_eq_true rfl⟩ (Nat.le_of_ble_eq_true rfl) ?_
    have hp32_1 := h.1
    replace h := h.2
    have hp32_2 := h.1
    replace h := h.2
    have hp32_3 := h.1
    replace h := h.2
    refine p_X11_side hp32_1 hp32_2 hp32_3 ?_
    refine a_callSi (pc := 35) (d := 0) (st := []) [.inl (sd c d a)] dX11_doCross_35 l_X11_320 st_J6_signum_0f7a4 rfl ⟨Nat.le_of_ble_eq_true rfl, Nat.le_of_ble_eq_true rfl⟩ ⟨Nat.le_of_ble_eq_true rfl, Nat.le_of_ble_eq_true rfl⟩ (Nat.le_of_ble_eq_true rfl) ?_
    have hp35_4 := h.1
    replace h := h.2
    refine p_signum hp35_4 ?_
    refine a_iload_n (pc := 38) dX11_doCross_38 rfl ?_
    refine a_iload_n (pc := 39) dX11_doCross_39 rfl ?_
    refine a_iload_n (pc := 40) dX11_doCross_40 rfl ?_
    refine a_callSi (pc := 41) (d := 0) (st := [.inl (sgn (sd c d a))]) [.inl c, .inl d, .inl b] dX11_doCross_41 l_X11_316 st_X11_side rfl ⟨Nat.le_of_ble_eq_true rfl, Nat.le_of_ble_eq_true rfl⟩ ⟨Nat.le_of_ble_eq_true rfl, Nat.le_of_ble_eq_true rfl⟩ (Nat.le_of_ble_eq_true rfl) ?_
    have hp41_5 := h.1
    replace h := h.2
    have hp41_6 := h.1
    replace h := h.2
    have hp41_7 := h.1
    replace h := h.2
    refine p_X11_side hp41_5 hp41_6 hp41_7 ?_
    refine a_callSi (pc := 44) (d := 0) (st := [.inl (sgn (sd c d a))]) [.inl (sd c d b)] dX11_doCross_44 l_X11_320 st_J6_signum_0f7a4 rfl ⟨Nat.le_of_ble_eq_true rfl, Nat.le_of_ble_eq_true rfl⟩ ⟨Nat.le_of_ble_eq_true rfl, Nat.le_of_ble_eq_true rfl⟩ (Nat.le_of_ble_eq_true rfl) ?_
    have hp44_8 := h.1
    replace h := h.2
    refine p_signum hp44_8 ?_
    refine a_imul (pc := 47) dX11_doCross_47 h.1 ?_
    replace h := h.2
    refine a_if_ge (pc := 48) 55 dX11_doCross_48 rfl ⟨fun hc => ?_, fun hc => ?_⟩
    · replace h := h.1 hc
      refine a_iconst (pc := 55) dX11_doCross_55 (cnb rfl) ?_
      refine a_istore (pc := 56) dX11_doCross_56 (Nat.le_of_ble_eq_true rfl) ?_
      refine a_iload (pc := 58) dX11_doCross_58 rfl ?_
      refine a_if_eq (pc := 60) 68 dX11_doCross_60 rfl ⟨fun _ => ?_, fun hc => absurd hc (by decide)⟩
      refine a_iload_n (pc := 68) dX11_doCross_68 rfl ?_
      refine a_iload_n (pc := 69) dX11_doCross_69 rfl ?_
      refine a_iload_n (pc := 70) dX11_doCross_70 rfl ?_
      refine a_callSi (pc := 71) (d := 2) (st := []) [.inl a, .inl b, .inl c] dX11_doCross_71 l_X11_323 st_X11_isOnWay rfl ⟨Nat.le_of_ble_eq_true rfl, Nat.le_of_ble_eq_true rfl⟩ ⟨Nat.le_of_ble_eq_true rfl, Nat.le_of_ble_eq_true rfl⟩ (Nat.le_of_ble_eq_true rfl) ?_
      have hp71_1 := h.1
      replace h := h.2
      have hp71_2 := h.1
      replace h := h.2
      have hp71_3 := h.1
      replace h := h.2
      refine p_X11_isOnWay hp71_1 hp71_2 hp71_3 ⟨fun hc => ?_, fun hc => ?_⟩
      · replace h := h.1 hc
        refine a_if_ne (pc := 74) 104 dX11_doCross_74 rfl ⟨fun _ => ?_, fun hc => absurd hc (by decide)⟩
        refine a_iconst (pc := 104) dX11_doCross_104 (cnb rfl) ?_
        refine a_goto (pc := 105) 109 dX11_doCross_105 rfl ?_
        exact a_iretZ (pc := 109) dX11_doCross_109 rfl (by decide) h
      · replace h := h.2 hc
        refine a_if_ne (pc := 74) 104 dX11_doCross_74 rfl ⟨fun hc => absurd hc (by decide), fun _ => ?_⟩
        refine a_iload_n (pc := 77) dX11_doCross_77 rfl ?_
        refine a_iload_n (pc := 78) dX11_doCross_78 rfl ?_
        refine a_iload_n (pc := 79) dX11_doCross_79 rfl ?_
        refine a_callSi (pc := 80) (d := 2) (st := []) [.inl a, .inl b, .inl d] dX11_doCross_80 l_X11_323 st_X11_isOnWay rfl ⟨Nat.le_of_ble_eq_true rfl, Nat.le_of_ble_eq_true rfl⟩ ⟨Nat.le_of_ble_eq_true rfl, Nat.le_of_ble_eq_true rfl⟩ (Nat.le_of_ble_eq_true rfl) ?_
        have hp80_1 := h.1
        replace h := h.2
        have hp80_2 := h.1
        replace h := h.2
        have hp80_3 := h.1
        replace h := h.2
        refine p_X11_isOnWay hp80_1 hp80_2 hp80_3 ⟨fun hc => ?_, fun hc => ?_⟩
        · replace h := h.1 hc
          refine a_if_ne (pc := 83) 104 dX11_doCross_83 rfl ⟨fun _ => ?_, fun hc => absurd hc (by decide)⟩
          refine a_iconst (pc := 104) dX11_doCross_104 (cnb rfl) ?_
          refine a_goto (pc := 105) 109 dX11_doCross_105 rfl ?_
          exact a_iretZ (pc := 109) dX11_doCross_109 rfl (by decide) h
        · replace h := h.2 hc
          refine a_if_ne (pc := 83) 104 dX11_doCross_83 rfl ⟨fun hc => absurd hc (by decide), fun _ => ?_⟩
          refine a_iload_n (pc := 86) dX11_doCross_86 rfl ?_
          refine a_iload_n (pc := 87) dX11_doCross_87 rfl ?_
          refine a_iload_n (pc := 88) dX11_doCross_88 rfl ?_
          refine a_callSi (pc := 89) (d := 2) (st := []) [.inl c, .inl d, .inl a] dX11_doCross_89 l_X11_323 st_X11_isOnWay rfl ⟨Nat.le_of_ble_eq_true rfl, Nat.le_of_ble_eq_true rfl⟩ ⟨Nat.le_of_ble_eq_true rfl, Nat.le_of_ble_eq_true rfl⟩ (Nat.le_of_ble_eq_true rfl) ?_
          have hp89_1 := h.1
          replace h := h.2
          have hp89_2 := h.1
          replace h := h.2
          have hp89_3 := h.1
          replace h := h.2
          refine p_X11_isOnWay hp89_1 hp89_2 hp89_3 ⟨fun hc => ?_, fun hc => ?_⟩
          · replace h := h.1 hc
            refine a_if_ne (pc := 92) 104 dX11_doCross_92 rfl ⟨fun _ => ?_, fun hc => absurd hc (by decide)⟩
            refine a_iconst (pc := 104) dX11_doCross_104 (cnb rfl) ?_
            refine a_goto (pc := 105) 109 dX11_doCross_105 rfl ?_
            exact a_iretZ (pc := 109) dX11_doCross_109 rfl (by decide) h
          · replace h := h.2 hc
            refine a_if_ne (pc := 92) 104 dX11_doCross_92 rfl ⟨fun hc => absurd hc (by decide), fun _ => ?_⟩
            refine a_iload_n (pc := 95) dX11_doCross_95 rfl ?_
            refine a_iload_n (pc := 96) dX11_doCross_96 rfl ?_
            refine a_iload_n (pc := 97) dX11_doCross_97 rfl ?_
            refine a_callSi (pc := 98) (d := 2) (st := []) [.inl c, .inl d, .inl b] dX11_doCross_98 l_X11_323 st_X11_isOnWay rfl ⟨Nat.le_of_ble_eq_true rfl, Nat.le_of_ble_eq_true rfl⟩ ⟨Nat.le_of_ble_eq_true rfl, Nat.le_of_ble_eq_true rfl⟩ (Nat.le_of_ble_eq_true rfl) ?_
            have hp98_1 := h.1
            replace h := h.2
            have hp98_2 := h.1
            replace h := h.2
            have hp98_3 := h.1
            replace h := h.2
            refine p_X11_isOnWay hp98_1 hp98_2 hp98_3 ⟨fun hc => ?_, fun hc => ?_⟩
            · replace h := h.1 hc
              refine a_if_eq (pc := 101) 108 dX11_doCross_101 rfl ⟨fun hc => absurd hc (by decide), fun _ => ?_⟩
              refine a_iconst (pc := 104) dX11_doCross_104 (cnb rfl) ?_
              refine a_goto (pc := 105) 109 dX11_doCross_105 rfl ?_
              exact a_iretZ (pc := 109) dX11_doCross_109 rfl (by decide) h
            · replace h := h.2 hc
              refine a_if_eq (pc := 101) 108 dX11_doCross_101 rfl ⟨fun _ => ?_, fun hc => absurd hc (by decide)⟩
              refine a_iconst (pc := 108) dX11_doCross_108 (cnb rfl) ?_
              exact a_iretZ (pc := 109) dX11_doCross_109 rfl (by decide) h
    · replace h := h.2 hc
      refine a_iconst (pc := 51) dX11_doCross_51 (cnb rfl) ?_
      refine a_goto (pc := 52) 56 dX11_doCross_52 rfl ?_
      refine a_istore (pc := 56) dX11_doCross_56 (Nat.le_of_ble_eq_true rfl) ?_
      refine a_iload (pc := 58) dX11_doCross_58 rfl ?_
      refine a_if_eq (pc := 60) 68 dX11_doCross_60 rfl ⟨fun _ => ?_, fun hc => absurd hc (by decide)⟩
      refine a_iload_n (pc := 68) dX11_doCross_68 rfl ?_
      refine a_iload_n (pc := 69) dX11_doCross_69 rfl ?_
      refine a_iload_n (pc := 70) dX11_doCross_70 rfl ?_
      refine a_callSi (pc := 71) (d := 2) (st := []) [.inl a, .inl b, .inl c] dX11_doCross_71 l_X11_323 st_X11_isOnWay rfl ⟨Nat.le_of_ble_eq_true rfl, Nat.le_of_ble_eq_true rfl⟩ ⟨Nat.le_of_ble_eq_true rfl, Nat.le_of_ble_eq_true rfl⟩ (Nat.le_of_ble_eq_true rfl) ?_
      have hp71_1 := h.1
      replace h := h.2
      have hp71_2 := h.1
      replace h := h.2
      have hp71_3 := h.1
      replace h := h.2
      refine p_X11_isOnWay hp71_1 hp71_2 hp71_3 ⟨fun hc => ?_, fun hc => ?_⟩
      · replace h := h.1 hc
        refine a_if_ne (pc := 74) 104 dX11_doCross_74 rfl ⟨fun _ => ?_, fun hc => absurd hc (by decide)⟩
        refine a_iconst (pc := 104) dX11_doCross_104 (cnb rfl) ?_
        refine a_goto (pc := 105) 109 dX11_doCross_105 rfl ?_
        exact a_iretZ (pc := 109) dX11_doCross_109 rfl (by decide) h
      · replace h := h.2 hc
        refine a_if_ne (pc := 74) 104 dX11_doCross_74 rfl ⟨fun hc => absurd hc (by decide), fun _ => ?_⟩
        refine a_iload_n (pc := 77) dX11_doCross_77 rfl ?_
        refine a_iload_n (pc := 78) dX11_doCross_78 rfl ?_
        refine a_iload_n (pc := 79) dX11_doCross_79 rfl ?_
        refine a_callSi (pc := 80) (d := 2) (st := []) [.inl a, .inl b, .inl d] dX11_doCross_80 l_X11_323 st_X11_isOnWay rfl ⟨Nat.le_of_ble_eq_true rfl, Nat.le_of_ble_eq_true rfl⟩ ⟨Nat.le_of_ble_eq_true rfl, Nat.le_of_ble_eq_true rfl⟩ (Nat.le_of_ble_eq_true rfl) ?_
        have hp80_1 := h.1
        replace h := h.2
        have hp80_2 := h.1
        replace h := h.2
        have hp80_3 := h.1
        replace h := h.2
        refine p_X11_isOnWay hp80_1 hp80_2 hp80_3 ⟨fun hc => ?_, fun hc => ?_⟩
        · replace h := h.1 hc
          refine a_if_ne (pc := 83) 104 dX11_doCross_83 rfl ⟨fun _ => ?_, fun hc => absurd hc (by decide)⟩
          refine a_iconst (pc := 104) dX11_doCross_104 (cnb rfl) ?_
          refine a_goto (pc := 105) 109 dX11_doCross_105 rfl ?_
          exact a_iretZ (pc := 109) dX11_doCross_109 rfl (by decide) h
        · replace h := h.2 hc
          refine a_if_ne (pc := 83) 104 dX11_doCross_83 rfl ⟨fun hc => absurd hc (by decide), fun _ => ?_⟩
          refine a_iload_n (pc := 86) dX11_doCross_86 rfl ?_
          refine a_iload_n (pc := 87) dX11_doCross_87 rfl ?_
          refine a_iload_n (pc := 88) dX11_doCross_88 rfl ?_
          refine a_callSi (pc := 89) (d := 2) (st := []) [.inl c, .inl d, .inl a] dX11_doCross_89 l_X11_323 st_X11_isOnWay rfl ⟨Nat.le_of_ble_eq_true rfl, Nat.le_of_ble_eq_true rfl⟩ ⟨Nat.le_of_ble_eq_true rfl, Nat.le_of_ble_eq_true rfl⟩ (Nat.le_of_ble_eq_true rfl) ?_
          have hp89_1 := h.1
          replace h := h.2
          have hp89_2 := h.1
          replace h := h.2
          have hp89_3 := h.1
          replace h := h.2
          refine p_X11_isOnWay hp89_1 hp89_2 hp89_3 ⟨fun hc => ?_, fun hc => ?_⟩
          · replace h := h.1 hc
            refine a_if_ne (pc := 92) 104 dX11_doCross_92 rfl ⟨fun _ => ?_, fun hc => absurd hc (by decide)⟩
            refine a_iconst (pc := 104) dX11_doCross_104 (cnb rfl) ?_
            refine a_goto (pc := 105) 109 dX11_doCross_105 rfl ?_
            exact a_iretZ (pc := 109) dX11_doCross_109 rfl (by decide) h
          · replace h := h.2 hc
            refine a_if_ne (pc := 92) 104 dX11_doCross_92 rfl ⟨fun hc => absurd hc (by decide), fun _ => ?_⟩
            refine a_iload_n (pc := 95) dX11_doCross_95 rfl ?_
            refine a_iload_n (pc := 96) dX11_doCross_96 rfl ?_
            refine a_iload_n (pc := 97) dX11_doCross_97 rfl ?_
            refine a_callSi (pc := 98) (d := 2) (st := []) [.inl c, .inl d, .inl b] dX11_doCross_98 l_X11_323 st_X11_isOnWay rfl ⟨Nat.le_of_ble_eq_true rfl, Nat.le_of_ble_eq_true rfl⟩ ⟨Nat.le_of_ble_eq_true rfl, Nat.le_of_ble_eq_true rfl⟩ (Nat.le_of_ble_eq_true rfl) ?_
            have hp98_1 := h.1
            replace h := h.2
            have hp98_2 := h.1
            replace h := h.2
            have hp98_3 := h.1
            replace h := h.2
            refine p_X11_isOnWay hp98_1 hp98_2 hp98_3 ⟨fun hc => ?_, fun hc => ?_⟩
            · replace h := h.1 hc
              refine a_if_eq (pc := 101) 108 dX11_doCross_101 rfl ⟨fun hc => absurd hc (by decide), fun _ => ?_⟩
              refine a_iconst (pc := 104) dX11_doCross_104 (cnb rfl) ?_
              refine a_goto (pc := 105) 109 dX11_doCross_105 rfl ?_
              exact a_iretZ (pc := 109) dX11_doCross_109 rfl (by decide) h
            · replace h := h.2 hc
              refine a_if_eq (pc := 101) 108 dX11_doCross_101 rfl ⟨fun _ => ?_, fun hc => absurd hc (by decide)⟩
              refine a_iconst (pc := 108) dX11_doCross_108 (cnb rfl) ?_
              exact a_iretZ (pc := 109) dX11_doCross_109 rfl (by decide) h
  · replace h := h.2 hc
    refine a_iconst (pc := 22) dX11_doCross_22 (cnb rfl) ?_
    refine a_goto (pc := 23) 27 dX11_doCross_23 rfl ?_
    refine a_istore (pc := 27) dX11_doCross_27 (Nat.le_of_ble_eq_true rfl) ?_
    refine a_iload_n (pc := 29) dX11_doCross_29 rfl ?_
    refine a_iload_n (pc := 30) dX11_doCross_30 rfl ?_
    refine a_iload_n (pc := 31) dX11_doCross_31 rfl ?_
    refine a_callSi (pc := 32) (d := 0) (st := []) [.inl c, .inl d, .inl a] dX11_doCross_32 l_X11_316 st_X11_side rfl ⟨Nat.le_of_ble_eq_true rfl, Nat.le_of_ble_eq_true rfl⟩ ⟨Nat.le_of_ble_eq_true rfl, Nat.le_of_ble_eq_true rfl⟩ (Nat.le_of_ble_eq_true rfl) ?_
    have hp32_1 := h.1
    replace h := h.2
    have hp32_2 := h.1
    replace h := h.2
    have hp32_3 := h.1
    replace h := h.2
    refine p_X11_side hp32_1 hp32_2 hp32_3 ?_
    refine a_callSi (pc := 35) (d := 0) (st := []) [.inl (sd c d a)] dX11_doCross_35 l_X11_320 st_J6_signum_0f7a4 rfl ⟨Nat.le_of_ble_eq_true rfl, Nat.le_of_ble_eq_true rfl⟩ ⟨Nat.le_of_ble_eq_true rfl, Nat.le_of_ble_eq_true rfl⟩ (Nat.le_of_ble_eq_true rfl) ?_
    have hp35_4 := h.1
    replace h := h.2
    refine p_signum hp35_4 ?_
    refine a_iload_n (pc := 38) dX11_doCross_38 rfl ?_
    refine a_iload_n (pc := 39) dX11_doCross_39 rfl ?_
    refine a_iload_n (pc := 40) dX11_doCross_40 rfl ?_
    refine a_callSi (pc := 41) (d := 0) (st := [.inl (sgn (sd c d a))]) [.inl c, .inl d, .inl b] dX11_doCross_41 l_X11_316 st_X11_side rfl ⟨Nat.le_of_ble_eq_true rfl, Nat.le_of_ble_eq_true rfl⟩ ⟨Nat.le_of_ble_eq_true rfl, Nat.le_of_ble_eq_true rfl⟩ (Nat.le_of_ble_eq_true rfl) ?_
    have hp41_5 := h.1
    replace h := h.2
    have hp41_6 := h.1
    replace h := h.2
    have hp41_7 := h.1
    replace h := h.2
    refine p_X11_side hp41_5 hp41_6 hp41_7 ?_
    refine a_callSi (pc := 44) (d := 0) (st := [.inl (sgn (sd c d a))]) [.inl (sd c d b)] dX11_doCross_44 l_X11_320 st_J6_signum_0f7a4 rfl ⟨Nat.le_of_ble_eq_true rfl, Nat.le_of_ble_eq_true rfl⟩ ⟨Nat.le_of_ble_eq_true rfl, Nat.le_of_ble_eq_true rfl⟩ (Nat.le_of_ble_eq_true rfl) ?_
    have hp44_8 := h.1
    replace h := h.2
    refine p_signum hp44_8 ?_
    refine a_imul (pc := 47) dX11_doCross_47 h.1 ?_
    replace h := h.2
    refine a_if_ge (pc := 48) 55 dX11_doCross_48 rfl ⟨fun hc => ?_, fun hc => ?_⟩
    · replace h := h.1 hc
      refine a_iconst (pc := 55) dX11_doCross_55 (cnb rfl) ?_
      refine a_istore (pc := 56) dX11_doCross_56 (Nat.le_of_ble_eq_true rfl) ?_
      refine a_iload (pc := 58) dX11_doCross_58 rfl ?_
      refine a_if_eq (pc := 60) 68 dX11_doCross_60 rfl ⟨fun hc => absurd hc (by decide), fun _ => ?_⟩
      refine a_iload (pc := 63) dX11_doCross_63 rfl ?_
      refine a_if_ne (pc := 65) 104 dX11_doCross_65 rfl ⟨fun hc => absurd hc (by decide), fun _ => ?_⟩
      refine a_iload_n (pc := 68) dX11_doCross_68 rfl ?_
      refine a_iload_n (pc := 69) dX11_doCross_69 rfl ?_
      refine a_iload_n (pc := 70) dX11_doCross_70 rfl ?_
      refine a_callSi (pc := 71) (d := 2) (st := []) [.inl a, .inl b, .inl c] dX11_doCross_71 l_X11_323 st_X11_isOnWay rfl ⟨Nat.le_of_ble_eq_true rfl, Nat.le_of_ble_eq_true rfl⟩ ⟨Nat.le_of_ble_eq_true rfl, Nat.le_of_ble_eq_true rfl⟩ (Nat.le_of_ble_eq_true rfl) ?_
      have hp71_1 := h.1
      replace h := h.2
      have hp71_2 := h.1
      replace h := h.2
      have hp71_3 := h.1
      replace h := h.2
      refine p_X11_isOnWay hp71_1 hp71_2 hp71_3 ⟨fun hc => ?_, fun hc => ?_⟩
      · replace h := h.1 hc
        refine a_if_ne (pc := 74) 104 dX11_doCross_74 rfl ⟨fun _ => ?_, fun hc => absurd hc (by decide)⟩
        refine a_iconst (pc := 104) dX11_doCross_104 (cnb rfl) ?_
        refine a_goto (pc := 105) 109 dX11_doCross_105 rfl ?_
        exact a_iretZ (pc := 109) dX11_doCross_109 rfl (by decide) h
      · replace h := h.2 hc
        refine a_if_ne (pc := 74) 104 dX11_doCross_74 rfl ⟨fun hc => absurd hc (by decide), fun _ => ?_⟩
        refine a_iload_n (pc := 77) dX11_doCross_77 rfl ?_
        refine a_iload_n (pc := 78) dX11_doCross_78 rfl ?_
        refine a_iload_n (pc := 79) dX11_doCross_79 rfl ?_
        refine a_callSi (pc := 80) (d := 2) (st := []) [.inl a, .inl b, .inl d] dX11_doCross_80 l_X11_323 st_X11_isOnWay rfl ⟨Nat.le_of_ble_eq_true rfl, Nat.le_of_ble_eq_true rfl⟩ ⟨Nat.le_of_ble_eq_true rfl, Nat.le_of_ble_eq_true rfl⟩ (Nat.le_of_ble_eq_true rfl) ?_
        have hp80_1 := h.1
        replace h := h.2
        have hp80_2 := h.1
        replace h := h.2
        have hp80_3 := h.1
        replace h := h.2
        refine p_X11_isOnWay hp80_1 hp80_2 hp80_3 ⟨fun hc => ?_, fun hc => ?_⟩
        · replace h := h.1 hc
          refine a_if_ne (pc := 83) 104 dX11_doCross_83 rfl ⟨fun _ => ?_, fun hc => absurd hc (by decide)⟩
          refine a_iconst (pc := 104) dX11_doCross_104 (cnb rfl) ?_
          refine a_goto (pc := 105) 109 dX11_doCross_105 rfl ?_
          exact a_iretZ (pc := 109) dX11_doCross_109 rfl (by decide) h
        · replace h := h.2 hc
          refine a_if_ne (pc := 83) 104 dX11_doCross_83 rfl ⟨fun hc => absurd hc (by decide), fun _ => ?_⟩
          refine a_iload_n (pc := 86) dX11_doCross_86 rfl ?_
          refine a_iload_n (pc := 87) dX11_doCross_87 rfl ?_
          refine a_iload_n (pc := 88) dX11_doCross_88 rfl ?_
          refine a_callSi (pc := 89) (d := 2) (st := []) [.inl c, .inl d, .inl a] dX11_doCross_89 l_X11_323 st_X11_isOnWay rfl ⟨Nat.le_of_ble_eq_true rfl, Nat.le_of_ble_eq_true rfl⟩ ⟨Nat.le_of_ble_eq_true rfl, Nat.le_of_ble_eq_true rfl⟩ (Nat.le_of_ble_eq_true rfl) ?_
          have hp89_1 := h.1
          replace h := h.2
          have hp89_2 := h.1
          replace h := h.2
          have hp89_3 := h.1
          replace h := h.2
          refine p_X11_isOnWay hp89_1 hp89_2 hp89_3 ⟨fun hc => ?_, fun hc => ?_⟩
          · replace h := h.1 hc
            refine a_if_ne (pc := 92) 104 dX11_doCross_92 rfl ⟨fun _ => ?_, fun hc => absurd hc (by decide)⟩
            refine a_iconst (pc := 104) dX11_doCross_104 (cnb rfl) ?_
            refine a_goto (pc := 105) 109 dX11_doCross_105 rfl ?_
            exact a_iretZ (pc := 109) dX11_doCross_109 rfl (by decide) h
          · replace h := h.2 hc
            refine a_if_ne (pc := 92) 104 dX11_doCross_92 rfl ⟨fun hc => absurd hc (by decide), fun _ => ?_⟩
            refine a_iload_n (pc := 95) dX11_doCross_95 rfl ?_
            refine a_iload_n (pc := 96) dX11_doCross_96 rfl ?_
            refine a_iload_n (pc := 97) dX11_doCross_97 rfl ?_
            refine a_callSi (pc := 98) (d := 2) (st := []) [.inl c, .inl d, .inl b] dX11_doCross_98 l_X11_323 st_X11_isOnWay rfl ⟨Nat.le_of_ble_eq_true rfl, Nat.le_of_ble_eq_true rfl⟩ ⟨Nat.le_of_ble_eq_true rfl, Nat.le_of_ble_eq_true rfl⟩ (Nat.le_of_ble_eq_true rfl) ?_
            have hp98_1 := h.1
            replace h := h.2
            have hp98_2 := h.1
            replace h := h.2
            have hp98_3 := h.1
            replace h := h.2
            refine p_X11_isOnWay hp98_1 hp98_2 hp98_3 ⟨fun hc => ?_, fun hc => ?_⟩
            · replace h := h.1 hc
              refine a_if_eq (pc := 101) 108 dX11_doCross_101 rfl ⟨fun hc => absurd hc (by decide), fun _ => ?_⟩
              refine a_iconst (pc := 104) dX11_doCross_104 (cnb rfl) ?_
              refine a_goto (pc := 105) 109 dX11_doCross_105 rfl ?_
              exact a_iretZ (pc := 109) dX11_doCross_109 rfl (by decide) h
            · replace h := h.2 hc
              refine a_if_eq (pc := 101) 108 dX11_doCross_101 rfl ⟨fun _ => ?_, fun hc => absurd hc (by decide)⟩
              refine a_iconst (pc := 108) dX11_doCross_108 (cnb rfl) ?_
              exact a_iretZ (pc := 109) dX11_doCross_109 rfl (by decide) h
    · replace h := h.2 hc
      refine a_iconst (pc := 51) dX11_doCross_51 (cnb rfl) ?_
      refine a_goto (pc := 52) 56 dX11_doCross_52 rfl ?_
      refine a_istore (pc := 56) dX11_doCross_56 (Nat.le_of_ble_eq_true rfl) ?_
      refine a_iload (pc := 58) dX11_doCross_58 rfl ?_
      refine a_if_eq (pc := 60) 68 dX11_doCross_60 rfl ⟨fun hc => absurd hc (by decide), fun _ => ?_⟩
      refine a_iload (pc := 63) dX11_doCross_63 rfl ?_
      refine a_if_ne (pc := 65) 104 dX11_doCross_65 rfl ⟨fun _ => ?_, fun hc => absurd hc (by decide)⟩
      refine a_iconst (pc := 104) dX11_doCross_104 (cnb rfl) ?_
      refine a_goto (pc := 105) 109 dX11_doCross_105 rfl ?_
      exact a_iretZ (pc := 109) dX11_doCross_109 rfl (by decide) h
set_option maxRecDepth 20000 in
theorem e_X11_doCross {Q : Int → Me → Prop}  {a b c d : Int} {M : Me} (h :
    pl a ∧
    pl b ∧
    pl c ∧
    (-800 ≤ (sd a b c) ∧ (sd a b c) ≤ 800) ∧
    pl a ∧
    pl b ∧
    pl d ∧
    (-800 ≤ (sd a b d) ∧ (sd a b d) ≤ 800) ∧
    cn ((sgn (sd a b c)) * (sgn (sd a b d))) ∧
    ((0 ≤ (sgn (sd a b c)) * (sgn (sd a b d)) →
    pl c ∧
    pl d ∧
    pl a ∧
    (-800 ≤ (sd c d a) ∧ (sd c d a) ≤ 800) ∧
    pl c ∧
    pl d ∧
    pl b ∧
    (-800 ≤ (sd c d b) ∧ (sd c d b) ≤ 800) ∧
    cn ((sgn (sd c d a)) * (sgn (sd c d b))) ∧
    ((0 ≤ (sgn (sd c d a)) * (sgn (sd c d b)) →
    pl a ∧
    pl b ∧
    pl c ∧
    ((onW a b c →
    Q 1 M) ∧ (¬ (onW a b c) →
    pl a ∧
    pl b ∧
    pl d ∧
    ((onW a b d →
    Q 1 M) ∧ (¬ (onW a b d) →
    pl c ∧
    pl d ∧
    pl a ∧
    ((onW c d a →
    Q 1 M) ∧ (¬ (onW c d a) →
    pl c ∧
    pl d ∧
    pl b ∧
    ((onW c d b →
    Q 1 M) ∧ (¬ (onW c d b) →
    Q 0 M))))))))) ∧ ((sgn (sd c d a)) * (sgn (sd c d b)) < 0 →
    pl a ∧
    pl b ∧
    pl c ∧
    ((onW a b c →
    Q 1 M) ∧ (¬ (onW a b c) →
    pl a ∧
    pl b ∧
    pl d ∧
    ((onW a b d →
    Q 1 M) ∧ (¬ (onW a b d) →
    pl c ∧
    pl d ∧
    pl a ∧
    ((onW c d a →
    Q 1 M) ∧ (¬ (onW c d a) →
    pl c ∧
    pl d ∧
    pl b ∧
    ((onW c d b →
    Q 1 M) ∧ (¬ (onW c d b) →
    Q 0 M))))))))))) ∧ ((sgn (sd a b c)) * (sgn (sd a b d)) < 0 →
    pl c ∧
    pl d ∧
    pl a ∧
    (-800 ≤ (sd c d a) ∧ (sd c d a) ≤ 800) ∧
    pl c ∧
    pl d ∧
    pl b ∧
    (-800 ≤ (sd c d b) ∧ (sd c d b) ≤ 800) ∧
    cn ((sgn (sd c d a)) * (sgn (sd c d b))) ∧
    ((0 ≤ (sgn (sd c d a)) * (sgn (sd c d b)) →
    pl a ∧
    pl b ∧
    pl c ∧
    ((onW a b c →
    Q 1 M) ∧ (¬ (onW a b c) →
    pl a ∧
    pl b ∧
    pl d ∧
    ((onW a b d →
    Q 1 M) ∧ (¬ (onW a b d) →
    pl c ∧
    pl d ∧
    pl a ∧
    ((onW c d a →
    Q 1 M) ∧ (¬ (onW c d a) →
    pl c ∧
    pl d ∧
    pl b ∧
    ((onW c d b →
    Q 1 M) ∧ (¬ (onW c d b) →
    Q 0 M))))))))) ∧ ((sgn (sd c d a)) * (sgn (sd c d b)) < 0 →
    Q 1 M))))) : Calls 3 mX11_doCross [.inl a, .inl b, .inl c, .inl d] M Q := Calls.of (by decide) (Nat.le_of_ble_eq_true rfl) (s_X11_doCross_0  a b c d M h)
set_option maxRecDepth 20000 in
theorem s_X12_crosses_0 {Q : Int → Me → Prop}  (a b c d : Int) (M : Me) (h :
    0 ≤ a ∧
    0 ≤ b ∧
    0 ≤ c ∧
    0 ≤ d ∧
    ((ovl (a % 24) (b % 24) (c % 24) (d % 24) →
    0 ≤ a ∧
    0 ≤ b ∧
    0 ≤ c ∧
    0 ≤ d ∧
    ((ovl (a / 24) (b / 24) (c / 24) (d / 24) →
    pl a ∧
    pl b ∧
    pl c ∧
    pl a ∧
    pl b ∧
    pl d ∧
    pl c ∧
    pl d ∧
    pl a ∧
    pl c ∧
    pl d ∧
    pl b ∧
    ((sd a b c ≤ 0 →
    ((0 ≤ sd a b c →
    ((sd c d a ≤ 0 →
    ((0 ≤ sd c d a →
    Q 1 M) ∧ (sd c d a < 0 →
    ((sd c d b < 0 →
    Q 0 M) ∧ (0 ≤ sd c d b →
    Q 1 M))))) ∧ (0 < sd c d a →
    ((0 < sd c d b →
    Q 0 M) ∧ (sd c d b ≤ 0 →
    ((0 ≤ sd c d a →
    Q 1 M) ∧ (sd c d a < 0 →
    ((sd c d b < 0 →
    Q 0 M) ∧ (0 ≤ sd c d b →
    Q 1 M))))))))) ∧ (sd a b c < 0 →
    ((sd a b d < 0 →
    Q 0 M) ∧ (0 ≤ sd a b d →
    ((sd c d a ≤ 0 →
    ((0 ≤ sd c d a →
    Q 1 M) ∧ (sd c d a < 0 →
    ((sd c d b < 0 →
    Q 0 M) ∧ (0 ≤ sd c d b →
    Q 1 M))))) ∧ (0 < sd c d a →
    ((0 < sd c d b →
    Q 0 M) ∧ (sd c d b ≤ 0 →
    ((0 ≤ sd c d a →
    Q 1 M) ∧ (sd c d a < 0 →
    ((sd c d b < 0 →
    Q 0 M) ∧ (0 ≤ sd c d b →
    Q 1 M))))))))))))) ∧ (0 < sd a b c →
    ((0 < sd a b d →
    Q 0 M) ∧ (sd a b d ≤ 0 →
    ((0 ≤ sd a b c →
    ((sd c d a ≤ 0 →
    ((0 ≤ sd c d a →
    Q 1 M) ∧ (sd c d a < 0 →
    ((sd c d b < 0 →
    Q 0 M) ∧ (0 ≤ sd c d b →
    Q 1 M))))) ∧ (0 < sd c d a →
    ((0 < sd c d b →
    Q 0 M) ∧ (sd c d b ≤ 0 →
    ((0 ≤ sd c d a →
    Q 1 M) ∧ (sd c d a < 0 →
    ((sd c d b < 0 →
    Q 0 M) ∧ (0 ≤ sd c d b →
    Q 1 M))))))))) ∧ (sd a b c < 0 →
    ((sd a b d < 0 →
    Q 0 M) ∧ (0 ≤ sd a b d →
    ((sd c d a ≤ 0 →
    ((0 ≤ sd c d a →
    Q 1 M) ∧ (sd c d a < 0 →
    ((sd c d b < 0 →
    Q 0 M) ∧ (0 ≤ sd c d b →
    Q 1 M))))) ∧ (0 < sd c d a →
    ((0 < sd c d b →
    Q 0 M) ∧ (sd c d b ≤ 0 →
    ((0 ≤ sd c d a →
    Q 1 M) ∧ (sd c d a < 0 →
    ((sd c d b < 0 →
    Q 0 M) ∧ (0 ≤ sd c d b →
    Q 1 M))))))))))))))))) ∧ (¬ (ovl (a / 24) (b / 24) (c / 24) (d / 24)) →
    Q 0 M))) ∧ (¬ (ovl (a % 24) (b % 24) (c % 24) (d % 24)) →
    Q 0 M))) :
    Go (km 2 mX12_crosses Q) 0 [some (.inl a), some (.inl b), some (.inl c), some (.inl d), none, none, none, none] [] M := by
  refine a_iload_n (pc := 0) dX12_crosses_0 rfl ?_
  refine a_bipush (pc := 1) dX12_crosses_1 (by decide) (cnb rfl) ?_
  refine a_iremn (pc := 3) dX12_crosses_3 (by decide) h.1 ?_
  replace h := h.2
  refine a_iload_n (pc := 4) dX12_crosses_4 rfl ?_
  refine a_bipush (pc := 5) dX12_crosses_5 (by decide) (cnb rfl) ?_
  refine a_iremn (pc := 7) dX12_crosses_7 (by decide) h.1 ?_
  replace h := h.2
  refine a_iload_n (pc := 8) dX12_crosses_8 rfl ?_
  refine a_bipush (pc := 9) dX12_crosses_9 (by decide) (cnb rfl) ?_
  refine a_iremn (pc := 11) dX12_crosses_11 (by decide) h.1 ?_
  replace h := h.2
  refine a_iload_n (pc := 12) dX12_crosses_12 rfl ?_
  refine a_bipush (pc := 13) dX12_crosses_13 (by decide) (cnb rfl) ?_
  refine a_iremn (pc := 15) dX12_crosses_15 (by decide) h.1 ?_
  replace h := h.2
  refine a_callSi (pc := 16) (d := 1) (st := []) [.inl (a % 24), .inl (b % 24), .inl (c % 24), .inl (d % 24)] dX12_crosses_16 l_X12_386 st_X12_between rfl ⟨Nat.le_of_ble_eq_true rfl, Nat.le_of_ble_eq_true rfl⟩ ⟨Nat.le_of_ble_eq_true rfl, Nat.le_of_ble_eq_true rfl⟩ (Nat.le_of_ble_eq_true rfl) ?_
  refine p_X12_between ⟨fun hc => ?_, fun hc => ?_⟩
  · replace h := h.1 hc
    refine a_if_eq (pc := 19) 44 dX12_crosses_19 rfl ⟨fun hc => absurd hc (by decide), fun _ => ?_⟩
    refine a_iload_n (pc := 22) dX12_crosses_22 rfl ?_
    refine a_bipush (pc := 23) dX12_crosses_23 (by decide) (cnb rfl) ?_
    refine a_idivn (pc := 25) dX12_crosses_25 (by decide) h.1 ?_
    replace h := h.2
    refine a_iload_n (pc := 26) dX12_crosses_26 rfl ?_
    refine a_bipush (pc := 27) dX12_crosses_27 (by decide) (cnb rfl) ?_
    refine a_idivn (pc := 29) dX12_crosses_29 (by decide) h.1 ?_
    replace h := h.2
    refine a_iload_n (pc := 30) dX12_crosses_30 rfl ?_
    refine a_bipush (pc := 31) dX12_crosses_31 (by decide) (cnb rfl) ?_
    refine a_idivn (pc := 33) dX12_crosses_33 (by decide) h.1 ?_
    replace h := h.2
    refine a_iload_n (pc := 34) dX12_crosses_34 rfl ?_
    refine a_bipush (pc := 35) dX12_crosses_35 (by decide) (cnb rfl) ?_
    refine a_idivn (pc := 37) dX12_crosses_37 (by decide) h.1 ?_
    replace h := h.2
    refine a_callSi (pc := 38) (d := 1) (st := []) [.inl (a / 24), .inl (b / 24), .inl (c / 24), .inl (d / 24)] dX12_crosses_38 l_X12_386 st_X12_between rfl ⟨Nat.le_of_ble_eq_true rfl, Nat.le_of_ble_eq_true rfl⟩ ⟨Nat.le_of_ble_eq_true rfl, Nat.le_of_ble_eq_true rfl⟩ (Nat.le_of_ble_eq_true rfl) ?_
    refine p_X12_between ⟨fun hc => ?_, fun hc => ?_⟩
    · replace h := h.1 hc
      refine a_if_ne (pc := 41) 46 dX12_crosses_41 rfl ⟨fun _ => ?_, fun hc => absurd hc (by decide)⟩
      refine a_iload_n (pc := 46) dX12_crosses_46 rfl ?_
      refine a_iload_n (pc := 47) dX12_crosses_47 rfl ?_
      refine a_iload_n (pc := 48) dX12_crosses_48 rfl ?_
      refine a_callSi (pc := 49) (d := 0) (st := []) [.inl a, .inl b, .inl c] dX12_crosses_49 l_X12_377 st_X12_sideOf rfl ⟨Nat.le_of_ble_eq_true rfl, Nat.le_of_ble_eq_true rfl⟩ ⟨Nat.le_of_ble_eq_true rfl, Nat.le_of_ble_eq_true rfl⟩ (Nat.le_of_ble_eq_true rfl) ?_
      have hp49_1 := h.1
      replace h := h.2
      have hp49_2 := h.1
      replace h := h.2
      have hp49_3 := h.1
      replace h := h.2
      refine p_X12_sideOf hp49_1 hp49_2 hp49_3 ?_
      refine a_istore (pc := 52) dX12_crosses_52 (Nat.le_of_ble_eq_true rfl) ?_
      refine a_iload_n (pc := 54) dX12_crosses_54 rfl ?_
      refine a_iload_n (pc := 55) dX12_crosses_55 rfl ?_
      refine a_iload_n (pc := 56) dX12_crosses_56 rfl ?_
      refine a_callSi (pc := 57) (d := 0) (st := []) [.inl a, .inl b, .inl d] dX12_crosses_57 l_X12_377 st_X12_sideOf rfl ⟨Nat.le_of_ble_eq_true rfl, Nat.le_of_ble_eq_true rfl⟩ ⟨Nat.le_of_ble_eq_true rfl, Nat.le_of_ble_eq_true rfl⟩ (Nat.le_of_ble_eq_true rfl) ?_
      have hp57_4 := h.1
      replace h := h.2
      have hp57_5 := h.1
      replace h := h.2
      have hp57_6 := h.1
      replace h := h.2
      refine p_X12_sideOf hp57_4 hp57_5 hp57_6 ?_
      refine a_istore (pc := 60) dX12_crosses_60 (Nat.le_of_ble_eq_true rfl) ?_
      refine a_iload_n (pc := 62) dX12_crosses_62 rfl ?_
      refine a_iload_n (pc := 63) dX12_crosses_63 rfl ?_
      refine a_iload_n (pc := 64) dX12_crosses_64 rfl ?_
      refine a_callSi (pc := 65) (d := 0) (st := []) [.inl c, .inl d, .inl a] dX12_crosses_65 l_X12_377 st_X12_sideOf rfl ⟨Nat.le_of_ble_eq_true rfl, Nat.le_of_ble_eq_true rfl⟩ ⟨Nat.le_of_ble_eq_true rfl, Nat.le_of_ble_eq_true rfl⟩ (Nat.le_of_ble_eq_true rfl) ?_
      have hp65_7 := h.1
      replace h := h.2
      have hp65_8 := h.1
      replace h := h.2
      have hp65_9 := h.1
      replace h := h.2
      refine p_X12_sideOf hp65_7 hp65_8 hp65_9 ?_
      refine a_istore (pc := 68) dX12_crosses_68 (Nat.le_of_ble_eq_true rfl) ?_
      refine a_iload_n (pc := 70) dX12_crosses_70 rfl ?_
      refine a_iload_n (pc := 71) dX12_crosses_71 rfl ?_
      refine a_iload_n (pc := 72) dX12_crosses_72 rfl ?_
      refine a_callSi (pc := 73) (d := 0) (st := []) [.inl c, .inl d, .inl b] dX12_crosses_73 l_X12_377 st_X12_sideOf rfl ⟨Nat.le_of_ble_eq_true rfl, Nat.le_of_ble_eq_true rfl⟩ ⟨Nat.le_of_ble_eq_true rfl, Nat.le_of_ble_eq_true rfl⟩ (Nat.le_of_ble_eq_true rfl) ?_
      have hp73_10 := h.1
      replace h := h.2
      have hp73_11 := h.1
      replace h := h.2
      have hp73_12 := h.1
      replace h := h.2
      refine p_X12_sideOf hp73_10 hp73_11 hp73_12 ?_
      refine a_istore (pc := 76) dX12_crosses_76 (Nat.le_of_ble_eq_true rfl) ?_
      refine a_iload (pc := 78) dX12_crosses_78 rfl ?_
      refine a_if_le (pc := 80) 88 dX12_crosses_80 rfl ⟨fun hc => ?_, fun hc => ?_⟩
      · replace h := h.1 hc
        refine a_iload (pc := 88) dX12_crosses_88 rfl ?_
        refine a_if_ge (pc := 90) 98 dX12_crosses_90 rfl ⟨fun hc => ?_, fun hc => ?_⟩
        · replace h := h.1 hc
          refine a_iload (pc := 98) dX12_crosses_98 rfl ?_
          refine a_if_le (pc := 100) 108 dX12_crosses_100 rfl ⟨fun hc => ?_, fun hc => ?_⟩
          · replace h := h.1 hc
            refine a_iload (pc := 108) dX12_crosses_108 rfl ?_
            refine a_if_ge (pc := 110) 118 dX12_crosses_110 rfl ⟨fun hc => ?_, fun hc => ?_⟩
            · replace h := h.1 hc
              refine a_iconst (pc := 118) dX12_crosses_118 (cnb rfl) ?_
              refine a_goto (pc := 119) 123 dX12_crosses_119 rfl ?_
              exact a_iretZ (pc := 123) dX12_crosses_123 rfl (by decide) h
            · replace h := h.2 hc
              refine a_iload (pc := 113) dX12_crosses_113 rfl ?_
              refine a_if_lt (pc := 115) 122 dX12_crosses_115 rfl ⟨fun hc => ?_, fun hc => ?_⟩
              · replace h := h.1 hc
                refine a_iconst (pc := 122) dX12_crosses_122 (cnb rfl) ?_
                exact a_iretZ (pc := 123) dX12_crosses_123 rfl (by decide) h
              · replace h := h.2 hc
                refine a_iconst (pc := 118) dX12_crosses_118 (cnb rfl) ?_
                refine a_goto (pc := 119) 123 dX12_crosses_119 rfl ?_
                exact a_iretZ (pc := 123) dX12_crosses_123 rfl (by decide) h
          · replace h := h.2 hc
            refine a_iload (pc := 103) dX12_crosses_103 rfl ?_
            refine a_if_gt (pc := 105) 122 dX12_crosses_105 rfl ⟨fun hc => ?_, fun hc => ?_⟩
            · replace h := h.1 hc
              refine a_iconst (pc := 122) dX12_crosses_122 (cnb rfl) ?_
              exact a_iretZ (pc := 123) dX12_crosses_123 rfl (by decide) h
            · replace h := h.2 hc
              refine a_iload (pc := 108) dX12_crosses_108 rfl ?_
              refine a_if_ge (pc := 110) 118 dX12_crosses_110 rfl ⟨fun hc => ?_, fun hc => ?_⟩
              · replace h := h.1 hc
                refine a_iconst (pc := 118) dX12_crosses_118 (cnb rfl) ?_
                refine a_goto (pc := 119) 123 dX12_crosses_119 rfl ?_
                exact a_iretZ (pc := 123) dX12_crosses_123 rfl (by decide) h
              · replace h := h.2 hc
                refine a_iload (pc := 113) dX12_crosses_113 rfl ?_
                refine a_if_lt (pc := 115) 122 dX12_crosses_115 rfl ⟨fun hc => ?_, fun hc => ?_⟩
                · replace h := h.1 hc
                  refine a_iconst (pc := 122) dX12_crosses_122 (cnb rfl) ?_
                  exact a_iretZ (pc := 123) dX12_crosses_123 rfl (by decide) h
                · replace h := h.2 hc
                  refine a_iconst (pc := 118) dX12_crosses_118 (cnb rfl) ?_
                  refine a_goto (pc := 119) 123 dX12_crosses_119 rfl ?_
                  exact a_iretZ (pc := 123) dX12_crosses_123 rfl (by decide) h
        · replace h := h.2 hc
          refine a_iload (pc := 93) dX12_crosses_93 rfl ?_
          refine a_if_lt (pc := 95) 122 dX12_crosses_95 rfl ⟨fun hc => ?_, fun hc => ?_⟩
          · replace h := h.1 hc
            refine a_iconst (pc := 122) dX12_crosses_122 (cnb rfl) ?_
            exact a_iretZ (pc := 123) dX12_crosses_123 rfl (by decide) h
          · replace h := h.2 hc
            refine a_iload (pc := 98) dX12_crosses_98 rfl ?_
            refine a_if_le (pc := 100) 108 dX12_crosses_100 rfl ⟨fun hc => ?_, fun hc => ?_⟩
            · replace h := h.1 hc
              refine a_iload (pc := 108) dX12_crosses_108 rfl ?_
              refine a_if_ge (pc := 110) 118 dX12_crosses_110 rfl ⟨fun hc => ?_, fun hc => ?_⟩
              · replace h := h.1 hc
                refine a_iconst (pc := 118) dX12_crosses_118 (cnb rfl) ?_
                refine a_goto (pc := 119) 123 dX12_crosses_119 rfl ?_
                exact a_iretZ (pc := 123) dX12_crosses_123 rfl (by decide) h
              · replace h := h.2 hc
                refine a_iload (pc := 113) dX12_crosses_113 rfl ?_
                refine a_if_lt (pc := 115) 122 dX12_crosses_115 rfl ⟨fun hc => ?_, fun hc => ?_⟩
                · replace h := h.1 hc
                  refine a_iconst (pc := 122) dX12_crosses_122 (cnb rfl) ?_
                  exact a_iretZ (pc := 123) dX12_crosses_123 rfl (by decide) h
                · replace h := h.2 hc
                  refine a_iconst (pc := 118) dX12_crosses_118 (cnb rfl) ?_
                  refine a_goto (pc := 119) 123 dX12_crosses_119 rfl ?_
                  exact a_iretZ (pc := 123) dX12_crosses_123 rfl (by decide) h
            · replace h := h.2 hc
              refine a_iload (pc := 103) dX12_crosses_103 rfl ?_
              refine a_if_gt (pc := 105) 122 dX12_crosses_105 rfl ⟨fun hc => ?_, fun hc => ?_⟩
              · replace h := h.1 hc
                refine a_iconst (pc := 122) dX12_crosses_122 (cnb rfl) ?_
                exact a_iretZ (pc := 123) dX12_crosses_123 rfl (by decide) h
              · replace h := h.2 hc
                refine a_iload (pc := 108) dX12_crosses_108 rfl ?_
                refine a_if_ge (pc := 110) 118 dX12_crosses_110 rfl ⟨fun hc => ?_, fun hc => ?_⟩
                · replace h := h.1 hc
                  refine a_iconst (pc := 118) dX12_crosses_118 (cnb rfl) ?_
                  refine a_goto (pc := 119) 123 dX12_crosses_119 rfl ?_
                  exact a_iretZ (pc := 123) dX12_crosses_123 rfl (by decide) h
                · replace h := h.2 hc
                  refine a_iload (pc := 113) dX12_crosses_113 rfl ?_
                  refine a_if_lt (pc := 115) 122 dX12_crosses_115 rfl ⟨fun hc => ?_, fun hc => ?_⟩
                  · replace h := h.1 hc
                    refine a_iconst (pc := 122) dX12_crosses_122 (cnb rfl) ?_
                    exact a_iretZ (pc := 123) dX12_crosses_123 rfl (by decide) h
                  · replace h := h.2 hc
                    refine a_iconst (pc := 118) dX12_crosses_118 (cnb rfl) ?_
                    refine a_goto (pc := 119) 123 dX12_crosses_119 rfl ?_
                    exact a_iretZ (pc := 123) dX12_crosses_123 rfl (by decide) h
      · replace h := h.2 hc
        refine a_iload (pc := 83) dX12_crosses_83 rfl ?_
        refine a_if_gt (pc := 85) 122 dX12_crosses_85 rfl ⟨fun hc => ?_, fun hc => ?_⟩
        · replace h := h.1 hc
          refine a_iconst (pc := 122) dX12_crosses_122 (cnb rfl) ?_
          exact a_iretZ (pc := 123) dX12_crosses_123 rfl (by decide) h
        · replace h := h.2 hc
          refine a_iload (pc := 88) dX12_crosses_88 rfl ?_
          refine a_if_ge (pc := 90) 98 dX12_crosses_90 rfl ⟨fun hc => ?_, fun hc => ?_⟩
          · replace h := h.1 hc
            refine a_iload (pc := 98) dX12_crosses_98 rfl ?_
            refine a_if_le (pc := 100) 108 dX12_crosses_100 rfl ⟨fun hc => ?_, fun hc => ?_⟩
            · replace h := h.1 hc
              refine a_iload (pc := 108) dX12_crosses_108 rfl ?_
              refine a_if_ge (pc := 110) 118 dX12_crosses_110 rfl ⟨fun hc => ?_, fun hc => ?_⟩
              · replace h := h.1 hc
                refine a_iconst (pc := 118) dX12_crosses_118 (cnb rfl) ?_
                refine a_goto (pc := 119) 123 dX12_crosses_119 rfl ?_
                exact a_iretZ (pc := 123) dX12_crosses_123 rfl (by decide) h
              · replace h := h.2 hc
                refine a_iload (pc := 113) dX12_crosses_113 rfl ?_
                refine a_if_lt (pc := 115) 122 dX12_crosses_115 rfl ⟨fun hc => ?_, fun hc => ?_⟩
                · replace h := h.1 hc
                  refine a_iconst (pc := 122) dX12_crosses_122 (cnb rfl) ?_
                  exact a_iretZ (pc := 123) dX12_crosses_123 rfl (by decide) h
                · replace h := h.2 hc
                  refine a_iconst (pc := 118) dX12_crosses_118 (cnb rfl) ?_
                  refine a_goto (pc := 119) 123 dX12_crosses_119 rfl ?_
                  exact a_iretZ (pc := 123) dX12_crosses_123 rfl (by decide) h
            · replace h := h.2 hc
              refine a_iload (pc := 103) dX12_crosses_103 rfl ?_
              refine a_if_gt (pc := 105) 122 dX12_crosses_105 rfl ⟨fun hc => ?_, fun hc => ?_⟩
              · replace h := h.1 hc
                refine a_iconst (pc := 122) dX12_crosses_122 (cnb rfl) ?_
                exact a_iretZ (pc := 123) dX12_crosses_123 rfl (by decide) h
              · replace h := h.2 hc
                refine a_iload (pc := 108) dX12_crosses_108 rfl ?_
                refine a_if_ge (pc := 110) 118 dX12_crosses_110 rfl ⟨fun hc => ?_, fun hc => ?_⟩
                · replace h := h.1 hc
                  refine a_iconst (pc := 118) dX12_crosses_118 (cnb rfl) ?_
                  refine a_goto (pc := 119) 123 dX12_crosses_119 rfl ?_
                  exact a_iretZ (pc := 123) dX12_crosses_123 rfl (by decide) h
                · replace h := h.2 hc
                  refine a_iload (pc := 113) dX12_crosses_113 rfl ?_
                  refine a_if_lt (pc := 115) 122 dX12_crosses_115 rfl ⟨fun hc => ?_, fun hc => ?_⟩
                  · replace h := h.1 hc
                    refine a_iconst (pc := 122) dX12_crosses_122 (cnb rfl) ?_
                    exact a_iretZ (pc := 123) dX12_crosses_123 rfl (by decide) h
                  · replace h := h.2 hc
                    refine a_iconst (pc := 118) dX12_crosses_118 (cnb rfl) ?_
                    refine a_goto (pc := 119) 123 dX12_crosses_119 rfl ?_
                    exact a_iretZ (pc := 123) dX12_crosses_123 rfl (by decide) h
          · replace h := h.2 hc
            refine a_iload (pc := 93) dX12_crosses_93 rfl ?_
            refine a_if_lt (pc := 95) 122 dX12_crosses_95 rfl ⟨fun hc => ?_, fun hc => ?_⟩
            · replace h := h.1 hc
              refine a_iconst (pc := 122) dX12_crosses_122 (cnb rfl) ?_
              exact a_iretZ (pc := 123) dX12_crosses_123 rfl (by decide) h
            · replace h := h.2 hc
              refine a_iload (pc := 98) dX12_crosses_98 rfl ?_
              refine a_if_le (pc := 100) 108 dX12_crosses_100 rfl ⟨fun hc => ?_, fun hc => ?_⟩
              · replace h := h.1 hc
                refine a_iload (pc := 108) dX12_crosses_108 rfl ?_
                refine a_if_ge (pc := 110) 118 dX12_crosses_110 rfl ⟨fun hc => ?_, fun hc => ?_⟩
                · replace h := h.1 hc
                  refine a_iconst (pc := 118) dX12_crosses_118 (cnb rfl) ?_
                  refine a_goto (pc := 119) 123 dX12_crosses_119 rfl ?_
                  exact a_iretZ (pc := 123) dX12_crosses_123 rfl (by decide) h
                · replace h := h.2 hc
                  refine a_iload (pc := 113) dX12_crosses_113 rfl ?_
                  refine a_if_lt (pc := 115) 122 dX12_crosses_115 rfl ⟨fun hc => ?_, fun hc => ?_⟩
                  · replace h := h.1 hc
                    refine a_iconst (pc := 122) dX12_crosses_122 (cnb rfl) ?_
                    exact a_iretZ (pc := 123) dX12_crosses_123 rfl (by decide) h
                  · replace h := h.2 hc
                    refine a_iconst (pc := 118) dX12_crosses_118 (cnb rfl) ?_
                    refine a_goto (pc := 119) 123 dX12_crosses_119 rfl ?_
                    exact a_iretZ (pc := 123) dX12_crosses_123 rfl (by decide) h
              · replace h := h.2 hc
                refine a_iload (pc := 103) dX12_crosses_103 rfl ?_
                refine a_if_gt (pc := 105) 122 dX12_crosses_105 rfl ⟨fun hc => ?_, fun hc => ?_⟩
                · replace h := h.1 hc
                  refine a_iconst (pc := 122) dX12_crosses_122 (cnb rfl) ?_
                  exact a_iretZ (pc := 123) dX12_crosses_123 rfl (by decide) h
                · replace h := h.2 hc
                  refine a_iload (pc := 108) dX12_crosses_108 rfl ?_
                  refine a_if_ge (pc := 110) 118 dX12_crosses_110 rfl ⟨fun hc => ?_, fun hc => ?_⟩
                  · replace h := h.1 hc
                    refine a_iconst (pc := 118) dX12_crosses_118 (cnb rfl) ?_
                    refine a_goto (pc := 119) 123 dX12_crosses_119 rfl ?_
                    exact a_iretZ (pc := 123) dX12_crosses_123 rfl (by decide) h
                  · replace h := h.2 hc
                    refine a_iload (pc := 113) dX12_crosses_113 rfl ?_
                    refine a_if_lt (pc := 115) 122 dX12_crosses_115 rfl ⟨fun hc => ?_, fun hc => ?_⟩
                    · replace h := h.1 hc
                      refine a_iconst (pc := 122) dX12_crosses_122 (cnb rfl) ?_
                      exact a_iretZ (pc := 123) dX12_crosses_123 rfl (by decide) h
                    · replace h := h.2 hc
                      refine a_iconst (pc := 118) dX12_crosses_118 (cnb rfl) ?_
                      refine a_goto (pc := 119) 123 dX12_crosses_119 rfl ?_
                      exact a_iretZ (pc := 123) dX12_crosses_123 rfl (by decide) h
    · replace h := h.2 hc
      refine a_if_ne (pc := 41) 46 dX12_crosses_41 rfl ⟨fun hc => absurd hc (by decide), fun _ => ?_⟩
      refine a_iconst (pc := 44) dX12_crosses_44 (cnb rfl) ?_
      exact a_iretZ (pc := 45) dX12_crosses_45 rfl (by decide) h
  · replace h := h.2 hc
    refine a_if_eq (pc := 19) 44 dX12_crosses_19 rfl ⟨fun _ => ?_, fun hc => absurd hc (by decide)⟩
    refine a_iconst (pc := 44) dX12_crosses_44 (cnb rfl) ?_
    exact a_iretZ (pc := 45) dX12_crosses_45 rfl (by decide) h
set_option maxRecDepth 20000 in
theorem e_X12_crosses {Q : Int → Me → Prop}  {a b c d : Int} {M : Me} (h :
    0 ≤ a ∧
    0 ≤ b ∧
    0 ≤ c ∧
    0 ≤ d ∧
    ((ovl (a % 24) (b % 24) (c % 24) (d % 24) →
    0 ≤ a ∧
    0 ≤ b ∧
    0 ≤ c ∧
    0 ≤ d ∧
    ((ovl (a / 24) (b / 24) (c / 24) (d / 24) →
    pl a ∧
    pl b ∧
    pl c ∧
    pl a ∧
    pl b ∧
    pl d ∧
    pl c ∧
    pl d ∧
    pl a ∧
    pl c ∧
    pl d ∧
    pl b ∧
    ((sd a b c ≤ 0 →
    ((0 ≤ sd a b c →
    ((sd c d a ≤ 0 →
    ((0 ≤ sd c d a →
    Q 1 M) ∧ (sd c d a < 0 →
    ((sd c d b < 0 →
    Q 0 M) ∧ (0 ≤ sd c d b →
    Q 1 M))))) ∧ (0 < sd c d a →
    ((0 < sd c d b →
    Q 0 M) ∧ (sd c d b ≤ 0 →
    ((0 ≤ sd c d a →
    Q 1 M) ∧ (sd c d a < 0 →
    ((sd c d b < 0 →
    Q 0 M) ∧ (0 ≤ sd c d b →
    Q 1 M))))))))) ∧ (sd a b c < 0 →
    ((sd a b d < 0 →
    Q 0 M) ∧ (0 ≤ sd a b d →
    ((sd c d a ≤ 0 →
    ((0 ≤ sd c d a →
    Q 1 M) ∧ (sd c d a < 0 →
    ((sd c d b < 0 →
    Q 0 M) ∧ (0 ≤ sd c d b →
    Q 1 M))))) ∧ (0 < sd c d a →
    ((0 < sd c d b →
    Q 0 M) ∧ (sd c d b ≤ 0 →
    ((0 ≤ sd c d a →
    Q 1 M) ∧ (sd c d a < 0 →
    ((sd c d b < 0 →
    Q 0 M) ∧ (0 ≤ sd c d b →
    Q 1 M))))))))))))) ∧ (0 < sd a b c →
    ((0 < sd a b d →
    Q 0 M) ∧ (sd a b d ≤ 0 →
    ((0 ≤ sd a b c →
    ((sd c d a ≤ 0 →
    ((0 ≤ sd c d a →
    Q 1 M) ∧ (sd c d a < 0 →
    ((sd c d b < 0 →
    Q 0 M) ∧ (0 ≤ sd c d b →
    Q 1 M))))) ∧ (0 < sd c d a →
    ((0 < sd c d b →
    Q 0 M) ∧ (sd c d b ≤ 0 →
    ((0 ≤ sd c d a →
    Q 1 M) ∧ (sd c d a < 0 →
    ((sd c d b < 0 →
    Q 0 M) ∧ (0 ≤ sd c d b →
    Q 1 M))))))))) ∧ (sd a b c < 0 →
    ((sd a b d < 0 →
    Q 0 M) ∧ (0 ≤ sd a b d →
    ((sd c d a ≤ 0 →
    ((0 ≤ sd c d a →
    Q 1 M) ∧ (sd c d a < 0 →
    ((sd c d b < 0 →
    Q 0 M) ∧ (0 ≤ sd c d b →
    Q 1 M))))) ∧ (0 < sd c d a →
    ((0 < sd c d b →
    Q 0 M) ∧ (sd c d b ≤ 0 →
    ((0 ≤ sd c d a →
    Q 1 M) ∧ (sd c d a < 0 →
    ((sd c d b < 0 →
    Q 0 M) ∧ (0 ≤ sd c d b →
    Q 1 M))))))))))))))))) ∧ (¬ (ovl (a / 24) (b / 24) (c / 24) (d / 24)) →
    Q 0 M))) ∧ (¬ (ovl (a % 24) (b % 24) (c % 24) (d % 24)) →
    Q 0 M))) : Calls 2 mX12_crosses [.inl a, .inl b, .inl c, .inl d] M Q := Calls.of (by decide) (Nat.le_of_ble_eq_true rfl) (s_X12_crosses_0  a b c d M h)
set_option maxRecDepth 20000 in
theorem s_X11_crossing_0 {Q : Int → Me → Prop}  (M : Me) (h :
    Go (km 4 mX11_crossing Q) 4 [some (.inr 0), some (.inl 0), some (.inl 0), none] [] M) :
    Go (km 4 mX11_crossing Q) 0 [some (.inr 0), none, none, none] [] M := by
  refine a_iconst (pc := 0) dX11_crossing_0 (cnb rfl) ?_
  refine a_istore_n (pc := 1) dX11_crossing_1 (Nat.le_of_ble_eq_true rfl) ?_
  refine a_iconst (pc := 2) dX11_crossing_2 (cnb rfl) ?_
  refine a_istore_n (pc := 3) dX11_crossing_3 (Nat.le_of_ble_eq_true rfl) ?_
  exact h
set_option maxRecDepth 20000 in
theorem e_X11_crossing {Q : Int → Me → Prop}  {M : Me} (h :
    Go (km 4 mX11_crossing Q) 4 [some (.inr 0), some (.inl 0), some (.inl 0), none] [] M) : Calls 4 mX11_crossing [.inr 0] M Q := Calls.of (by decide) (Nat.le_of_ble_eq_true rfl) (s_X11_crossing_0   M h)
set_option maxRecDepth 20000 in
theorem s_X11_crossing_4 {Q : Int → Me → Prop}  (x1 x2 : Int) (M : Me) (h :
    ((M 3 8 ≤ x2 →
    Q x1 M) ∧ (x2 < M 3 8 →
    cn (x2 + 1) ∧
    Go (km 4 mX11_crossing Q) 19 [some (.inr 0), some (.inl x1), some (.inl x2), some (.inl (x2 + 1))] [] M))) :
    Go (km 4 mX11_crossing Q) 4 [some (.inr 0), some (.inl x1), some (.inl x2), none] [] M := by
  refine a_iload_n (pc := 4) dX11_crossing_4 rfl ?_
  refine a_aload_n (pc := 5) dX11_crossing_5 rfl ?_
  refine a_getr (pc := 6) dX11_crossing_6 f_X11_19 rfl ?_
  refine a_geti (pc := 9) 8 dX11_crossing_9 f_X11_155 rfl rfl ?_
  refine a_icmp_ge (pc := 12) 87 dX11_crossing_12 rfl ⟨fun hc => ?_, fun hc => ?_⟩
  · replace h := h.1 hc
    refine a_iload_n (pc := 87) dX11_crossing_87 rfl ?_
    exact a_iretI (pc := 88) dX11_crossing_88 rfl h
  · replace h := h.2 hc
    refine a_iload_n (pc := 15) dX11_crossing_15 rfl ?_
    refine a_iconst (pc := 16) dX11_crossing_16 (cnb rfl) ?_
    refine a_iadd (pc := 17) dX11_crossing_17 h.1 ?_
    replace h := h.2
    refine a_istore_n (pc := 18) dX11_crossing_18 (Nat.le_of_ble_eq_true rfl) ?_
    exact h
set_option maxRecDepth 20000 in
theorem s_X11_crossing_19 {Q : Int → Me → Prop}  (x1 x2 x3 : Int) (M : Me) (h :
    ((M 3 8 ≤ x3 →
    cn (x2 + 1) ∧
    Go (km 4 mX11_crossing Q) 4 [some (.inr 0), some (.inl x1), some (.inl (x2 + 1)), none] [] M) ∧ (x3 < M 3 8 →
    (0 ≤ x2 ∧ x2 < 16) ∧
    (0 ≤ x2 ∧ x2 < 16) ∧
    (0 ≤ x3 ∧ x3 < 16) ∧
    (0 ≤ x3 ∧ x3 < 16) ∧
    Calls 3 mX11_doCross [.inl (M 4 x2), .inl (M 11 x2), .inl (M 4 x3), .inl (M 11 x3)] M (fun r66 M66 =>
    ((r66 = 0 →
    cn (x3 + 1) ∧
    Go (km 4 mX11_crossing Q) 19 [some (.inr 0), some (.inl x1), some (.inl x2), some (.inl (x3 + 1))] [] M66) ∧ (r66 ≠ 0 →
    cn (x1 + 1) ∧
    cn (x3 + 1) ∧
    Go (km 4 mX11_crossing Q) 19 [some (.inr 0), some (.inl (x1 + 1)), some (.inl x2), some (.inl (x3 + 1))] [] M66)))))) :
    Go (km 4 mX11_crossing Q) 19 [some (.inr 0), some (.inl x1), some (.inl x2), some (.inl x3)] [] M := by
  refine a_iload_n (pc := 19) dX11_crossing_19 rfl ?_
  refine a_aload_n (pc := 20) dX11_crossing_20 rfl ?_
  refine a_getr (pc := 21) dX11_crossing_21 f_X11_19 rfl ?_
  refine a_geti (pc := 24) 8 dX11_crossing_24 f_X11_155 rfl rfl ?_
  refine a_icmp_ge (pc := 27) 81 dX11_crossing_27 rfl ⟨fun hc => ?_, fun hc => ?_⟩
  · replace h := h.1 hc
    refine a_iinc (pc := 81) dX11_crossing_81 rfl h.1 (Nat.le_of_ble_eq_true rfl) ?_
    replace h := h.2
    refine a_goto (pc := 84) 4 dX11_crossing_84 rfl ?_
    exact Go.weak h (And.intro rfl (And.intro rfl (And.intro rfl True.intro)))
  · replace h := h.2 hc
    refine a_aload_n (pc := 30) dX11_crossing_30 rfl ?_
    refine a_getr (pc := 31) dX11_crossing_31 f_X11_19 rfl ?_
    refine a_getr (pc := 34) dX11_crossing_34 f_X11_172 rfl ?_
    refine a_iload_n (pc := 37) dX11_crossing_37 rfl ?_
    refine a_iald (pc := 38) dX11_crossing_38 rfl h.1.1 h.1.2  ?_
    replace h := h.2
    refine a_aload_n (pc := 39) dX11_crossing_39 rfl ?_
    refine a_getr (pc := 40) dX11_crossing_40 f_X11_19 rfl ?_
    refine a_getr (pc := 43) dX11_crossing_43 f_X11_114 rfl ?_
    refine a_iload_n (pc := 46) dX11_crossing_46 rfl ?_
    refine a_iald (pc := 47) dX11_crossing_47 rfl h.1.1 h.1.2  ?_
    replace h := h.2
    refine a_aload_n (pc := 48) dX11_crossing_48 rfl ?_
    refine a_getr (pc := 49) dX11_crossing_49 f_X11_19 rfl ?_
    refine a_getr (pc := 52) dX11_crossing_52 f_X11_172 rfl ?_
    refine a_iload_n (pc := 55) dX11_crossing_55 rfl ?_
    refine a_iald (pc := 56) dX11_crossing_56 rfl h.1.1 h.1.2  ?_
    replace h := h.2
    refine a_aload_n (pc := 57) dX11_crossing_57 rfl ?_
    refine a_getr (pc := 58) dX11_crossing_58 f_X11_19 rfl ?_
    refine a_getr (pc := 61) dX11_crossing_61 f_X11_114 rfl ?_
    refine a_iload_n (pc := 64) dX11_crossing_64 rfl ?_
    refine a_iald (pc := 65) dX11_crossing_65 rfl h.1.1 h.1.2  ?_
    replace h := h.2
    refine a_callSi (pc := 66) (d := 3) (st := []) [.inl (M 4 x2), .inl (M 11 x2), .inl (M 4 x3), .inl (M 11 x3)] dX11_crossing_66 l_X11_247 st_X11_doCross rfl ⟨Nat.le_of_ble_eq_true rfl, Nat.le_of_ble_eq_true rfl⟩ ⟨Nat.le_of_ble_eq_true rfl, Nat.le_of_ble_eq_true rfl⟩ (Nat.le_of_ble_eq_true rfl) ?_
    refine Calls.mono (fun r66 M66 hr66 hM66 h => ?_) h
    refine a_if_eq (pc := 69) 75 dX11_crossing_69 rfl ⟨fun hc => ?_, fun hc => ?_⟩
    · replace h := h.1 hc
      refine a_iinc (pc := 75) dX11_crossing_75 rfl h.1 (Nat.le_of_ble_eq_true rfl) ?_
      replace h := h.2
      refine a_goto (pc := 78) 19 dX11_crossing_78 rfl ?_
      exact h
    · replace h := h.2 hc
      refine a_iinc (pc := 72) dX11_crossing_72 rfl h.1 (Nat.le_of_ble_eq_true rfl) ?_
      replace h := h.2
      refine a_iinc (pc := 75) dX11_crossing_75 rfl h.1 (Nat.le_of_ble_eq_true rfl) ?_
      replace h := h.2
      refine a_goto (pc := 78) 19 dX11_crossing_78 rfl ?_
      exact h
set_option maxRecDepth 20000 in
theorem s_X12_crossing_0 {Q : Int → Me → Prop}  (M : Me) (h :
    Go (km 3 mX12_crossing Q) 4 [some (.inr 76), some (.inl 0), some (.inl 0), none] [] M) :
    Go (km 3 mX12_crossing Q) 0 [some (.inr 76), none, none, none] [] M := by
  refine a_iconst (pc := 0) dX12_crossing_0 (cnb rfl) ?_
  refine a_istore_n (pc := 1) dX12_crossing_1 (Nat.le_of_ble_eq_true rfl) ?_
  refine a_iconst (pc := 2) dX12_crossing_2 (cnb rfl) ?_
  refine a_istore_n (pc := 3) dX12_crossing_3 (Nat.le_of_ble_eq_true rfl) ?_
  exact h
set_option maxRecDepth 20000 in
theorem e_X12_crossing {Q : Int → Me → Prop}  {M : Me} (h :
    Go (km 3 mX12_crossing Q) 4 [some (.inr 76), some (.inl 0), some (.inl 0), none] [] M) : Calls 3 mX12_crossing [.inr 76] M Q := Calls.of (by decide) (Nat.le_of_ble_eq_true rfl) (s_X12_crossing_0   M h)
set_option maxRecDepth 20000 in
theorem s_X12_crossing_4 {Q : Int → Me → Prop}  (x1 x2 : Int) (M : Me) (h :
    ((M 76 11 ≤ x2 →
    Q x1 M) ∧ (x2 < M 76 11 →
    cn (x2 + 1) ∧
    Go (km 3 mX12_crossing Q) 16 [some (.inr 76), some (.inl x1), some (.inl x2), some (.inl (x2 + 1))] [] M))) :
    Go (km 3 mX12_crossing Q) 4 [some (.inr 76), some (.inl x1), some (.inl x2), none] [] M := by
  refine a_iload_n (pc := 4) dX12_crossing_4 rfl ?_
  refine a_aload_n (pc := 5) dX12_crossing_5 rfl ?_
  refine a_geti (pc := 6) 11 dX12_crossing_6 f_X12_152 rfl rfl ?_
  refine a_icmp_ge (pc := 9) 70 dX12_crossing_9 rfl ⟨fun hc => ?_, fun hc => ?_⟩
  · replace h := h.1 hc
    refine a_iload_n (pc := 70) dX12_crossing_70 rfl ?_
    exact a_iretI (pc := 71) dX12_crossing_71 rfl h
  · replace h := h.2 hc
    refine a_iload_n (pc := 12) dX12_crossing_12 rfl ?_
    refine a_iconst (pc := 13) dX12_crossing_13 (cnb rfl) ?_
    refine a_iadd (pc := 14) dX12_crossing_14 h.1 ?_
    replace h := h.2
    refine a_istore_n (pc := 15) dX12_crossing_15 (Nat.le_of_ble_eq_true rfl) ?_
    exact h
set_option maxRecDepth 20000 in
theorem s_X12_crossing_16 {Q : Int → Me → Prop}  (x1 x2 x3 : Int) (M : Me) (h :
    ((M 76 11 ≤ x3 →
    cn (x2 + 1) ∧
    Go (km 3 mX12_crossing Q) 4 [some (.inr 76), some (.inl x1), some (.inl (x2 + 1)), none] [] M) ∧ (x3 < M 76 11 →
    (0 ≤ x2 ∧ x2 < 16) ∧
    (0 ≤ x2 ∧ x2 < 16) ∧
    (0 ≤ x3 ∧ x3 < 16) ∧
    (0 ≤ x3 ∧ x3 < 16) ∧
    Calls 2 mX12_crosses [.inl (M 80 x2), .inl (M 87 x2), .inl (M 80 x3), .inl (M 87 x3)] M (fun r48 M48 =>
    ((r48 = 0 →
    cn (x3 + 1) ∧
    Go (km 3 mX12_crossing Q) 16 [some (.inr 76), some (.inl x1), some (.inl x2), some (.inl (x3 + 1))] [] M48) ∧ (r48 ≠ 0 →
    cn (x1 + 1) ∧
    cn (x3 + 1) ∧
    Go (km 3 mX12_crossing Q) 16 [some (.inr 76), some (.inl (x1 + 1)), some (.inl x2), some (.inl (x3 + 1))] [] M48)))))) :
    Go (km 3 mX12_crossing Q) 16 [some (.inr 76), some (.inl x1), some (.inl x2), some (.inl x3)] [] M := by
  refine a_iload_n (pc := 16) dX12_crossing_16 rfl ?_
  refine a_aload_n (pc := 17) dX12_crossing_17 rfl ?_
  refine a_geti (pc := 18) 11 dX12_crossing_18 f_X12_152 rfl rfl ?_
  refine a_icmp_ge (pc := 21) 64 dX12_crossing_21 rfl ⟨fun hc => ?_, fun hc => ?_⟩
  · replace h := h.1 hc
    refine a_iinc (pc := 64) dX12_crossing_64 rfl h.1 (Nat.le_of_ble_eq_true rfl) ?_
    replace h := h.2
    refine a_goto (pc := 67) 4 dX12_crossing_67 rfl ?_
    exact Go.weak h (And.intro rfl (And.intro rfl (And.intro rfl True.intro)))
  · replace h := h.2 hc
    refine a_aload_n (pc := 24) dX12_crossing_24 rfl ?_
    refine a_getr (pc := 25) dX12_crossing_25 f_X12_19 rfl ?_
    refine a_iload_n (pc := 28) dX12_crossing_28 rfl ?_
    refine a_iald (pc := 29) dX12_crossing_29 rfl h.1.1 h.1.2  ?_
    replace h := h.2
    refine a_aload_n (pc := 30) dX12_crossing_30 rfl ?_
    refine a_getr (pc := 31) dX12_crossing_31 f_X12_40 rfl ?_
    refine a_iload_n (pc := 34) dX12_crossing_34 rfl ?_
    refine a_iald (pc := 35) dX12_crossing_35 rfl h.1.1 h.1.2  ?_
    replace h := h.2
    refine a_aload_n (pc := 36) dX12_crossing_36 rfl ?_
    refine a_getr (pc := 37) dX12_crossing_37 f_X12_19 rfl ?_
    refine a_iload_n (pc := 40) dX12_crossing_40 rfl ?_
    refine a_iald (pc := 41) dX12_crossing_41 rfl h.1.1 h.1.2  ?_
    replace h := h.2
    refine a_aload_n (pc := 42) dX12_crossing_42 rfl ?_
    refine a_getr (pc := 43) dX12_crossing_43 f_X12_40 rfl ?_
    refine a_iload_n (pc := 46) dX12_crossing_46 rfl ?_
    refine a_iald (pc := 47) dX12_crossing_47 rfl h.1.1 h.1.2  ?_
    replace h := h.2
    refine a_callSi (pc := 48) (d := 2) (st := []) [.inl (M 80 x2), .inl (M 87 x2), .inl (M 80 x3), .inl (M 87 x3)] dX12_crossing_48 l_X12_390 st_X12_crosses rfl ⟨Nat.le_of_ble_eq_true rfl, Nat.le_of_ble_eq_true rfl⟩ ⟨Nat.le_of_ble_eq_true rfl, Nat.le_of_ble_eq_true rfl⟩ (Nat.le_of_ble_eq_true rfl) ?_
    refine Calls.mono (fun r48 M48 hr48 hM48 h => ?_) h
    refine a_if_eq (pc := 51) 58 dX12_crossing_51 rfl ⟨fun hc => ?_, fun hc => ?_⟩
    · replace h := h.1 hc
      refine a_iinc (pc := 58) dX12_crossing_58 rfl h.1 (Nat.le_of_ble_eq_true rfl) ?_
      replace h := h.2
      refine a_goto (pc := 61) 16 dX12_crossing_61 rfl ?_
      exact h
    · replace h := h.2 hc
      refine a_iload_n (pc := 54) dX12_crossing_54 rfl ?_
      refine a_iconst (pc := 55) dX12_crossing_55 (cnb rfl) ?_
      refine a_iadd (pc := 56) dX12_crossing_56 h.1 ?_
      replace h := h.2
      refine a_istore_n (pc := 57) dX12_crossing_57 (Nat.le_of_ble_eq_true rfl) ?_
      refine a_iinc (pc := 58) dX12_crossing_58 rfl h.1 (Nat.le_of_ble_eq_true rfl) ?_
      replace h := h.2
      refine a_goto (pc := 61) 16 dX12_crossing_61 rfl ?_
      exact h
