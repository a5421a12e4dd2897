set_option maxRecDepth 20000 in
theorem s_X5_lasting_0 {Q : Int → Me → Prop} {D : Nat} (a b : Int) (M : Me) (h :
    ((a < M 69 6 →
    Go (km (D + 4) mX5_lasting Q) 15 [some (.inr 69), some (.inl a), some (.inl b), some (.inl 0), some (.inl 0)] [] M) ∧ (M 69 6 ≤ a →
    Q 1 M))) :
    Go (km (D + 4) mX5_lasting Q) 0 [some (.inr 69), some (.inl a), some (.inl b), none, none] [] M := by
  refine a_iload_n (pc := 0) dX5_lasting_0 rfl ?_
  refine a_aload_n (pc := 1) dX5_lasting_1 rfl ?_
  refine a_geti (pc := 2) 6 dX5_lasting_2 f_X5_28 rfl rfl ?_
  refine a_icmp_lt (pc := 5) 10 dX5_lasting_5 rfl ⟨fun hc => ?_, fun hc => ?_⟩
  · replace h := h.1 hc
    refine a_iconst (pc := 10) dX5_lasting_10 (cnb rfl) ?_
    refine a_istore_n (pc := 11) dX5_lasting_11 (Nat.le_of_ble_eq_true rfl) ?_
    refine a_iconst (pc := 12) dX5_lasting_12 (cnb rfl) ?_
    refine a_istore (pc := 13) dX5_lasting_13 (Nat.le_of_ble_eq_true rfl) ?_
    exact h
  · replace h := h.2 hc
    refine a_iconst (pc := 8) dX5_lasting_8 (cnb rfl) ?_
    exact a_iretI (pc := 9) dX5_lasting_9 rfl h
set_option maxRecDepth 20000 in
theorem e_X5_lasting {Q : Int → Me → Prop} {D : Nat} {a b : Int} {M : Me} (h :
    ((a < M 69 6 →
    Go (km (D + 4) mX5_lasting Q) 15 [some (.inr 69), some (.inl a), some (.inl b), some (.inl 0), some (.inl 0)] [] M) ∧ (M 69 6 ≤ a →
    Q 1 M))) : Calls (D + 4) mX5_lasting [.inr 69, .inl a, .inl b] M Q := Calls.of (by decide) (Nat.le_of_ble_eq_true rfl) (s_X5_lasting_0  a b M h)
set_option maxRecDepth 20000 in
theorem s_X5_lasting_15 {Q : Int → Me → Prop} {D : Nat} (x1 x2 x3 x4 : Int) (M : Me) (h :
    ((M 69 6 ≤ x4 →
    Q x3 M) ∧ (x4 < M 69 6 →
    (0 ≤ x1 ∧ x1 < 6) ∧
    ((band (bshr x2 x4) 1 ≠ 0 →
    cn (x4 + 1) ∧
    Go (km (D + 4) mX5_lasting Q) 15 [some (.inr 69), some (.inl x1), some (.inl x2), some (.inl x3), some (.inl (x4 + 1))] [] (mput M 73 x1 x4)) ∧ (band (bshr x2 x4) 1 = 0 →
    Calls 1 mX5_isAtPeace [.inr 69, .inl x1] (mput M 73 x1 x4) (fun r43 M43 =>
    ((r43 = 0 →
    cn (x4 + 1) ∧
    Go (km (D + 4) mX5_lasting Q) 15 [some (.inr 69), some (.inl x1), some (.inl x2), some (.inl x3), some (.inl (x4 + 1))] [] M43) ∧ (r43 ≠ 0 →
    cn (x1 + 1) ∧
    Calls (D + 3) mX5_lasting [.inr 69, .inl (x1 + 1), .inl (bor x2 (bshl 1 x4))] M43 (fun r60 M60 =>
    cn (x3 + r60) ∧
    cn (x4 + 1) ∧
    Go (km (D + 4) mX5_lasting Q) 15 [some (.inr 69), some (.inl x1), some (.inl x2), some (.inl (x3 + r60)), some (.inl (x4 + 1))] [] M60))))))))) :
    Go (km (D + 4) mX5_lasting Q) 15 [some (.inr 69), some (.inl x1), some (.inl x2), some (.inl x3), some (.inl x4)] [] M := by
  refine a_iload (pc := 15) dX5_lasting_15 rfl ?_
  refine a_aload_n (pc := 17) dX5_lasting_17 rfl ?_
  refine a_geti (pc := 18) 6 dX5_lasting_18 f_X5_28 rfl rfl ?_
  refine a_icmp_ge (pc := 21) 71 dX5_lasting_21 rfl ⟨fun hc => ?_, fun hc => ?_⟩
  · replace h := h.1 hc
    refine a_iload_n (pc := 71) dX5_lasting_71 rfl ?_
    exact a_iretI (pc := 72) dX5_lasting_72 rfl h
  · replace h := h.2 hc
    refine a_aload_n (pc := 24) dX5_lasting_24 rfl ?_
    refine a_getr (pc := 25) dX5_lasting_25 f_X5_19 rfl ?_
    refine a_iload_n (pc := 28) dX5_lasting_28 rfl ?_
    refine a_iload (pc := 29) dX5_lasting_29 rfl ?_
    refine a_iast (pc := 31) dX5_lasting_31 rfl h.1.1 h.1.2 ?_
    replace h := h.2
    refine a_iload_n (pc := 32) dX5_lasting_32 rfl ?_
    refine a_iload (pc := 33) dX5_lasting_33 rfl ?_
    refine a_ishr (pc := 35) dX5_lasting_35 ?_
    refine a_iconst (pc := 36) dX5_lasting_36 (cnb rfl) ?_
    refine a_iand (pc := 37) dX5_lasting_37 ?_
    refine a_if_ne (pc := 38) 65 dX5_lasting_38 rfl ⟨fun hc => ?_, fun hc => ?_⟩
    · replace h := h.1 hc
      refine a_iinc (pc := 65) dX5_lasting_65 rfl h.1 (Nat.le_of_ble_eq_true rfl) ?_
      replace h := h.2
      refine a_goto (pc := 68) 15 dX5_lasting_68 rfl ?_
      exact h
    · replace h := h.2 hc
      refine a_aload_n (pc := 41) dX5_lasting_41 rfl ?_
      refine a_iload_n (pc := 42) dX5_lasting_42 rfl ?_
      refine a_callVi (pc := 43) (d := 1) (st := []) (o := 69) [.inl x1] dX5_lasting_43 l_X5_54 in_X5_isAtPeace se_X5_isAtPeace rfl rfl rfl ⟨show 1 + 1 ≤ D + 4 from by omega, show 8 + (3 + 11) + 64 * (1) ≤ 64 * (D + 4) from by omega⟩ ⟨Nat.le_of_ble_eq_true rfl, Nat.le_of_ble_eq_true rfl⟩ (Nat.le_of_ble_eq_true rfl) ?_
      refine Calls.mono (fun r43 M43 hr43 hM43 h => ?_) h
      refine a_if_eq (pc := 46) 65 dX5_lasting_46 rfl ⟨fun hc => ?_, fun hc => ?_⟩
      · replace h := h.1 hc
        refine a_iinc (pc := 65) dX5_lasting_65 rfl h.1 (Nat.le_of_ble_eq_true rfl) ?_
        replace h := h.2
        refine a_goto (pc := 68) 15 dX5_lasting_68 rfl ?_
        exact h
      · replace h := h.2 hc
        refine a_iload_n (pc := 49) dX5_lasting_49 rfl ?_
        refine a_aload_n (pc := 50) dX5_lasting_50 rfl ?_
        refine a_iload_n (pc := 51) dX5_lasting_51 rfl ?_
        refine a_iconst (pc := 52) dX5_lasting_52 (cnb rfl) ?_
        refine a_iadd (pc := 53) dX5_lasting_53 h.1 ?_
        replace h := h.2
        refine a_iload_n (pc := 54) dX5_lasting_54 rfl ?_
        refine a_iconst (pc := 55) dX5_lasting_55 (cnb rfl) ?_
        refine a_iload (pc := 56) dX5_lasting_56 rfl ?_
        refine a_ishl (pc := 58) dX5_lasting_58 ?_
        refine a_ior (pc := 59) dX5_lasting_59 ?_
        refine a_callVi (pc := 60) (d := D + 3) (st := [.inl x3]) (o := 69) [.inl (x1 + 1), .inl (bor x2 (bshl 1 x4))] dX5_lasting_60 l_X5_50 in_X5_lasting se_X5_lasting rfl rfl rfl ⟨show D + 3 + 1 ≤ D + 4 from by omega, show 8 + (5 + 11) + 64 * (D + 3) ≤ 64 * (D + 4) from by omega⟩ ⟨Nat.le_of_ble_eq_true rfl, Nat.le_of_ble_eq_true rfl⟩ (Nat.le_of_ble_eq_true rfl) ?_
        refine Calls.mono (fun r60 M60 hr60 hM60 h => ?_) h
        refine a_iadd (pc := 63) dX5_lasting_63 h.1 ?_
        replace h := h.2
        refine a_istore_n (pc := 64) dX5_lasting_64 (Nat.le_of_ble_eq_true rfl) ?_
        refine a_iinc (pc := 65) dX5_lasting_65 rfl h.1 (Nat.le_of_ble_eq_true rfl) ?_
        replace h := h.2
        refine a_goto (pc := 68) 15 dX5_lasting_68 rfl ?_
        exact h
set_option maxRecDepth 20000 in
theorem s_X5_howManyLast_0 {Q : Int → Me → Prop}  (M : Me) (h :
    Calls 59 mX5_lasting [.inr 69, .inl 0, .inl 0] M (fun r3 M3 =>
    Q r3 M3)) :
    Go (km 60 mX5_howManyLast Q) 0 [some (.inr 69)] [] M := by
  refine a_aload_n (pc := 0) dX5_howManyLast_0 rfl ?_
  refine a_iconst (pc := 1) dX5_howManyLast_1 (cnb rfl) ?_
  refine a_iconst (pc := 2) dX5_howManyLast_2 (cnb rfl) ?_
  refine a_callVi (pc := 3) (d := 59) (st := []) (o := 69) [.inl 0, .inl 0] dX5_howManyLast_3 l_X5_50 in_X5_lasting se_X5_lasting rfl rfl rfl ⟨Nat.le_of_ble_eq_true rfl, Nat.le_of_ble_eq_true rfl⟩ ⟨Nat.le_of_ble_eq_true rfl, Nat.le_of_ble_eq_true rfl⟩ (Nat.le_of_ble_eq_true rfl) ?_
  refine Calls.mono (fun r3 M3 hr3 hM3 h => ?_) h
  exact a_iretI (pc := 6) dX5_howManyLast_6 rfl h
set_option maxRecDepth 20000 in
theorem e_X5_howManyLast {Q : Int → Me → Prop}  {M : Me} (h :
    Calls 59 mX5_lasting [.inr 69, .inl 0, .inl 0] M (fun r3 M3 =>
    Q r3 M3)) : Calls 60 mX5_howManyLast [.inr 69] M Q := Calls.of (by decide) (Nat.le_of_ble_eq_true rfl) (s_X5_howManyLast_0   M h)
set_option maxRecDepth 20000 in
theorem s_X11_marriages_0 {Q : Int → Me → Prop}  (a b : Int) (M : Me) (h :
    ((a < 2 →
    Q (-1) M) ∧ (2 ≤ a →
    ((6 < a →
    Q (-1) M) ∧ (a ≤ 6 →
    cn (2 * a) ∧
    cn ((2 * a) * a) ∧
    (((2 * a) * a ≤ M 1 1 →
    ((b = 100 →
    Calls 2 mX5_read [.inr 69, .inr 1, .inl a] M (fun r54 M54 =>
    ((r54 ≠ 0 →
    ((b ≠ 100 →
    Calls 1 mX5_whomGets [.inr 69, .inl b] (mput M54 1 1 0) (fun r93 M93 =>
    Q r93 M93)) ∧ (b = 100 →
    Calls 60 mX5_howManyLast [.inr 69] (mput M54 1 1 0) (fun r82 M82 =>
    Q r82 M82)))) ∧ (r54 = 0 →
    Q (-3) (mput M54 1 1 0))))) ∧ (b ≠ 100 →
    ((b < 0 →
    Q (-1) M) ∧ (0 ≤ b →
    ((b < a →
    Calls 2 mX5_read [.inr 69, .inr 1, .inl a] M (fun r54 M54 =>
    ((r54 ≠ 0 →
    ((b ≠ 100 →
    Calls 1 mX5_whomGets [.inr 69, .inl b] (mput M54 1 1 0) (fun r93 M93 =>
    Q r93 M93)) ∧ (b = 100 →
    Calls 60 mX5_howManyLast [.inr 69] (mput M54 1 1 0) (fun r82 M82 =>
    Q r82 M82)))) ∧ (r54 = 0 →
    Q (-3) (mput M54 1 1 0))))) ∧ (a ≤ b →
    Q (-1) M))))))) ∧ (M 1 1 < (2 * a) * a →
    Q (-1) M))))))) :
    Go (km 61 mX11_marriages Q) 0 [some (.inr 0), some (.inl a), some (.inl b), none] [] M := by
  refine a_iload_n (pc := 0) dX11_marriages_0 rfl ?_
  refine a_iconst (pc := 1) dX11_marriages_1 (cnb rfl) ?_
  refine a_icmp_lt (pc := 2) 26 dX11_marriages_2 rfl ⟨fun hc => ?_, fun hc => ?_⟩
  · replace h := h.1 hc
    refine a_iconst (pc := 26) dX11_marriages_26 (cnb rfl) ?_
    exact a_iretI (pc := 27) dX11_marriages_27 rfl h
  · replace h := h.2 hc
    refine a_iload_n (pc := 5) dX11_marriages_5 rfl ?_
    refine a_bipush (pc := 6) dX11_marriages_6 (by decide) (cnb rfl) ?_
    refine a_icmp_gt (pc := 8) 26 dX11_marriages_8 rfl ⟨fun hc => ?_, fun hc => ?_⟩
    · replace h := h.1 hc
      refine a_iconst (pc := 26) dX11_marriages_26 (cnb rfl) ?_
      exact a_iretI (pc := 27) dX11_marriages_27 rfl h
    · replace h := h.2 hc
      refine a_iconst (pc := 11) dX11_marriages_11 (cnb rfl) ?_
      refine a_iload_n (pc := 12) dX11_marriages_12 rfl ?_
      refine a_imul (pc := 13) dX11_marriages_13 h.1 ?_
      replace h := h.2
      refine a_iload_n (pc := 14) dX11_marriages_14 rfl ?_
      refine a_imul (pc := 15) dX11_marriages_15 h.1 ?_
      replace h := h.2
      refine a_aload_n (pc := 16) dX11_marriages_16 rfl ?_
      refine a_getr (pc := 17) dX11_marriages_17 f_X11_10 rfl ?_
      refine a_geti (pc := 20) 1 dX11_marriages_20 f_X11_118 rfl rfl ?_
      refine a_icmp_le (pc := 23) 28 dX11_marriages_23 rfl ⟨fun hc => ?_, fun hc => ?_⟩
      · replace h := h.1 hc
        refine a_iload_n (pc := 28) dX11_marriages_28 rfl ?_
        refine a_bipush (pc := 29) dX11_marriages_29 (by decide) (cnb rfl) ?_
        refine a_icmp_eq (pc := 31) 45 dX11_marriages_31 rfl ⟨fun hc => ?_, fun hc => ?_⟩
        · replace h := h.1 hc
          refine a_aload_n (pc := 45) dX11_marriages_45 rfl ?_
          refine a_getr (pc := 46) dX11_marriages_46 f_X11_92 rfl ?_
          refine a_aload_n (pc := 49) dX11_marriages_49 rfl ?_
          refine a_getr (pc := 50) dX11_marriages_50 f_X11_10 rfl ?_
          refine a_iload_n (pc := 53) dX11_marriages_53 rfl ?_
          refine a_callVi (pc := 54) (d := 2) (st := []) (o := 69) [.inr 1, .inl a] dX11_marriages_54 l_X11_279 in_X5_read se_X5_read rfl rfl rfl ⟨Nat.le_of_ble_eq_true rfl, Nat.le_of_ble_eq_true rfl⟩ ⟨Nat.le_of_ble_eq_true rfl, Nat.le_of_ble_eq_true rfl⟩ (Nat.le_of_ble_eq_true rfl) ?_
          refine Calls.mono (fun r54 M54 hr54 hM54 h => ?_) h
          refine a_istore_n (pc := 57) dX11_marriages_57 (Nat.le_of_ble_eq_true rfl) ?_
          refine a_aload_n (pc := 58) dX11_marriages_58 rfl ?_
          refine a_getr (pc := 59) dX11_marriages_59 f_X11_10 rfl ?_
          refine a_callVv (pc := 62) (d := 0) (st := []) (o := 1) [] dX11_marriages_62 l_X11_129 in_X9_clear se_X9_clear rfl rfl rfl ⟨Nat.le_of_ble_eq_true rfl, Nat.le_of_ble_eq_true rfl⟩ ⟨Nat.le_of_ble_eq_true rfl, Nat.le_of_ble_eq_true rfl⟩ (Nat.le_of_ble_eq_true rfl) ?_
          refine p_X9_clear ?_
          refine a_iload_n (pc := 65) dX11_marriages_65 rfl ?_
          refine a_if_ne (pc := 66) 72 dX11_marriages_66 rfl ⟨fun hc => ?_, fun hc => ?_⟩
          · replace h := h.1 hc
            refine a_iload_n (pc := 72) dX11_marriages_72 rfl ?_
            refine a_bipush (pc := 73) dX11_marriages_73 (by decide) (cnb rfl) ?_
            refine a_icmp_ne (pc := 75) 88 dX11_marriages_75 rfl ⟨fun hc => ?_, fun hc => ?_⟩
            · replace h := h.1 hc
              refine a_aload_n (pc := 88) dX11_marriages_88 rfl ?_
              refine a_getr (pc := 89) dX11_marriages_89 f_X11_92 rfl ?_
              refine a_iload_n (pc := 92) dX11_marriages_92 rfl ?_
              refine a_callVi (pc := 93) (d := 1) (st := []) (o := 69) [.inl b] dX11_marriages_93 l_X11_283 in_X5_whomGets se_X5_whomGets rfl rfl rfl ⟨Nat.le_of_ble_eq_true rfl, Nat.le_of_ble_eq_true rfl⟩ ⟨Nat.le_of_ble_eq_true rfl, Nat.le_of_ble_eq_true rfl⟩ (Nat.le_of_ble_eq_true rfl) ?_
              refine Calls.mono (fun r93 M93 hr93 hM93 h => ?_) h
              exact a_iretI (pc := 96) dX11_marriages_96 rfl h
            · replace h := h.2 hc
              refine a_aload_n (pc := 78) dX11_marriages_78 rfl ?_
              refine a_getr (pc := 79) dX11_marriages_79 f_X11_92 rfl ?_
              refine a_callVi (pc := 82) (d := 60) (st := []) (o := 69) [] dX11_marriages_82 l_X11_280 in_X5_howManyLast se_X5_howManyLast rfl rfl rfl ⟨Nat.le_of_ble_eq_true rfl, Nat.le_of_ble_eq_true rfl⟩ ⟨Nat.le_of_ble_eq_true rfl, Nat.le_of_ble_eq_true rfl⟩ (Nat.le_of_ble_eq_true rfl) ?_
              refine Calls.mono (fun r82 M82 hr82 hM82 h => ?_) h
              refine a_goto (pc := 85) 96 dX11_marriages_85 rfl ?_
              exact a_iretI (pc := 96) dX11_marriages_96 rfl h
          · replace h := h.2 hc
            refine a_bipush (pc := 69) dX11_marriages_69 (by decide) (cnb rfl) ?_
            exact a_iretI (pc := 71) dX11_marriages_71 rfl h
        · replace h := h.2 hc
          refine a_iload_n (pc := 34) dX11_marriages_34 rfl ?_
          refine a_if_lt (pc := 35) 43 dX11_marriages_35 rfl ⟨fun hc => ?_, fun hc => ?_⟩
          · replace h := h.1 hc
            refine a_iconst (pc := 43) dX11_marriages_43 (cnb rfl) ?_
            exact a_iretI (pc := 44) dX11_marriages_44 rfl h
          · replace h := h.2 hc
            refine a_iload_n (pc := 38) dX11_marriages_38 rfl ?_
            refine a_iload_n (pc := 39) dX11_marriages_39 rfl ?_
            refine a_icmp_lt (pc := 40) 45 dX11_marriages_40 rfl ⟨fun hc => ?_, fun hc => ?_⟩
            · replace h := h.1 hc
              refine a_aload_n (pc := 45) dX11_marriages_45 rfl ?_
              refine a_getr (pc := 46) dX11_marriages_46 f_X11_92 rfl ?_
              refine a_aload_n (pc := 49) dX11_marriages_49 rfl ?_
              refine a_getr (pc := 50) dX11_marriages_50 f_X11_10 rfl ?_
              refine a_iload_n (pc := 53) dX11_marriages_53 rfl ?_
              refine a_callVi (pc := 54) (d := 2) (st := []) (o := 69) [.inr 1, .inl a] dX11_marriages_54 l_X11_279 in_X5_read se_X5_read rfl rfl rfl ⟨Nat.le_of_ble_eq_true rfl, Nat.le_of_ble_eq_true rfl⟩ ⟨Nat.le_of_ble_eq_true rfl, Nat.le_of_ble_eq_true rfl⟩ (Nat.le_of_ble_eq_true rfl) ?_
              refine Calls.mono (fun r54 M54 hr54 hM54 h => ?_) h
              refine a_istore_n (pc := 57) dX11_marriages_57 (Nat.le_of_ble_eq_true rfl) ?_
              refine a_aload_n (pc := 58) dX11_marriages_58 rfl ?_
              refine a_getr (pc := 59) dX11_marriages_59 f_X11_10 rfl ?_
              refine a_callVv (pc := 62) (d := 0) (st := []) (o := 1) [] dX11_marriages_62 l_X11_129 in_X9_clear se_X9_clear rfl rfl rfl ⟨Nat.le_of_ble_eq_true rfl, Nat.le_of_ble_eq_true rfl⟩ ⟨Nat.le_of_ble_eq_true rfl, Nat.le_of_ble_eq_true rfl⟩ (Nat.le_of_ble_eq_true rfl) ?_
              refine p_X9_clear ?_
              refine a_iload_n (pc := 65) dX11_marriages_65 rfl ?_
              refine a_if_ne (pc := 66) 72 dX11_marriages_66 rfl ⟨fun hc => ?_, fun hc => ?_⟩
              · replace h := h.1 hc
                refine a_iload_n (pc := 72) dX11_marriages_72 rfl ?_
                refine a_bipush (pc := 73) dX11_marriages_73 (by decide) (cnb rfl) ?_
                refine a_icmp_ne (pc := 75) 88 dX11_marriages_75 rfl ⟨fun hc => ?_, fun hc => ?_⟩
                · replace h := h.1 hc
                  refine a_aload_n (pc := 88) dX11_marriages_88 rfl ?_
                  refine a_getr (pc := 89) dX11_marriages_89 f_X11_92 rfl ?_
                  refine a_iload_n (pc := 92) dX11_marriages_92 rfl ?_
                  refine a_callVi (pc := 93) (d := 1) (st := []) (o := 69) [.inl b] dX11_marriages_93 l_X11_283 in_X5_whomGets se_X5_whomGets rfl rfl rfl ⟨Nat.le_of_ble_eq_true rfl, Nat.le_of_ble_eq_true rfl⟩ ⟨Nat.le_of_ble_eq_true rfl, Nat.le_of_ble_eq_true rfl⟩ (Nat.le_of_ble_eq_true rfl) ?_
                  refine Calls.mono (fun r93 M93 hr93 hM93 h => ?_) h
                  exact a_iretI (pc := 96) dX11_marriages_96 rfl h
                · replace h := h.2 hc
                  refine a_aload_n (pc := 78) dX11_marriages_78 rfl ?_
                  refine a_getr (pc := 79) dX11_marriages_79 f_X11_92 rfl ?_
                  refine a_callVi (pc := 82) (d := 60) (st := []) (o := 69) [] dX11_marriages_82 l_X11_280 in_X5_howManyLast se_X5_howManyLast rfl rfl rfl ⟨Nat.le_of_ble_eq_true rfl, Nat.le_of_ble_eq_true rfl⟩ ⟨Nat.le_of_ble_eq_true rfl, Nat.le_of_ble_eq_true rfl⟩ (Nat.le_of_ble_eq_true rfl) ?_
                  refine Calls.mono (fun r82 M82 hr82 hM82 h => ?_) h
                  refine a_goto (pc := 85) 96 dX11_marriages_85 rfl ?_
                  exact a_iretI (pc := 96) dX11_marriages_96 rfl h
              · replace h := h.2 hc
                refine a_bipush (pc := 69) dX11_marriages_69 (by decide) (cnb rfl) ?_
                exact a_iretI (pc := 71) dX11_marriages_71 rfl h
            · replace h := h.2 hc
              refine a_iconst (pc := 43) dX11_marriages_43 (cnb rfl) ?_
              exact a_iretI (pc := 44) dX11_marriages_44 rfl h
      · replace h := h.2 hc
        refine a_iconst (pc := 26) dX11_marriages_26 (cnb rfl) ?_
        exact a_iretI (pc := 27) dX11_marriages_27 rfl h
set_option maxRecDepth 20000 in
theorem e_X11_marriages {Q : Int → Me → Prop}  {a b : Int} {M : Me} (h :
    ((a < 2 →
    Q (-1) M) ∧ (2 ≤ a →
    ((6 < a →
    Q (-1) M) ∧ (a ≤ 6 →
    cn (2 * a) ∧
    cn ((2 * a) * a) ∧
    (((2 * a) * a ≤ M 1 1 →
    ((b = 100 →
    Calls 2 mX5_read [.inr 69, .inr 1, .inl a] M (fun r54 M54 =>
    ((r54 ≠ 0 →
    ((b ≠ 100 →
    Calls 1 mX5_whomGets [.inr 69, .inl b] (mput M54 1 1 0) (fun r93 M93 =>
    Q r93 M93)) ∧ (b = 100 →
    Calls 60 mX5_howManyLast [.inr 69] (mput M54 1 1 0) (fun r82 M82 =>
    Q r82 M82)))) ∧ (r54 = 0 →
    Q (-3) (mput M54 1 1 0))))) ∧ (b ≠ 100 →
    ((b < 0 →
    Q (-1) M) ∧ (0 ≤ b →
    ((b < a →
    Calls 2 mX5_read [.inr 69, .inr 1, .inl a] M (fun r54 M54 =>
    ((r54 ≠ 0 →
    ((b ≠ 100 →
    Calls 1 mX5_whomGets [.inr 69, .inl b] (mput M54 1 1 0) (fun r93 M93 =>
    Q r93 M93)) ∧ (b = 100 →
    Calls 60 mX5_howManyLast [.inr 69] (mput M54 1 1 0) (fun r82 M82 =>
    Q r82 M82)))) ∧ (r54 = 0 →
    Q (-3) (mput M54 1 1 0))))) ∧ (a ≤ b →
    Q (-1) M))))))) ∧ (M 1 1 < (2 * a) * a →
    Q (-1) M))))))) : Calls 61 mX11_marriages [.inr 0, .inl a, .inl b] M Q := Calls.of (by decide) (Nat.le_of_ble_eq_true rfl) (s_X11_marriages_0  a b M h)
set_option maxRecDepth 20000 in
theorem s_X12_marriages_0 {Q : Int → Me → Prop}  (a b : Int) (M : Me) (h :
    ((2 ≤ a ∧ a ≤ 6 →
    cn (a - 1) ∧
    ((0 ≤ b ∧ b ≤ a - 1 →
    cn (2 * a) ∧
    cn ((2 * a) * a) ∧
    (((2 * a) * a ≤ M 76 13 →
    Calls 1 mX12_readsRows [.inr 76, .inl a] (mput M 76 13 0) (fun r48 M48 =>
    ((r48 ≠ 0 →
    ((b = 100 →
    Go (km 2 mX12_marriages Q) 80 [some (.inr 76), some (.inl a), none, some (.inl 0), some (.inl 0)] [] M48) ∧ (b ≠ 100 →
    Calls 0 mX12_asks [.inr 76, .inl a] M48 (fun r65 M65 =>
    (0 ≤ b ∧ b < 6) ∧
    Q (M65 118 b) M65)))) ∧ (r48 = 0 →
    Q (-3) M48)))) ∧ (M 76 13 < (2 * a) * a →
    Q (-1) M))) ∧ (¬ (0 ≤ b ∧ b ≤ a - 1) →
    ((b ≠ 100 →
    Q (-1) M) ∧ (b = 100 →
    cn (2 * a) ∧
    cn ((2 * a) * a) ∧
    (((2 * a) * a ≤ M 76 13 →
    Calls 1 mX12_readsRows [.inr 76, .inl a] (mput M 76 13 0) (fun r48 M48 =>
    ((r48 ≠ 0 →
    ((b = 100 →
    Go (km 2 mX12_marriages Q) 80 [some (.inr 76), some (.inl a), none, some (.inl 0), some (.inl 0)] [] M48) ∧ (b ≠ 100 →
    Calls 0 mX12_asks [.inr 76, .inl a] M48 (fun r65 M65 =>
    (0 ≤ b ∧ b < 6) ∧
    Q (M65 118 b) M65)))) ∧ (r48 = 0 →
    Q (-3) M48)))) ∧ (M 76 13 < (2 * a) * a →
    Q (-1) M))))))) ∧ (¬ (2 ≤ a ∧ a ≤ 6) →
    Q (-1) M))) :
    Go (km 2 mX12_marriages Q) 0 [some (.inr 76), some (.inl a), some (.inl b), none, none] [] M := by
  refine a_iload_n (pc := 0) dX12_marriages_0 rfl ?_
  refine a_iconst (pc := 1) dX12_marriages_1 (cnb rfl) ?_
  refine a_bipush (pc := 2) dX12_marriages_2 (by decide) (cnb rfl) ?_
  refine a_callSi (pc := 4) (d := 0) (st := []) [.inl a, .inl 2, .inl 6] dX12_marriages_4 l_X12_156 st_X12_in rfl ⟨Nat.le_of_ble_eq_true rfl, Nat.le_of_ble_eq_true rfl⟩ ⟨Nat.le_of_ble_eq_true rfl, Nat.le_of_ble_eq_true rfl⟩ (Nat.le_of_ble_eq_true rfl) ?_
  refine p_X12_in ⟨fun hc => ?_, fun hc => ?_⟩
  · replace h := h.1 hc
    refine a_if_eq (pc := 7) 39 dX12_marriages_7 rfl ⟨fun hc => absurd hc (by decide), fun _ => ?_⟩
    refine a_iload_n (pc := 10) dX12_marriages_10 rfl ?_
    refine a_iconst (pc := 11) dX12_marriages_11 (cnb rfl) ?_
    refine a_iload_n (pc := 12) dX12_marriages_12 rfl ?_
    refine a_iconst (pc := 13) dX12_marriages_13 (cnb rfl) ?_
    refine a_isub (pc := 14) dX12_marriages_14 h.1 ?_
    replace h := h.2
    refine a_callSi (pc := 15) (d := 0) (st := []) [.inl b, .inl 0, .inl (a - 1)] dX12_marriages_15 l_X12_156 st_X12_in rfl ⟨Nat.le_of_ble_eq_true rfl, Nat.le_of_ble_eq_true rfl⟩ ⟨Nat.le_of_ble_eq_true rfl, Nat.le_of_ble_eq_true rfl⟩ (Nat.le_of_ble_eq_true rfl) ?_
    refine p_X12_in ⟨fun hc => ?_, fun hc => ?_⟩
    · replace h := h.1 hc
      refine a_if_ne (pc := 18) 27 dX12_marriages_18 rfl ⟨fun _ => ?_, fun hc => absurd hc (by decide)⟩
      refine a_iconst (pc := 27) dX12_marriages_27 (cnb rfl) ?_
      refine a_iload_n (pc := 28) dX12_marriages_28 rfl ?_
      refine a_imul (pc := 29) dX12_marriages_29 h.1 ?_
      replace h := h.2
      refine a_iload_n (pc := 30) dX12_marriages_30 rfl ?_
      refine a_imul (pc := 31) dX12_marriages_31 h.1 ?_
      replace h := h.2
      refine a_aload_n (pc := 32) dX12_marriages_32 rfl ?_
      refine a_geti (pc := 33) 13 dX12_marriages_33 f_X12_168 rfl rfl ?_
      refine a_icmp_le (pc := 36) 41 dX12_marriages_36 rfl ⟨fun hc => ?_, fun hc => ?_⟩
      · replace h := h.1 hc
        refine a_aload_n (pc := 41) dX12_marriages_41 rfl ?_
        refine a_iconst (pc := 42) dX12_marriages_42 (cnb rfl) ?_
        refine a_puti (pc := 43) 13 dX12_marriages_43 f_X12_168 rfl rfl (Or.inl rfl) ?_
        refine a_aload_n (pc := 46) dX12_marriages_46 rfl ?_
        refine a_iload_n (pc := 47) dX12_marriages_47 rfl ?_
        refine a_callVi (pc := 48) (d := 1) (st := []) (o := 76) [.inl a] dX12_marriages_48 l_X12_422 in_X12_readsRows se_X12_readsRows rfl rfl rfl ⟨Nat.le_of_ble_eq_true rfl, Nat.le_of_ble_eq_true rfl⟩ ⟨Nat.le_of_ble_eq_true rfl, Nat.le_of_ble_eq_true rfl⟩ (Nat.le_of_ble_eq_true rfl) ?_
        refine Calls.mono (fun r48 M48 hr48 hM48 h => ?_) h
        refine a_if_ne (pc := 51) 57 dX12_marriages_51 rfl ⟨fun hc => ?_, fun hc => ?_⟩
        · replace h := h.1 hc
          refine a_iload_n (pc := 57) dX12_marriages_57 rfl ?_
          refine a_bipush (pc := 58) dX12_marriages_58 (by decide) (cnb rfl) ?_
          refine a_icmp_eq (pc := 60) 75 dX12_marriages_60 rfl ⟨fun hc => ?_, fun hc => ?_⟩
          · replace h := h.1 hc
            refine a_iconst (pc := 75) dX12_marriages_75 (cnb rfl) ?_
            refine a_istore_n (pc := 76) dX12_marriages_76 (Nat.le_of_ble_eq_true rfl) ?_
            refine a_iconst (pc := 77) dX12_marriages_77 (cnb rfl) ?_
            refine a_istore (pc := 78) dX12_marriages_78 (Nat.le_of_ble_eq_true rfl) ?_
            exact Go.weak h (And.intro rfl (And.intro rfl (And.intro rfl (And.intro rfl True.intro))))
          · replace h := h.2 hc
            refine a_aload_n (pc := 63) dX12_marriages_63 rfl ?_
            refine a_iload_n (pc := 64) dX12_marriages_64 rfl ?_
            refine a_callVv (pc := 65) (d := 0) (st := []) (o := 76) [.inl a] dX12_marriages_65 l_X12_425 in_X12_asks se_X12_asks rfl rfl rfl ⟨Nat.le_of_ble_eq_true rfl, Nat.le_of_ble_eq_true rfl⟩ ⟨Nat.le_of_ble_eq_true rfl, Nat.le_of_ble_eq_true rfl⟩ (Nat.le_of_ble_eq_true rfl) ?_
            refine Calls.mono (fun r65 M65 hr65 hM65 h => ?_) h
            refine a_aload_n (pc := 68) dX12_marriages_68 rfl ?_
            refine a_getr (pc := 69) dX12_marriages_69 f_X12_134 rfl ?_
            refine a_iload_n (pc := 72) dX12_marriages_72 rfl ?_
            refine a_iald (pc := 73) dX12_marriages_73 rfl h.1.1 h.1.2  ?_
            replace h := h.2
            exact a_iretI (pc := 74) dX12_marriages_74 rfl h
        · replace h := h.2 hc
          refine a_bipush (pc := 54) dX12_marriages_54 (by decide) (cnb rfl) ?_
          exact a_iretI (pc := 56) dX12_marriages_56 rfl h
      · replace h := h.2 hc
        refine a_iconst (pc := 39) dX12_marriages_39 (cnb rfl) ?_
        exact a_iretI (pc := 40) dX12_marriages_40 rfl h
    · replace h := h.2 hc
      refine a_if_ne (pc := 18) 27 dX12_marriages_18 rfl ⟨fun hc => absurd hc (by decide), fun _ => ?_⟩
      refine a_iload_n (pc := 21) dX12_marriages_21 rfl ?_
      refine a_bipush (pc := 22) dX12_marriages_22 (by decide) (cnb rfl) ?_
      refine a_icmp_ne (pc := 24) 39 dX12_marriages_24 rfl ⟨fun hc => ?_, fun hc => ?_⟩
      · replace h := h.1 hc
        refine a_iconst (pc := 39) dX12_marriages_39 (cnb rfl) ?_
        exact a_iretI (pc := 40) dX12_marriages_40 rfl h
      · replace h := h.2 hc
        refine a_iconst (pc := 27) dX12_marriages_27 (cnb rfl) ?_
        refine a_iload_n (pc := 28) dX12_marriages_28 rfl ?_
        refine a_imul (pc := 29) dX12_marriages_29 h.1 ?_
        replace h := h.2
        refine a_iload_n (pc := 30) dX12_marriages_30 rfl ?_
        refine a_imul (pc := 31) dX12_marriages_31 h.1 ?_
        replace h := h.2
        refine a_aload_n (pc := 32) dX12_marriages_32 rfl ?_
        refine a_geti (pc := 33) 13 dX12_marriages_33 f_X12_168 rfl rfl ?_
        refine a_icmp_le (pc := 36) 41 dX12_marriages_36 rfl ⟨fun hc => ?_, fun hc => ?_⟩
        · replace h := h.1 hc
          refine a_aload_n (pc := 41) dX12_marriages_41 rfl ?_
          refine a_iconst (pc := 42) dX12_marriages_42 (cnb rfl) ?_
          refine a_puti (pc := 43) 13 dX12_marriages_43 f_X12_168 rfl rfl (Or.inl rfl) ?_
          refine a_aload_n (pc := 46) dX12_marriages_46 rfl ?_
          refine a_iload_n (pc := 47) dX12_marriages_47 rfl ?_
          refine a_callVi (pc := 48) (d := 1) (st := []) (o := 76) [.inl a] dX12_marriages_48 l_X12_422 in_X12_readsRows se_X12_readsRows rfl rfl rfl ⟨Nat.le_of_ble_eq_true rfl, Nat.le_of_ble_eq_true rfl⟩ ⟨Nat.le_of_ble_eq_true rfl, Nat.le_of_ble_eq_true rfl⟩ (Nat.le_of_ble_eq_true rfl) ?_
          refine Calls.mono (fun r48 M48 hr48 hM48 h => ?_) h
          refine a_if_ne (pc := 51) 57 dX12_marriages_51 rfl ⟨fun hc => ?_, fun hc => ?_⟩
          · replace h := h.1 hc
            refine a_iload_n (pc := 57) dX12_marriages_57 rfl ?_
            refine a_bipush (pc := 58) dX12_marriages_58 (by decide) (cnb rfl) ?_
            refine a_icmp_eq (pc := 60) 75 dX12_marriages_60 rfl ⟨fun hc => ?_, fun hc => ?_⟩
            · replace h := h.1 hc
              refine a_iconst (pc := 75) dX12_marriages_75 (cnb rfl) ?_
              refine a_istore_n (pc := 76) dX12_marriages_76 (Nat.le_of_ble_eq_true rfl) ?_
              refine a_iconst (pc := 77) dX12_marriages_77 (cnb rfl) ?_
              refine a_istore (pc := 78) dX12_marriages_78 (Nat.le_of_ble_eq_true rfl) ?_
              exact Go.weak h (And.intro rfl (And.intro rfl (And.intro rfl (And.intro rfl True.intro))))
            · replace h := h.2 hc
              refine a_aload_n (pc := 63) dX12_marriages_63 rfl ?_
              refine a_iload_n (pc := 64) dX12_marriages_64 rfl ?_
              refine a_callVv (pc := 65) (d := 0) (st := []) (o := 76) [.inl a] dX12_marriages_65 l_X12_425 in_X12_asks se_X12_asks rfl rfl rfl ⟨Nat.le_of_ble_eq_true rfl, Nat.le_of_ble_eq_true rfl⟩ ⟨Nat.le_of_ble_eq_true rfl, Nat.le_of_ble_eq_true rfl⟩ (Nat.le_of_ble_eq_true rfl) ?_
              refine Calls.mono (fun r65 M65 hr65 hM65 h => ?_) h
              refine a_aload_n (pc := 68) dX12_marriages_68 rfl ?_
              refine a_getr (pc := 69) dX12_marriages_69 f_X12_134 rfl ?_
              refine a_iload_n (pc := 72) dX12_marriages_72 rfl ?_
              refine a_iald (pc := 73) dX12_marriages_73 rfl h.1.1 h.1.2  ?_
              replace h := h.2
              exact a_iretI (pc := 74) dX12_marriages_74 rfl h
          · replace h := h.2 hc
            refine a_bipush (pc := 54) dX12_marriages_54 (by decide) (cnb rfl) ?_
            exact a_iretI (pc := 56) dX12_marriages_56 rfl h
        · replace h := h.2 hc
          refine a_iconst (pc := 39) dX12_marriages_39 (cnb rfl) ?_
          exact a_iretI (pc := 40) dX12_marriages_40 rfl h
  · replace h := h.2 hc
    refine a_if_eq (pc := 7) 39 dX12_marriages_7 rfl ⟨fun _ => ?_, fun hc => absurd hc (by decide)⟩
    refine a_iconst (pc := 39) dX12_marriages_39 (cnb rfl) ?_
    exact a_iretI (pc := 40) dX12_marriages_40 rfl h
set_option maxRecDepth 20000 in
theorem e_X12_marriages {Q : Int → Me → Prop}  {a b : Int} {M : Me} (h :
    ((2 ≤ a ∧ a ≤ 6 →
    cn (a - 1) ∧
    ((0 ≤ b ∧ b ≤ a - 1 →
    cn (2 * a) ∧
    cn ((2 * a) * a) ∧
    (((2 * a) * a ≤ M 76 13 →
    Calls 1 mX12_readsRows [.inr 76, .inl a] (mput M 76 13 0) (fun r48 M48 =>
    ((r48 ≠ 0 →
    ((b = 100 →
    Go (km 2 mX12_marriages Q) 80 [some (.inr 76), some (.inl a), none, some (.inl 0), some (.inl 0)] [] M48) ∧ (b ≠ 100 →
    Calls 0 mX12_asks [.inr 76, .inl a] M48 (fun r65 M65 =>
    (0 ≤ b ∧ b < 6) ∧
    Q (M65 118 b) M65)))) ∧ (r48 = 0 →
    Q (-3) M48)))) ∧ (M 76 13 < (2 * a) * a →
    Q (-1) M))) ∧ (¬ (0 ≤ b ∧ b ≤ a - 1) →
    ((b ≠ 100 →
    Q (-1) M) ∧ (b = 100 →
    cn (2 * a) ∧
    cn ((2 * a) * a) ∧
    (((2 * a) * a ≤ M 76 13 →
    Calls 1 mX12_readsRows [.inr 76, .inl a] (mput M 76 13 0) (fun r48 M48 =>
    ((r48 ≠ 0 →
    ((b = 100 →
    Go (km 2 mX12_marriages Q) 80 [some (.inr 76), some (.inl a), none, some (.inl 0), some (.inl 0)] [] M48) ∧ (b ≠ 100 →
    Calls 0 mX12_asks [.inr 76, .inl a] M48 (fun r65 M65 =>
    (0 ≤ b ∧ b < 6) ∧
    Q (M65 118 b) M65)))) ∧ (r48 = 0 →
    Q (-3) M48)))) ∧ (M 76 13 < (2 * a) * a →
    Q (-1) M))))))) ∧ (¬ (2 ≤ a ∧ a ≤ 6) →
    Q (-1) M))) : Calls 2 mX12_marriages [.inr 76, .inl a, .inl b] M Q := Calls.of (by decide) (Nat.le_of_ble_eq_true rfl) (s_X12_marriages_0  a b M h)
set_option maxRecDepth 20000 in
theorem s_X12_marriages_80 {Q : Int → Me → Prop}  (x1 x3 x4 : Int) (M : Me) (h :
    ((x1 ≤ x4 →
    Go (km 2 mX12_marriages Q) 104 [some (.inr 76), some (.inl x1), none, some (.inl x3), some (.inl 1)] [] M) ∧ (x4 < x1 →
    (0 ≤ x4 ∧ x4 < 6) ∧
    cn (x4 + 1) ∧
    Go (km 2 mX12_marriages Q) 80 [some (.inr 76), some (.inl x1), none, some (.inl x3), some (.inl (x4 + 1))] [] (mput M 121 x4 x4)))) :
    Go (km 2 mX12_marriages Q) 80 [some (.inr 76), some (.inl x1), none, some (.inl x3), some (.inl x4)] [] M := by
  refine a_iload (pc := 80) dX12_marriages_80 rfl ?_
  refine a_iload_n (pc := 82) dX12_marriages_82 rfl ?_
  refine a_icmp_ge (pc := 83) 101 dX12_marriages_83 rfl ⟨fun hc => ?_, fun hc => ?_⟩
  · replace h := h.1 hc
    refine a_iconst (pc := 101) dX12_marriages_101 (cnb rfl) ?_
    refine a_istore (pc := 102) dX12_marriages_102 (Nat.le_of_ble_eq_true rfl) ?_
    exact h
  · replace h := h.2 hc
    refine a_aload_n (pc := 86) dX12_marriages_86 rfl ?_
    refine a_getr (pc := 87) dX12_marriages_87 f_X12_143 rfl ?_
    refine a_iload (pc := 90) dX12_marriages_90 rfl ?_
    refine a_iload (pc := 92) dX12_marriages_92 rfl ?_
    refine a_iast (pc := 94) dX12_marriages_94 rfl h.1.1 h.1.2 ?_
    replace h := h.2
    refine a_iinc (pc := 95) dX12_marriages_95 rfl h.1 (Nat.le_of_ble_eq_true rfl) ?_
    replace h := h.2
    refine a_goto (pc := 98) 80 dX12_marriages_98 rfl ?_
    exact h
set_option maxRecDepth 20000 in
theorem s_X12_marriages_104 {Q : Int → Me → Prop}  (x1 x3 x4 : Int) (M : Me) (h :
    ((x4 = 0 →
    Q x3 M) ∧ (x4 ≠ 0 →
    Calls 0 mX12_lasts [.inr 76, .inl x1] M (fun r111 M111 =>
    ((r111 = 0 →
    Calls 1 mX12_nextOrder [.inr 76, .inl x1] M111 (fun r123 M123 =>
    Go (km 2 mX12_marriages Q) 104 [some (.inr 76), some (.inl x1), none, some (.inl x3), some (.inl r123)] [] M123)) ∧ (r111 ≠ 0 →
    cn (x3 + 1) ∧
    Calls 1 mX12_nextOrder [.inr 76, .inl x1] M111 (fun r123 M123 =>
    Go (km 2 mX12_marriages Q) 104 [some (.inr 76), some (.inl x1), none, some (.inl (x3 + 1)), some (.inl r123)] [] M123))))))) :
    Go (km 2 mX12_marriages Q) 104 [some (.inr 76), some (.inl x1), none, some (.inl x3), some (.inl x4)] [] M := by
  refine a_iload (pc := 104) dX12_marriages_104 rfl ?_
  refine a_if_eq (pc := 106) 131 dX12_marriages_106 rfl ⟨fun hc => ?_, fun hc => ?_⟩
  · replace h := h.1 hc
    refine a_iload_n (pc := 131) dX12_marriages_131 rfl ?_
    exact a_iretI (pc := 132) dX12_marriages_132 rfl h
  · replace h := h.2 hc
    refine a_aload_n (pc := 109) dX12_marriages_109 rfl ?_
    refine a_iload_n (pc := 110) dX12_marriages_110 rfl ?_
    refine a_callVi (pc := 111) (d := 0) (st := []) (o := 76) [.inl x1] dX12_marriages_111 l_X12_428 in_X12_lasts se_X12_lasts rfl rfl rfl ⟨Nat.le_of_ble_eq_true rfl, Nat.le_of_ble_eq_true rfl⟩ ⟨Nat.le_of_ble_eq_true rfl, Nat.le_of_ble_eq_true rfl⟩ (Nat.le_of_ble_eq_true rfl) ?_
    refine Calls.mono (fun r111 M111 hr111 hM111 h => ?_) h
    refine a_if_eq (pc := 114) 121 dX12_marriages_114 rfl ⟨fun hc => ?_, fun hc => ?_⟩
    · replace h := h.1 hc
      refine a_aload_n (pc := 121) dX12_marriages_121 rfl ?_
      refine a_iload_n (pc := 122) dX12_marriages_122 rfl ?_
      refine a_callVi (pc := 123) (d := 1) (st := []) (o := 76) [.inl x1] dX12_marriages_123 l_X12_431 in_X12_nextOrder se_X12_nextOrder rfl rfl rfl ⟨Nat.le_of_ble_eq_true rfl, Nat.le_of_ble_eq_true rfl⟩ ⟨Nat.le_of_ble_eq_true rfl, Nat.le_of_ble_eq_true rfl⟩ (Nat.le_of_ble_eq_true rfl) ?_
      refine Calls.mono (fun r123 M123 hr123 hM123 h => ?_) h
      refine a_istore (pc := 126) dX12_marriages_126 (Nat.le_of_ble_eq_true rfl) ?_
      refine a_goto (pc := 128) 104 dX12_marriages_128 rfl ?_
      exact h
    · replace h := h.2 hc
      refine a_iload_n (pc := 117) dX12_marriages_117 rfl ?_
      refine a_iconst (pc := 118) dX12_marriages_118 (cnb rfl) ?_
      refine a_iadd (pc := 119) dX12_marriages_119 h.1 ?_
      replace h := h.2
      refine a_istore_n (pc := 120) dX12_marriages_120 (Nat.le_of_ble_eq_true rfl) ?_
      refine a_aload_n (pc := 121) dX12_marriages_121 rfl ?_
      refine a_iload_n (pc := 122) dX12_marriages_122 rfl ?_
      refine a_callVi (pc := 123) (d := 1) (st := []) (o := 76) [.inl x1] dX12_marriages_123 l_X12_431 in_X12_nextOrder se_X12_nextOrder rfl rfl rfl ⟨Nat.le_of_ble_eq_true rfl, Nat.le_of_ble_eq_true rfl⟩ ⟨Nat.le_of_ble_eq_true rfl, Nat.le_of_ble_eq_true rfl⟩ (Nat.le_of_ble_eq_true rfl) ?_
      refine Calls.mono (fun r123 M123 hr123 hM123 h => ?_) h
      refine a_istore (pc := 126) dX12_marriages_126 (Nat.le_of_ble_eq_true rfl) ?_
      refine a_goto (pc := 128) 104 dX12_marriages_128 rfl ?_
      exact h
