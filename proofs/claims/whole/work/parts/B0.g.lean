set_option maxRecDepth 20000 in
theorem s_X5_readRow_0 {Q : Int → Me → Prop} {w : Nat} (hw : lay[w]? = some (.inl (false, 36))) (a b : Int) (M : Me) (h :
    Go (km 1 mX5_readRow Q) 6 [some (.inr 69), some (.inr 1), some (.inl a), some (.inr w), some (.inl b), some (.inl 0), some (.inl 0), none] [] M) :
    Go (km 1 mX5_readRow Q) 0 [some (.inr 69), some (.inr 1), some (.inl a), some (.inr w), some (.inl b), none, none, none] [] M := by
  refine a_iconst (pc := 0) dX5_readRow_0 (cnb rfl) ?_
  refine a_istore (pc := 1) dX5_readRow_1 (Nat.le_of_ble_eq_true rfl) ?_
  refine a_iconst (pc := 3) dX5_readRow_3 (cnb rfl) ?_
  refine a_istore (pc := 4) dX5_readRow_4 (Nat.le_of_ble_eq_true rfl) ?_
  exact h
set_option maxRecDepth 20000 in
theorem e_X5_readRow {Q : Int → Me → Prop} {w : Nat} (hw : lay[w]? = some (.inl (false, 36))) {a b : Int} {M : Me} (h :
    Go (km 1 mX5_readRow Q) 6 [some (.inr 69), some (.inr 1), some (.inl a), some (.inr w), some (.inl b), some (.inl 0), some (.inl 0), none] [] M) : Calls 1 mX5_readRow [.inr 69, .inr 1, .inl a, .inr w, .inl b] M Q := Calls.of (by decide) (Nat.le_of_ble_eq_true rfl) (s_X5_readRow_0 hw a b M h)
set_option maxRecDepth 20000 in
theorem s_X5_readRow_6 {Q : Int → Me → Prop} {w : Nat} (hw : lay[w]? = some (.inl (false, 36))) (x2 x4 x5 x6 : Int) (M : Me) (h :
    ((M 69 6 ≤ x6 →
    Q 1 M) ∧ (x6 < M 69 6 →
    cn (x2 + x6) ∧
    M 1 1 ≤ 260 ∧
    ((0 ≤ x2 + x6 ∧ x2 + x6 < M 1 1 →
    ((M 2 (x2 + x6) < 0 →
    Q 0 M) ∧ (0 ≤ M 2 (x2 + x6) →
    ((M 69 6 ≤ M 2 (x2 + x6) →
    Q 0 M) ∧ (M 2 (x2 + x6) < M 69 6 →
    ((band (bshr x5 (M 2 (x2 + x6))) 1 ≠ 1 →
    cn (x4 + (M 2 (x2 + x6))) ∧
    (0 ≤ x4 + (M 2 (x2 + x6)) ∧ x4 + (M 2 (x2 + x6)) < 36) ∧
    cn (x6 + 1) ∧
    Go (km 1 mX5_readRow Q) 6 [some (.inr 69), some (.inr 1), some (.inl x2), some (.inr w), some (.inl x4), some (.inl (bor x5 (bshl 1 (M 2 (x2 + x6))))), some (.inl (x6 + 1)), none] [] (mput M w (x4 + (M 2 (x2 + x6))) x6)) ∧ (band (bshr x5 (M 2 (x2 + x6))) 1 = 1 →
    Q 0 M))))))) ∧ (¬ (0 ≤ x2 + x6 ∧ x2 + x6 < M 1 1) →
    Q 0 M))))) :
    Go (km 1 mX5_readRow Q) 6 [some (.inr 69), some (.inr 1), some (.inl x2), some (.inr w), some (.inl x4), some (.inl x5), some (.inl x6), none] [] M := by
  refine a_iload (pc := 6) dX5_readRow_6 rfl ?_
  refine a_aload_n (pc := 8) dX5_readRow_8 rfl ?_
  refine a_geti (pc := 9) 6 dX5_readRow_9 f_X5_28 rfl rfl ?_
  refine a_icmp_ge (pc := 12) 76 dX5_readRow_12 rfl ⟨fun hc => ?_, fun hc => ?_⟩
  · replace h := h.1 hc
    refine a_iconst (pc := 76) dX5_readRow_76 (cnb rfl) ?_
    exact a_iretZ (pc := 77) dX5_readRow_77 rfl (by decide) h
  · replace h := h.2 hc
    refine a_aload_n (pc := 15) dX5_readRow_15 rfl ?_
    refine a_iload_n (pc := 16) dX5_readRow_16 rfl ?_
    refine a_iload (pc := 17) dX5_readRow_17 rfl ?_
    refine a_iadd (pc := 19) dX5_readRow_19 h.1 ?_
    replace h := h.2
    refine a_callVi (pc := 20) (d := 0) (st := []) (o := 1) [.inl (x2 + x6)] dX5_readRow_20 l_X5_36 in_X9_byteAt se_X9_byteAt rfl rfl rfl ⟨Nat.le_of_ble_eq_true rfl, Nat.le_of_ble_eq_true rfl⟩ ⟨Nat.le_of_ble_eq_true rfl, Nat.le_of_ble_eq_true rfl⟩ (Nat.le_of_ble_eq_true rfl) ?_
    have hp20_2 := h.1
    replace h := h.2
    refine p_X9_byteAt hp20_2 ⟨fun hc => ?_, fun hc => ?_⟩
    · replace h := h.1 hc
      refine a_istore (pc := 23) dX5_readRow_23 (Nat.le_of_ble_eq_true rfl) ?_
      refine a_iload (pc := 25) dX5_readRow_25 rfl ?_
      refine a_if_lt (pc := 27) 50 dX5_readRow_27 rfl ⟨fun hc => ?_, fun hc => ?_⟩
      · replace h := h.1 hc
        refine a_iconst (pc := 50) dX5_readRow_50 (cnb rfl) ?_
        exact a_iretZ (pc := 51) dX5_readRow_51 rfl (by decide) h
      · replace h := h.2 hc
        refine a_iload (pc := 30) dX5_readRow_30 rfl ?_
        refine a_aload_n (pc := 32) dX5_readRow_32 rfl ?_
        refine a_geti (pc := 33) 6 dX5_readRow_33 f_X5_28 rfl rfl ?_
        refine a_icmp_ge (pc := 36) 50 dX5_readRow_36 rfl ⟨fun hc => ?_, fun hc => ?_⟩
        · replace h := h.1 hc
          refine a_iconst (pc := 50) dX5_readRow_50 (cnb rfl) ?_
          exact a_iretZ (pc := 51) dX5_readRow_51 rfl (by decide) h
        · replace h := h.2 hc
          refine a_iload (pc := 39) dX5_readRow_39 rfl ?_
          refine a_iload (pc := 41) dX5_readRow_41 rfl ?_
          refine a_ishr (pc := 43) dX5_readRow_43 ?_
          refine a_iconst (pc := 44) dX5_readRow_44 (cnb rfl) ?_
          refine a_iand (pc := 45) dX5_readRow_45 ?_
          refine a_iconst (pc := 46) dX5_readRow_46 (cnb rfl) ?_
          refine a_icmp_ne (pc := 47) 52 dX5_readRow_47 rfl ⟨fun hc => ?_, fun hc => ?_⟩
          · replace h := h.1 hc
            refine a_iload (pc := 52) dX5_readRow_52 rfl ?_
            refine a_iconst (pc := 54) dX5_readRow_54 (cnb rfl) ?_
            refine a_iload (pc := 55) dX5_readRow_55 rfl ?_
            refine a_ishl (pc := 57) dX5_readRow_57 ?_
            refine a_ior (pc := 58) dX5_readRow_58 ?_
            refine a_istore (pc := 59) dX5_readRow_59 (Nat.le_of_ble_eq_true rfl) ?_
            refine a_aload_n (pc := 61) dX5_readRow_61 rfl ?_
            refine a_iload (pc := 62) dX5_readRow_62 rfl ?_
            refine a_iload (pc := 64) dX5_readRow_64 rfl ?_
            refine a_iadd (pc := 66) dX5_readRow_66 h.1 ?_
            replace h := h.2
            refine a_iload (pc := 67) dX5_readRow_67 rfl ?_
            refine a_iast (pc := 69) dX5_readRow_69 hw h.1.1 h.1.2 ?_
            replace h := h.2
            refine a_iinc (pc := 70) dX5_readRow_70 rfl h.1 (Nat.le_of_ble_eq_true rfl) ?_
            replace h := h.2
            refine a_goto (pc := 73) 6 dX5_readRow_73 rfl ?_
            exact Go.weak h (And.intro rfl (And.intro rfl (And.intro rfl (And.intro rfl (And.intro rfl (And.intro rfl (And.intro rfl True.intro)))))))
          · replace h := h.2 hc
            refine a_iconst (pc := 50) dX5_readRow_50 (cnb rfl) ?_
            exact a_iretZ (pc := 51) dX5_readRow_51 rfl (by decide) h
    · replace h := h.2 hc
      refine a_istore (pc := 23) dX5_readRow_23 (Nat.le_of_ble_eq_true rfl) ?_
      refine a_iload (pc := 25) dX5_readRow_25 rfl ?_
      refine a_if_lt (pc := 27) 50 dX5_readRow_27 rfl ⟨fun _ => ?_, fun hc => absurd hc (by decide)⟩
      refine a_iconst (pc := 50) dX5_readRow_50 (cnb rfl) ?_
      exact a_iretZ (pc := 51) dX5_readRow_51 rfl (by decide) h
set_option maxRecDepth 20000 in
theorem s_X5_read_0 {Q : Int → Me → Prop}  (a : Int) (M : Me) (h :
    Go (km 2 mX5_read Q) 7 [some (.inr 69), some (.inr 1), some (.inl a), some (.inl 0), none, none] [] (mput M 69 6 a)) :
    Go (km 2 mX5_read Q) 0 [some (.inr 69), some (.inr 1), some (.inl a), none, none, none] [] M := by
  refine a_aload_n (pc := 0) dX5_read_0 rfl ?_
  refine a_iload_n (pc := 1) dX5_read_1 rfl ?_
  refine a_puti (pc := 2) 6 dX5_read_2 f_X5_28 rfl rfl (Or.inl rfl) ?_
  refine a_iconst (pc := 5) dX5_read_5 (cnb rfl) ?_
  refine a_istore_n (pc := 6) dX5_read_6 (Nat.le_of_ble_eq_true rfl) ?_
  exact h
set_option maxRecDepth 20000 in
theorem e_X5_read {Q : Int → Me → Prop}  {a : Int} {M : Me} (h :
    Go (km 2 mX5_read Q) 7 [some (.inr 69), some (.inr 1), some (.inl a), some (.inl 0), none, none] [] (mput M 69 6 a)) : Calls 2 mX5_read [.inr 69, .inr 1, .inl a] M Q := Calls.of (by decide) (Nat.le_of_ble_eq_true rfl) (s_X5_read_0  a M h)
set_option maxRecDepth 20000 in
theorem s_X5_read_7 {Q : Int → Me → Prop}  (x2 x3 : Int) (M : Me) (h :
    ((x2 ≤ x3 →
    Q 1 M) ∧ (x3 < x2 →
    cn (x2 * x3) ∧
    cn (6 * x3) ∧
    Calls 1 mX5_readRow [.inr 69, .inr 1, .inl (x2 * x3), .inr 71, .inl (6 * x3)] M (fun r25 M25 =>
    ((r25 = 0 →
    Q 0 M25) ∧ (r25 ≠ 0 →
    cn (x2 * x2) ∧
    cn (x2 * x3) ∧
    cn ((x2 * x2) + (x2 * x3)) ∧
    cn (6 * x3) ∧
    Calls 1 mX5_readRow [.inr 69, .inr 1, .inl ((x2 * x2) + (x2 * x3)), .inr 72, .inl (6 * x3)] M25 (fun r48 M48 =>
    ((r48 = 0 →
    Q 0 M48) ∧ (r48 ≠ 0 →
    Go (km 2 mX5_read Q) 71 [some (.inr 69), some (.inr 1), some (.inl x2), some (.inl x3), none, some (.inl 0)] [] M48))))))))) :
    Go (km 2 mX5_read Q) 7 [some (.inr 69), some (.inr 1), some (.inl x2), some (.inl x3), none, none] [] M := by
  refine a_iload_n (pc := 7) dX5_read_7 rfl ?_
  refine a_iload_n (pc := 8) dX5_read_8 rfl ?_
  refine a_icmp_ge (pc := 9) 113 dX5_read_9 rfl ⟨fun hc => ?_, fun hc => ?_⟩
  · replace h := h.1 hc
    refine a_iconst (pc := 113) dX5_read_113 (cnb rfl) ?_
    exact a_iretZ (pc := 114) dX5_read_114 rfl (by decide) h
  · replace h := h.2 hc
    refine a_aload_n (pc := 12) dX5_read_12 rfl ?_
    refine a_aload_n (pc := 13) dX5_read_13 rfl ?_
    refine a_iload_n (pc := 14) dX5_read_14 rfl ?_
    refine a_iload_n (pc := 15) dX5_read_15 rfl ?_
    refine a_imul (pc := 16) dX5_read_16 h.1 ?_
    replace h := h.2
    refine a_aload_n (pc := 17) dX5_read_17 rfl ?_
    refine a_getr (pc := 18) dX5_read_18 f_X5_13 rfl ?_
    refine a_bipush (pc := 21) dX5_read_21 (by decide) (cnb rfl) ?_
    refine a_iload_n (pc := 23) dX5_read_23 rfl ?_
    refine a_imul (pc := 24) dX5_read_24 h.1 ?_
    replace h := h.2
    refine a_callVi (pc := 25) (d := 1) (st := []) (o := 69) [.inr 1, .inl (x2 * x3), .inr 71, .inl (6 * x3)] dX5_read_25 l_X5_32 in_X5_readRow se_X5_readRow rfl rfl rfl ⟨Nat.le_of_ble_eq_true rfl, Nat.le_of_ble_eq_true rfl⟩ ⟨Nat.le_of_ble_eq_true rfl, Nat.le_of_ble_eq_true rfl⟩ (Nat.le_of_ble_eq_true rfl) ?_
    refine Calls.mono (fun r25 M25 hr25 hM25 h => ?_) h
    refine a_if_eq (pc := 28) 58 dX5_read_28 rfl ⟨fun hc => ?_, fun hc => ?_⟩
    · replace h := h.1 hc
      refine a_iconst (pc := 58) dX5_read_58 (cnb rfl) ?_
      refine a_istore (pc := 59) dX5_read_59 (Nat.le_of_ble_eq_true rfl) ?_
      refine a_iload (pc := 61) dX5_read_61 rfl ?_
      refine a_if_ne (pc := 63) 68 dX5_read_63 rfl ⟨fun hc => absurd hc (by decide), fun _ => ?_⟩
      refine a_iconst (pc := 66) dX5_read_66 (cnb rfl) ?_
      exact a_iretZ (pc := 67) dX5_read_67 rfl (by decide) h
    · replace h := h.2 hc
      refine a_aload_n (pc := 31) dX5_read_31 rfl ?_
      refine a_aload_n (pc := 32) dX5_read_32 rfl ?_
      refine a_iload_n (pc := 33) dX5_read_33 rfl ?_
      refine a_iload_n (pc := 34) dX5_read_34 rfl ?_
      refine a_imul (pc := 35) dX5_read_35 h.1 ?_
      replace h := h.2
      refine a_iload_n (pc := 36) dX5_read_36 rfl ?_
      refine a_iload_n (pc := 37) dX5_read_37 rfl ?_
      refine a_imul (pc := 38) dX5_read_38 h.1 ?_
      replace h := h.2
      refine a_iadd (pc := 39) dX5_read_39 h.1 ?_
      replace h := h.2
      refine a_aload_n (pc := 40) dX5_read_40 rfl ?_
      refine a_getr (pc := 41) dX5_read_41 f_X5_16 rfl ?_
      refine a_bipush (pc := 44) dX5_read_44 (by decide) (cnb rfl) ?_
      refine a_iload_n (pc := 46) dX5_read_46 rfl ?_
      refine a_imul (pc := 47) dX5_read_47 h.1 ?_
      replace h := h.2
      refine a_callVi (pc := 48) (d := 1) (st := []) (o := 69) [.inr 1, .inl ((x2 * x2) + (x2 * x3)), .inr 72, .inl (6 * x3)] dX5_read_48 l_X5_32 in_X5_readRow se_X5_readRow rfl rfl rfl ⟨Nat.le_of_ble_eq_true rfl, Nat.le_of_ble_eq_true rfl⟩ ⟨Nat.le_of_ble_eq_true rfl, Nat.le_of_ble_eq_true rfl⟩ (Nat.le_of_ble_eq_true rfl) ?_
      refine Calls.mono (fun r48 M48 hr48 hM48 h => ?_) h
      refine a_if_eq (pc := 51) 58 dX5_read_51 rfl ⟨fun hc => ?_, fun hc => ?_⟩
      · replace h := h.1 hc
        refine a_iconst (pc := 58) dX5_read_58 (cnb rfl) ?_
        refine a_istore (pc := 59) dX5_read_59 (Nat.le_of_ble_eq_true rfl) ?_
        refine a_iload (pc := 61) dX5_read_61 rfl ?_
        refine a_if_ne (pc := 63) 68 dX5_read_63 rfl ⟨fun hc => absurd hc (by decide), fun _ => ?_⟩
        refine a_iconst (pc := 66) dX5_read_66 (cnb rfl) ?_
        exact a_iretZ (pc := 67) dX5_read_67 rfl (by decide) h
      · replace h := h.2 hc
        refine a_iconst (pc := 54) dX5_read_54 (cnb rfl) ?_
        refine a_goto (pc := 55) 59 dX5_read_55 rfl ?_
        refine a_istore (pc := 59) dX5_read_59 (Nat.le_of_ble_eq_true rfl) ?_
        refine a_iload (pc := 61) dX5_read_61 rfl ?_
        refine a_if_ne (pc := 63) 68 dX5_read_63 rfl ⟨fun _ => ?_, fun hc => absurd hc (by decide)⟩
        refine a_iconst (pc := 68) dX5_read_68 (cnb rfl) ?_
        refine a_istore (pc := 69) dX5_read_69 (Nat.le_of_ble_eq_true rfl) ?_
        exact Go.weak h (And.intro rfl (And.intro rfl (And.intro rfl (And.intro rfl (And.intro rfl True.intro)))))
set_option maxRecDepth 20000 in
theorem s_X5_read_71 {Q : Int → Me → Prop}  (x2 x3 x5 : Int) (M : Me) (h :
    ((x2 ≤ x5 →
    cn (x3 + 1) ∧
    Go (km 2 mX5_read Q) 7 [some (.inr 69), some (.inr 1), some (.inl x2), some (.inl (x3 + 1)), none, none] [] M) ∧ (x5 < x2 →
    cn (6 * x3) ∧
    cn (6 * x3) ∧
    cn ((6 * x3) + x5) ∧
    (0 ≤ (6 * x3) + x5 ∧ (6 * x3) + x5 < 36) ∧
    cn ((6 * x3) + (M 71 ((6 * x3) + x5))) ∧
    (0 ≤ (6 * x3) + (M 71 ((6 * x3) + x5)) ∧ (6 * x3) + (M 71 ((6 * x3) + x5)) < 36) ∧
    cn (x5 + 1) ∧
    Go (km 2 mX5_read Q) 71 [some (.inr 69), some (.inr 1), some (.inl x2), some (.inl x3), none, some (.inl (x5 + 1))] [] (mput M 70 ((6 * x3) + (M 71 ((6 * x3) + x5))) x5)))) :
    Go (km 2 mX5_read Q) 71 [some (.inr 69), some (.inr 1), some (.inl x2), some (.inl x3), none, some (.inl x5)] [] M := by
  refine a_iload (pc := 71) dX5_read_71 rfl ?_
  refine a_iload_n (pc := 73) dX5_read_73 rfl ?_
  refine a_icmp_ge (pc := 74) 107 dX5_read_74 rfl ⟨fun hc => ?_, fun hc => ?_⟩
  · replace h := h.1 hc
    refine a_iinc (pc := 107) dX5_read_107 rfl h.1 (Nat.le_of_ble_eq_true rfl) ?_
    replace h := h.2
    refine a_goto (pc := 110) 7 dX5_read_110 rfl ?_
    exact Go.weak h (And.intro rfl (And.intro rfl (And.intro rfl (And.intro rfl True.intro))))
  · replace h := h.2 hc
    refine a_aload_n (pc := 77) dX5_read_77 rfl ?_
    refine a_getr (pc := 78) dX5_read_78 f_X5_9 rfl ?_
    refine a_bipush (pc := 81) dX5_read_81 (by decide) (cnb rfl) ?_
    refine a_iload_n (pc := 83) dX5_read_83 rfl ?_
    refine a_imul (pc := 84) dX5_read_84 h.1 ?_
    replace h := h.2
    refine a_aload_n (pc := 85) dX5_read_85 rfl ?_
    refine a_getr (pc := 86) dX5_read_86 f_X5_13 rfl ?_
    refine a_bipush (pc := 89) dX5_read_89 (by decide) (cnb rfl) ?_
    refine a_iload_n (pc := 91) dX5_read_91 rfl ?_
    refine a_imul (pc := 92) dX5_read_92 h.1 ?_
    replace h := h.2
    refine a_iload (pc := 93) dX5_read_93 rfl ?_
    refine a_iadd (pc := 95) dX5_read_95 h.1 ?_
    replace h := h.2
    refine a_iald (pc := 96) dX5_read_96 rfl h.1.1 h.1.2  ?_
    replace h := h.2
    refine a_iadd (pc := 97) dX5_read_97 h.1 ?_
    replace h := h.2
    refine a_iload (pc := 98) dX5_read_98 rfl ?_
    refine a_iast (pc := 100) dX5_read_100 rfl h.1.1 h.1.2 ?_
    replace h := h.2
    refine a_iinc (pc := 101) dX5_read_101 rfl h.1 (Nat.le_of_ble_eq_true rfl) ?_
    replace h := h.2
    refine a_goto (pc := 104) 71 dX5_read_104 rfl ?_
    exact h
set_option maxRecDepth 20000 in
theorem s_X5_oneFree_0 {Q : Int → Me → Prop}  (M : Me) (h :
    Go (km 0 mX5_oneFree Q) 2 [some (.inr 69), some (.inl 0)] [] M) :
    Go (km 0 mX5_oneFree Q) 0 [some (.inr 69), none] [] M := by
  refine a_iconst (pc := 0) dX5_oneFree_0 (cnb rfl) ?_
  refine a_istore_n (pc := 1) dX5_oneFree_1 (Nat.le_of_ble_eq_true rfl) ?_
  exact h
set_option maxRecDepth 20000 in
theorem e_X5_oneFree {Q : Int → Me → Prop}  {M : Me} (h :
    Go (km 0 mX5_oneFree Q) 2 [some (.inr 69), some (.inl 0)] [] M) : Calls 0 mX5_oneFree [.inr 69] M Q := Calls.of (by decide) (Nat.le_of_ble_eq_true rfl) (s_X5_oneFree_0   M h)
set_option maxRecDepth 20000 in
theorem s_X5_oneFree_2 {Q : Int → Me → Prop}  (x1 : Int) (M : Me) (h :
    ((M 69 6 ≤ x1 →
    Q (-1) M) ∧ (x1 < M 69 6 →
    (0 ≤ x1 ∧ x1 < 6) ∧
    ((M 73 x1 ≠ (-1) →
    cn (x1 + 1) ∧
    Go (km 0 mX5_oneFree Q) 2 [some (.inr 69), some (.inl (x1 + 1))] [] M) ∧ (M 73 x1 = (-1) →
    (0 ≤ x1 ∧ x1 < 6) ∧
    ((M 69 6 ≤ M 74 x1 →
    cn (x1 + 1) ∧
    Go (km 0 mX5_oneFree Q) 2 [some (.inr 69), some (.inl (x1 + 1))] [] M) ∧ (M 74 x1 < M 69 6 →
    Q x1 M))))))) :
    Go (km 0 mX5_oneFree Q) 2 [some (.inr 69), some (.inl x1)] [] M := by
  refine a_iload_n (pc := 2) dX5_oneFree_2 rfl ?_
  refine a_aload_n (pc := 3) dX5_oneFree_3 rfl ?_
  refine a_geti (pc := 4) 6 dX5_oneFree_4 f_X5_28 rfl rfl ?_
  refine a_icmp_ge (pc := 7) 41 dX5_oneFree_7 rfl ⟨fun hc => ?_, fun hc => ?_⟩
  · replace h := h.1 hc
    refine a_iconst (pc := 41) dX5_oneFree_41 (cnb rfl) ?_
    exact a_iretI (pc := 42) dX5_oneFree_42 rfl h
  · replace h := h.2 hc
    refine a_aload_n (pc := 10) dX5_oneFree_10 rfl ?_
    refine a_getr (pc := 11) dX5_oneFree_11 f_X5_19 rfl ?_
    refine a_iload_n (pc := 14) dX5_oneFree_14 rfl ?_
    refine a_iald (pc := 15) dX5_oneFree_15 rfl h.1.1 h.1.2  ?_
    replace h := h.2
    refine a_iconst (pc := 16) dX5_oneFree_16 (cnb rfl) ?_
    refine a_icmp_ne (pc := 17) 35 dX5_oneFree_17 rfl ⟨fun hc => ?_, fun hc => ?_⟩
    · replace h := h.1 hc
      refine a_iinc (pc := 35) dX5_oneFree_35 rfl h.1 (Nat.le_of_ble_eq_true rfl) ?_
      replace h := h.2
      refine a_goto (pc := 38) 2 dX5_oneFree_38 rfl ?_
      exact h
    · replace h := h.2 hc
      refine a_aload_n (pc := 20) dX5_oneFree_20 rfl ?_
      refine a_getr (pc := 21) dX5_oneFree_21 f_X5_22 rfl ?_
      refine a_iload_n (pc := 24) dX5_oneFree_24 rfl ?_
      refine a_iald (pc := 25) dX5_oneFree_25 rfl h.1.1 h.1.2  ?_
      replace h := h.2
      refine a_aload_n (pc := 26) dX5_oneFree_26 rfl ?_
      refine a_geti (pc := 27) 6 dX5_oneFree_27 f_X5_28 rfl rfl ?_
      refine a_icmp_ge (pc := 30) 35 dX5_oneFree_30 rfl ⟨fun hc => ?_, fun hc => ?_⟩
      · replace h := h.1 hc
        refine a_iinc (pc := 35) dX5_oneFree_35 rfl h.1 (Nat.le_of_ble_eq_true rfl) ?_
        replace h := h.2
        refine a_goto (pc := 38) 2 dX5_oneFree_38 rfl ?_
        exact h
      · replace h := h.2 hc
        refine a_iload_n (pc := 33) dX5_oneFree_33 rfl ?_
        exact a_iretI (pc := 34) dX5_oneFree_34 rfl h
set_option maxRecDepth 20000 in
theorem s_X5_ask_0 {Q : Int → Me → Prop}  (a : Int) (M : Me) (h :
    cn (6 * a) ∧
    (0 ≤ a ∧ a < 6) ∧
    cn ((6 * a) + (M 74 a)) ∧
    (0 ≤ (6 * a) + (M 74 a) ∧ (6 * a) + (M 74 a) < 36) ∧
    (0 ≤ a ∧ a < 6) ∧
    cn ((M 74 a) + 1) ∧
    (0 ≤ a ∧ a < 6) ∧
    (0 ≤ M 70 ((6 * a) + (M 74 a)) ∧ M 70 ((6 * a) + (M 74 a)) < 6) ∧
    ((M 75 (M 70 ((6 * a) + (M 74 a))) = (-1) →
    ((M 75 (M 70 ((6 * a) + (M 74 a))) = (-1) →
    (0 ≤ M 70 ((6 * a) + (M 74 a)) ∧ M 70 ((6 * a) + (M 74 a)) < 6) ∧
    (0 ≤ a ∧ a < 6) ∧
    Q 0 (mput (mput (mput M 74 a ((M 74 a) + 1)) 75 (M 70 ((6 * a) + (M 74 a))) a) 73 a (M 70 ((6 * a) + (M 74 a))))) ∧ (M 75 (M 70 ((6 * a) + (M 74 a))) ≠ (-1) →
    (0 ≤ M 75 (M 70 ((6 * a) + (M 74 a))) ∧ M 75 (M 70 ((6 * a) + (M 74 a))) < 6) ∧
    (0 ≤ M 70 ((6 * a) + (M 74 a)) ∧ M 70 ((6 * a) + (M 74 a)) < 6) ∧
    (0 ≤ a ∧ a < 6) ∧
    Q 0 (mput (mput (mput (mput M 74 a ((M 74 a) + 1)) 73 (M 75 (M 70 ((6 * a) + (M 74 a)))) (-1)) 75 (M 70 ((6 * a) + (M 74 a))) a) 73 a (M 70 ((6 * a) + (M 74 a))))))) ∧ (M 75 (M 70 ((6 * a) + (M 74 a))) ≠ (-1) →
    cn (6 * (M 70 ((6 * a) + (M 74 a)))) ∧
    cn ((6 * (M 70 ((6 * a) + (M 74 a)))) + (M 75 (M 70 ((6 * a) + (M 74 a))))) ∧
    (0 ≤ (6 * (M 70 ((6 * a) + (M 74 a)))) + (M 75 (M 70 ((6 * a) + (M 74 a)))) ∧ (6 * (M 70 ((6 * a) + (M 74 a)))) + (M 75 (M 70 ((6 * a) + (M 74 a)))) < 36) ∧
    cn (6 * (M 70 ((6 * a) + (M 74 a)))) ∧
    cn ((6 * (M 70 ((6 * a) + (M 74 a)))) + a) ∧
    (0 ≤ (6 * (M 70 ((6 * a) + (M 74 a)))) + a ∧ (6 * (M 70 ((6 * a) + (M 74 a)))) + a < 36) ∧
    ((M 72 ((6 * (M 70 ((6 * a) + (M 74 a)))) + a) ≤ M 72 ((6 * (M 70 ((6 * a) + (M 74 a)))) + (M 75 (M 70 ((6 * a) + (M 74 a))))) →
    ((M 75 (M 70 ((6 * a) + (M 74 a))) = (-1) →
    (0 ≤ M 70 ((6 * a) + (M 74 a)) ∧ M 70 ((6 * a) + (M 74 a)) < 6) ∧
    (0 ≤ a ∧ a < 6) ∧
    Q 0 (mput (mput (mput M 74 a ((M 74 a) + 1)) 75 (M 70 ((6 * a) + (M 74 a))) a) 73 a (M 70 ((6 * a) + (M 74 a))))) ∧ (M 75 (M 70 ((6 * a) + (M 74 a))) ≠ (-1) →
    (0 ≤ M 75 (M 70 ((6 * a) + (M 74 a))) ∧ M 75 (M 70 ((6 * a) + (M 74 a))) < 6) ∧
    (0 ≤ M 70 ((6 * a) + (M 74 a)) ∧ M 70 ((6 * a) + (M 74 a)) < 6) ∧
    (0 ≤ a ∧ a < 6) ∧
    Q 0 (mput (mput (mput (mput M 74 a ((M 74 a) + 1)) 73 (M 75 (M 70 ((6 * a) + (M 74 a)))) (-1)) 75 (M 70 ((6 * a) + (M 74 a))) a) 73 a (M 70 ((6 * a) + (M 74 a))))))) ∧ (M 72 ((6 * (M 70 ((6 * a) + (M 74 a)))) + (M 75 (M 70 ((6 * a) + (M 74 a))))) < M 72 ((6 * (M 70 ((6 * a) + (M 74 a)))) + a) →
    Q 0 (mput M 74 a ((M 74 a) + 1))))))) :
    Go (km 0 mX5_ask Q) 0 [some (.inr 69), some (.inl a), none, none] [] M := by
  refine a_aload_n (pc := 0) dX5_ask_0 rfl ?_
  refine a_getr (pc := 1) dX5_ask_1 f_X5_9 rfl ?_
  refine a_bipush (pc := 4) dX5_ask_4 (by decide) (cnb rfl) ?_
  refine a_iload_n (pc := 6) dX5_ask_6 rfl ?_
  refine a_imul (pc := 7) dX5_ask_7 h.1 ?_
  replace h := h.2
  refine a_aload_n (pc := 8) dX5_ask_8 rfl ?_
  refine a_getr (pc := 9) dX5_ask_9 f_X5_22 rfl ?_
  refine a_iload_n (pc := 12) dX5_ask_12 rfl ?_
  refine a_iald (pc := 13) dX5_ask_13 rfl h.1.1 h.1.2  ?_
  replace h := h.2
  refine a_iadd (pc := 14) dX5_ask_14 h.1 ?_
  replace h := h.2
  refine a_iald (pc := 15) dX5_ask_15 rfl h.1.1 h.1.2  ?_
  replace h := h.2
  refine a_istore_n (pc := 16) dX5_ask_16 (Nat.le_of_ble_eq_true rfl) ?_
  refine a_aload_n (pc := 17) dX5_ask_17 rfl ?_
  refine a_getr (pc := 18) dX5_ask_18 f_X5_22 rfl ?_
  refine a_iload_n (pc := 21) dX5_ask_21 rfl ?_
  refine a_dup2 (pc := 22) dX5_ask_22 ?_
  refine a_iald (pc := 23) dX5_ask_23 rfl h.1.1 h.1.2  ?_
  replace h := h.2
  refine a_iconst (pc := 24) dX5_ask_24 (cnb rfl) ?_
  refine a_iadd (pc := 25) dX5_ask_25 h.1 ?_
  replace h := h.2
  refine a_iast (pc := 26) dX5_ask_26 rfl h.1.1 h.1.2 ?_
  replace h := h.2
  refine a_aload_n (pc := 27) dX5_ask_27 rfl ?_
  refine a_getr (pc := 28) dX5_ask_28 f_X5_25 rfl ?_
  refine a_iload_n (pc := 31) dX5_ask_31 rfl ?_
  refine a_ialdE (pc := 32) (M 75 (M 70 ((6 * a) + (M 74 a)))) dX5_ask_32 rfl h.1.1 h.1.2 (mput_ne _ _ _ _ (by decide)) ?_
  replace h := h.2
  refine a_istore_n (pc := 33) dX5_ask_33 (Nat.le_of_ble_eq_true rfl) ?_
  refine a_iload_n (pc := 34) dX5_ask_34 rfl ?_
  refine a_iconst (pc := 35) dX5_ask_35 (cnb rfl) ?_
  refine a_icmp_eq (pc := 36) 65 dX5_ask_36 rfl ⟨fun hc => ?_, fun hc => ?_⟩
  · replace h := h.1 hc
    refine a_iload_n (pc := 65) dX5_ask_65 rfl ?_
    refine a_iconst (pc := 66) dX5_ask_66 (cnb rfl) ?_
    refine a_icmp_eq (pc := 67) 77 dX5_ask_67 rfl ⟨fun hc => ?_, fun hc => ?_⟩
    · replace h := h.1 hc
      refine a_aload_n (pc := 77) dX5_ask_77 rfl ?_
      refine a_getr (pc := 78) dX5_ask_78 f_X5_25 rfl ?_
      refine a_iload_n (pc := 81) dX5_ask_81 rfl ?_
      refine a_iload_n (pc := 82) dX5_ask_82 rfl ?_
      refine a_iast (pc := 83) dX5_ask_83 rfl h.1.1 h.1.2 ?_
      replace h := h.2
      refine a_aload_n (pc := 84) dX5_ask_84 rfl ?_
      refine a_getr (pc := 85) dX5_ask_85 f_X5_19 rfl ?_
      refine a_iload_n (pc := 88) dX5_ask_88 rfl ?_
      refine a_iload_n (pc := 89) dX5_ask_89 rfl ?_
      refine a_iast (pc := 90) dX5_ask_90 rfl h.1.1 h.1.2 ?_
      replace h := h.2
      exact a_ret (pc := 91) dX5_ask_91 rfl h
    · replace h := h.2 hc
      refine a_aload_n (pc := 70) dX5_ask_70 rfl ?_
      refine a_getr (pc := 71) dX5_ask_71 f_X5_19 rfl ?_
      refine a_iload_n (pc := 74) dX5_ask_74 rfl ?_
      refine a_iconst (pc := 75) dX5_ask_75 (cnb rfl) ?_
      refine a_iast (pc := 76) dX5_ask_76 rfl h.1.1 h.1.2 ?_
      replace h := h.2
      refine a_aload_n (pc := 77) dX5_ask_77 rfl ?_
      refine a_getr (pc := 78) dX5_ask_78 f_X5_25 rfl ?_
      refine a_iload_n (pc := 81) dX5_ask_81 rfl ?_
      refine a_iload_n (pc := 82) dX5_ask_82 rfl ?_
      refine a_iast (pc := 83) dX5_ask_83 rfl h.1.1 h.1.2 ?_
      replace h := h.2
      refine a_aload_n (pc := 84) dX5_ask_84 rfl ?_
      refine a_getr (pc := 85) dX5_ask_85 f_X5_19 rfl ?_
      refine a_iload_n (pc := 88) dX5_ask_88 rfl ?_
      refine a_iload_n (pc := 89) dX5_ask_89 rfl ?_
      refine a_iast (pc := 90) dX5_ask_90 rfl h.1.1 h.1.2 ?_
      replace h := h.2
      exact a_ret (pc := 91) dX5_ask_91 rfl h
  · replace h := h.2 hc
    refine a_aload_n (pc := 39) dX5_ask_39 rfl ?_
    refine a_getr (pc := 40) dX5_ask_40 f_X5_16 rfl ?_
    refine a_bipush (pc := 43) dX5_ask_43 (by decide) (cnb rfl) ?_
    refine a_iload_n (pc := 45) dX5_ask_45 rfl ?_
    refine a_imul (pc := 46) dX5_ask_46 h.1 ?_
    replace h := h.2
    refine a_iload_n (pc := 47) dX5_ask_47 rfl ?_
    refine a_iadd (pc := 48) dX5_ask_48 h.1 ?_
    replace h := h.2
    refine a_ialdE (pc := 49) (M 72 ((6 * (M 70 ((6 * a) + (M 74 a)))) + (M 75 (M 70 ((6 * a) + (M 74 a)))))) dX5_ask_49 rfl h.1.1 h.1.2 (mput_ne _ _ _ _ (by decide)) ?_
    replace h := h.2
    refine a_aload_n (pc := 50) dX5_ask_50 rfl ?_
    refine a_getr (pc := 51) dX5_ask_51 f_X5_16 rfl ?_
    refine a_bipush (pc := 54) dX5_ask_54 (by decide) (cnb rfl) ?_
    refine a_iload_n (pc := 56) dX5_ask_56 rfl ?_
    refine a_imul (pc := 57) dX5_ask_57 h.1 ?_
    replace h := h.2
    refine a_iload_n (pc := 58) dX5_ask_58 rfl ?_
    refine a_iadd (pc := 59) dX5_ask_59 h.1 ?_
    replace h := h.2
    refine a_ialdE (pc := 60) (M 72 ((6 * (M 70 ((6 * a) + (M 74 a)))) + a)) dX5_ask_60 rfl h.1.1 h.1.2 (mput_ne _ _ _ _ (by decide)) ?_
    replace h := h.2
    refine a_icmp_ge (pc := 61) 65 dX5_ask_61 rfl ⟨fun hc => ?_, fun hc => ?_⟩
    · replace h := h.1 hc
      refine a_iload_n (pc := 65) dX5_ask_65 rfl ?_
      refine a_iconst (pc := 66) dX5_ask_66 (cnb rfl) ?_
      refine a_icmp_eq (pc := 67) 77 dX5_ask_67 rfl ⟨fun hc => ?_, fun hc => ?_⟩
      · replace h := h.1 hc
        refine a_aload_n (pc := 77) dX5_ask_77 rfl ?_
        refine a_getr (pc := 78) dX5_ask_78 f_X5_25 rfl ?_
        refine a_iload_n (pc := 81) dX5_ask_81 rfl ?_
        refine a_iload_n (pc := 82) dX5_ask_82 rfl ?_
        refine a_iast (pc := 83) dX5_ask_83 rfl h.1.1 h.1.2 ?_
        replace h := h.2
        refine a_aload_n (pc := 84) dX5_ask_84 rfl ?_
        refine a_getr (pc := 85) dX5_ask_85 f_X5_19 rfl ?_
        refine a_iload_n (pc := 88) dX5_ask_88 rfl ?_
        refine a_iload_n (pc := 89) dX5_ask_89 rfl ?_
        refine a_iast (pc := 90) dX5_ask_90 rfl h.1.1 h.1.2 ?_
        replace h := h.2
        exact a_ret (pc := 91) dX5_ask_91 rfl h
      · replace h := h.2 hc
        refine a_aload_n (pc := 70) dX5_ask_70 rfl ?_
        refine a_getr (pc := 71) dX5_ask_71 f_X5_19 rfl ?_
        refine a_iload_n (pc := 74) dX5_ask_74 rfl ?_
        refine a_iconst (pc := 75) dX5_ask_75 (cnb rfl) ?_
        refine a_iast (pc := 76) dX5_ask_76 rfl h.1.1 h.1.2 ?_
        replace h := h.2
        refine a_aload_n (pc := 77) dX5_ask_77 rfl ?_
        refine a_getr (pc := 78) dX5_ask_78 f_X5_25 rfl ?_
        refine a_iload_n (pc := 81) dX5_ask_81 rfl ?_
        refine a_iload_n (pc := 82) dX5_ask_82 rfl ?_
        refine a_iast (pc := 83) dX5_ask_83 rfl h.1.1 h.1.2 ?_
        replace h := h.2
        refine a_aload_n (pc := 84) dX5_ask_84 rfl ?_
        refine a_getr (pc := 85) dX5_ask_85 f_X5_19 rfl ?_
        refine a_iload_n (pc := 88) dX5_ask_88 rfl ?_
        refine a_iload_n (pc := 89) dX5_ask_89 rfl ?_
        refine a_iast (pc := 90) dX5_ask_90 rfl h.1.1 h.1.2 ?_
        replace h := h.2
        exact a_ret (pc := 91) dX5_ask_91 rfl h
    · replace h := h.2 hc
      exact a_ret (pc := 64) dX5_ask_64 rfl h
set_option maxRecDepth 20000 in
theorem e_X5_ask {Q : Int → Me → Prop}  {a : Int} {M : Me} (h :
    cn (6 * a) ∧
    (0 ≤ a ∧ a < 6) ∧
    cn ((6 * a) + (M 74 a)) ∧
    (0 ≤ (6 * a) + (M 74 a) ∧ (6 * a) + (M 74 a) < 36) ∧
    (0 ≤ a ∧ a < 6) ∧
    cn ((M 74 a) + 1) ∧
    (0 ≤ a ∧ a < 6) ∧
    (0 ≤ M 70 ((6 * a) + (M 74 a)) ∧ M 70 ((6 * a) + (M 74 a)) < 6) ∧
    ((M 75 (M 70 ((6 * a) + (M 74 a))) = (-1) →
    ((M 75 (M 70 ((6 * a) + (M 74 a))) = (-1) →
    (0 ≤ M 70 ((6 * a) + (M 74 a)) ∧ M 70 ((6 * a) + (M 74 a)) < 6) ∧
    (0 ≤ a ∧ a < 6) ∧
    Q 0 (mput (mput (mput M 74 a ((M 74 a) + 1)) 75 (M 70 ((6 * a) + (M 74 a))) a) 73 a (M 70 ((6 * a) + (M 74 a))))) ∧ (M 75 (M 70 ((6 * a) + (M 74 a))) ≠ (-1) →
    (0 ≤ M 75 (M 70 ((6 * a) + (M 74 a))) ∧ M 75 (M 70 ((6 * a) + (M 74 a))) < 6) ∧
    (0 ≤ M 70 ((6 * a) + (M 74 a)) ∧ M 70 ((6 * a) + (M 74 a)) < 6) ∧
    (0 ≤ a ∧ a < 6) ∧
    Q 0 (mput (mput (mput (mput M 74 a ((M 74 a) + 1)) 73 (M 75 (M 70 ((6 * a) + (M 74 a)))) (-1)) 75 (M 70 ((6 * a) + (M 74 a))) a) 73 a (M 70 ((6 * a) + (M 74 a))))))) ∧ (M 75 (M 70 ((6 * a) + (M 74 a))) ≠ (-1) →
    cn (6 * (M 70 ((6 * a) + (M 74 a)))) ∧
    cn ((6 * (M 70 ((6 * a) + (M 74 a)))) + (M 75 (M 70 ((6 * a) + (M 74 a))))) ∧
    (0 ≤ (6 * (M 70 ((6 * a) + (M 74 a)))) + (M 75 (M 70 ((6 * a) + (M 74 a)))) ∧ (6 * (M 70 ((6 * a) + (M 74 a)))) + (M 75 (M 70 ((6 * a) + (M 74 a)))) < 36) ∧
    cn (6 * (M 70 ((6 * a) + (M 74 a)))) ∧
    cn ((6 * (M 70 ((6 * a) + (M 74 a)))) + a) ∧
    (0 ≤ (6 * (M 70 ((6 * a) + (M 74 a)))) + a ∧ (6 * (M 70 ((6 * a) + (M 74 a)))) + a < 36) ∧
    ((M 72 ((6 * (M 70 ((6 * a) + (M 74 a)))) + a) ≤ M 72 ((6 * (M 70 ((6 * a) + (M 74 a)))) + (M 75 (M 70 ((6 * a) + (M 74 a))))) →
    ((M 75 (M 70 ((6 * a) + (M 74 a))) = (-1) →
    (0 ≤ M 70 ((6 * a) + (M 74 a)) ∧ M 70 ((6 * a) + (M 74 a)) < 6) ∧
    (0 ≤ a ∧ a < 6) ∧
    Q 0 (mput (mput (mput M 74 a ((M 74 a) + 1)) 75 (M 70 ((6 * a) + (M 74 a))) a) 73 a (M 70 ((6 * a) + (M 74 a))))) ∧ (M 75 (M 70 ((6 * a) + (M 74 a))) ≠ (-1) →
    (0 ≤ M 75 (M 70 ((6 * a) + (M 74 a))) ∧ M 75 (M 70 ((6 * a) + (M 74 a))) < 6) ∧
    (0 ≤ M 70 ((6 * a) + (M 74 a)) ∧ M 70 ((6 * a) + (M 74 a)) < 6) ∧
    (0 ≤ a ∧ a < 6) ∧
    Q 0 (mput (mput (mput (mput M 74 a ((M 74 a) + 1)) 73 (M 75 (M 70 ((6 * a) + (M 74 a)))) (-1)) 75 (M 70 ((6 * a) + (M 74 a))) a) 73 a (M 70 ((6 * a) + (M 74 a))))))) ∧ (M 72 ((6 * (M 70 ((6 * a) + (M 74 a)))) + (M 75 (M 70 ((6 * a) + (M 74 a))))) < M 72 ((6 * (M 70 ((6 * a) + (M 74 a)))) + a) →
    Q 0 (mput M 74 a ((M 74 a) + 1))))))) : Calls 0 mX5_ask [.inr 69, .inl a] M Q := Calls.of (by decide) (Nat.le_of_ble_eq_true rfl) (s_X5_ask_0  a M h)
set_option maxRecDepth 20000 in
theorem s_X5_whomGets_0 {Q : Int → Me → Prop}  (a : Int) (M : Me) (h :
    Go (km 1 mX5_whomGets Q) 2 [some (.inr 69), some (.inl a), some (.inl 0), none] [] M) :
    Go (km 1 mX5_whomGets Q) 0 [some (.inr 69), some (.inl a), none, none] [] M := by
  refine a_iconst (pc := 0) dX5_whomGets_0 (cnb rfl) ?_
  refine a_istore_n (pc := 1) dX5_whomGets_1 (Nat.le_of_ble_eq_true rfl) ?_
  exact h
set_option maxRecDepth 20000 in
theorem e_X5_whomGets {Q : Int → Me → Prop}  {a : Int} {M : Me} (h :
    Go (km 1 mX5_whomGets Q) 2 [some (.inr 69), some (.inl a), some (.inl 0), none] [] M) : Calls 1 mX5_whomGets [.inr 69, .inl a] M Q := Calls.of (by decide) (Nat.le_of_ble_eq_true rfl) (s_X5_whomGets_0  a M h)
set_option maxRecDepth 20000 in
theorem s_X5_whomGets_2 {Q : Int → Me → Prop}  (x1 x2 : Int) (M : Me) (h :
    ((M 69 6 ≤ x2 →
    Go (km 1 mX5_whomGets Q) 39 [some (.inr 69), some (.inl x1), some (.inl 0), none] [] M) ∧ (x2 < M 69 6 →
    (0 ≤ x2 ∧ x2 < 6) ∧
    (0 ≤ x2 ∧ x2 < 6) ∧
    (0 ≤ x2 ∧ x2 < 6) ∧
    cn (x2 + 1) ∧
    Go (km 1 mX5_whomGets Q) 2 [some (.inr 69), some (.inl x1), some (.inl (x2 + 1)), none] [] (mput (mput (mput M 74 x2 0) 73 x2 (-1)) 75 x2 (-1))))) :
    Go (km 1 mX5_whomGets Q) 2 [some (.inr 69), some (.inl x1), some (.inl x2), none] [] M := by
  refine a_iload_n (pc := 2) dX5_whomGets_2 rfl ?_
  refine a_aload_n (pc := 3) dX5_whomGets_3 rfl ?_
  refine a_geti (pc := 4) 6 dX5_whomGets_4 f_X5_28 rfl rfl ?_
  refine a_icmp_ge (pc := 7) 37 dX5_whomGets_7 rfl ⟨fun hc => ?_, fun hc => ?_⟩
  · replace h := h.1 hc
    refine a_iconst (pc := 37) dX5_whomGets_37 (cnb rfl) ?_
    refine a_istore_n (pc := 38) dX5_whomGets_38 (Nat.le_of_ble_eq_true rfl) ?_
    exact h
  · replace h := h.2 hc
    refine a_aload_n (pc := 10) dX5_whomGets_10 rfl ?_
    refine a_getr (pc := 11) dX5_whomGets_11 f_X5_22 rfl ?_
    refine a_iload_n (pc := 14) dX5_whomGets_14 rfl ?_
    refine a_iconst (pc := 15) dX5_whomGets_15 (cnb rfl) ?_
    refine a_iast (pc := 16) dX5_whomGets_16 rfl h.1.1 h.1.2 ?_
    replace h := h.2
    refine a_aload_n (pc := 17) dX5_whomGets_17 rfl ?_
    refine a_getr (pc := 18) dX5_whomGets_18 f_X5_19 rfl ?_
    refine a_iload_n (pc := 21) dX5_whomGets_21 rfl ?_
    refine a_iconst (pc := 22) dX5_whomGets_22 (cnb rfl) ?_
    refine a_iast (pc := 23) dX5_whomGets_23 rfl h.1.1 h.1.2 ?_
    replace h := h.2
    refine a_aload_n (pc := 24) dX5_whomGets_24 rfl ?_
    refine a_getr (pc := 25) dX5_whomGets_25 f_X5_25 rfl ?_
    refine a_iload_n (pc := 28) dX5_whomGets_28 rfl ?_
    refine a_iconst (pc := 29) dX5_whomGets_29 (cnb rfl) ?_
    refine a_iast (pc := 30) dX5_whomGets_30 rfl h.1.1 h.1.2 ?_
    replace h := h.2
    refine a_iinc (pc := 31) dX5_whomGets_31 rfl h.1 (Nat.le_of_ble_eq_true rfl) ?_
    replace h := h.2
    refine a_goto (pc := 34) 2 dX5_whomGets_34 rfl ?_
    exact h
set_option maxRecDepth 20000 in
theorem s_X5_whomGets_39 {Q : Int → Me → Prop}  (x1 x2 : Int) (M : Me) (h :
    ((36 ≤ x2 →
    (0 ≤ x1 ∧ x1 < 6) ∧
    Q (M 73 x1) M) ∧ (x2 < 36 →
    Calls 0 mX5_oneFree [.inr 69] M (fun r46 M46 =>
    ((r46 ≠ (-1) →
    Calls 0 mX5_ask [.inr 69, .inl r46] M46 (fun r60 M60 =>
    cn (x2 + 1) ∧
    Go (km 1 mX5_whomGets Q) 39 [some (.inr 69), some (.inl x1), some (.inl (x2 + 1)), none] [] M60)) ∧ (r46 = (-1) →
    (0 ≤ x1 ∧ x1 < 6) ∧
    Q (M46 73 x1) M46)))))) :
    Go (km 1 mX5_whomGets Q) 39 [some (.inr 69), some (.inl x1), some (.inl x2), none] [] M := by
  refine a_iload_n (pc := 39) dX5_whomGets_39 rfl ?_
  refine a_bipush (pc := 40) dX5_whomGets_40 (by decide) (cnb rfl) ?_
  refine a_icmp_ge (pc := 42) 69 dX5_whomGets_42 rfl ⟨fun hc => ?_, fun hc => ?_⟩
  · replace h := h.1 hc
    refine a_aload_n (pc := 69) dX5_whomGets_69 rfl ?_
    refine a_getr (pc := 70) dX5_whomGets_70 f_X5_19 rfl ?_
    refine a_iload_n (pc := 73) dX5_whomGets_73 rfl ?_
    refine a_iald (pc := 74) dX5_whomGets_74 rfl h.1.1 h.1.2  ?_
    replace h := h.2
    exact a_iretI (pc := 75) dX5_whomGets_75 rfl h
  · replace h := h.2 hc
    refine a_aload_n (pc := 45) dX5_whomGets_45 rfl ?_
    refine a_callVi (pc := 46) (d := 0) (st := []) (o := 69) [] dX5_whomGets_46 l_X5_42 in_X5_oneFree se_X5_oneFree rfl rfl rfl ⟨Nat.le_of_ble_eq_true rfl, Nat.le_of_ble_eq_true rfl⟩ ⟨Nat.le_of_ble_eq_true rfl, Nat.le_of_ble_eq_true rfl⟩ (Nat.le_of_ble_eq_true rfl) ?_
    refine Calls.mono (fun r46 M46 hr46 hM46 h => ?_) h
    refine a_istore_n (pc := 49) dX5_whomGets_49 (Nat.le_of_ble_eq_true rfl) ?_
    refine a_iload_n (pc := 50) dX5_whomGets_50 rfl ?_
    refine a_iconst (pc := 51) dX5_whomGets_51 (cnb rfl) ?_
    refine a_icmp_ne (pc := 52) 58 dX5_whomGets_52 rfl ⟨fun hc => ?_, fun hc => ?_⟩
    · replace h := h.1 hc
      refine a_aload_n (pc := 58) dX5_whomGets_58 rfl ?_
      refine a_iload_n (pc := 59) dX5_whomGets_59 rfl ?_
      refine a_callVv (pc := 60) (d := 0) (st := []) (o := 69) [.inl r46] dX5_whomGets_60 l_X5_46 in_X5_ask se_X5_ask rfl rfl rfl ⟨Nat.le_of_ble_eq_true rfl, Nat.le_of_ble_eq_true rfl⟩ ⟨Nat.le_of_ble_eq_true rfl, Nat.le_of_ble_eq_true rfl⟩ (Nat.le_of_ble_eq_true rfl) ?_
      refine Calls.mono (fun r60 M60 hr60 hM60 h => ?_) h
      refine a_iinc (pc := 63) dX5_whomGets_63 rfl h.1 (Nat.le_of_ble_eq_true rfl) ?_
      replace h := h.2
      refine a_goto (pc := 66) 39 dX5_whomGets_66 rfl ?_
      exact Go.weak h (And.intro rfl (And.intro rfl (And.intro rfl True.intro)))
    · replace h := h.2 hc
      refine a_goto (pc := 55) 69 dX5_whomGets_55 rfl ?_
      refine a_aload_n (pc := 69) dX5_whomGets_69 rfl ?_
      refine a_getr (pc := 70) dX5_whomGets_70 f_X5_19 rfl ?_
      refine a_iload_n (pc := 73) dX5_whomGets_73 rfl ?_
      refine a_iald (pc := 74) dX5_whomGets_74 rfl h.1.1 h.1.2  ?_
      replace h := h.2
      exact a_iretI (pc := 75) dX5_whomGets_75 rfl h
set_option maxRecDepth 20000 in
theorem s_X5_wouldRather_0 {Q : Int → Me → Prop}  (a b : Int) (M : Me) (h :
    (0 ≤ b ∧ b < 6) ∧
    cn (6 * a) ∧
    cn ((6 * a) + (M 73 b)) ∧
    (0 ≤ (6 * a) + (M 73 b) ∧ (6 * a) + (M 73 b) < 36) ∧
    cn (6 * a) ∧
    (0 ≤ a ∧ a < 6) ∧
    cn ((6 * a) + (M 73 a)) ∧
    (0 ≤ (6 * a) + (M 73 a) ∧ (6 * a) + (M 73 a) < 36) ∧
    ((M 71 ((6 * a) + (M 73 a)) ≤ M 71 ((6 * a) + (M 73 b)) →
    Q 0 M) ∧ (M 71 ((6 * a) + (M 73 b)) < M 71 ((6 * a) + (M 73 a)) →
    cn (6 * (M 73 b)) ∧
    cn ((6 * (M 73 b)) + a) ∧
    (0 ≤ (6 * (M 73 b)) + a ∧ (6 * (M 73 b)) + a < 36) ∧
    cn (6 * (M 73 b)) ∧
    cn ((6 * (M 73 b)) + b) ∧
    (0 ≤ (6 * (M 73 b)) + b ∧ (6 * (M 73 b)) + b < 36) ∧
    ((M 72 ((6 * (M 73 b)) + b) ≤ M 72 ((6 * (M 73 b)) + a) →
    Q 0 M) ∧ (M 72 ((6 * (M 73 b)) + a) < M 72 ((6 * (M 73 b)) + b) →
    Q 1 M))))) :
    Go (km 0 mX5_wouldRather Q) 0 [some (.inr 69), some (.inl a), some (.inl b), none] [] M := by
  refine a_aload_n (pc := 0) dX5_wouldRather_0 rfl ?_
  refine a_getr (pc := 1) dX5_wouldRather_1 f_X5_19 rfl ?_
  refine a_iload_n (pc := 4) dX5_wouldRather_4 rfl ?_
  refine a_iald (pc := 5) dX5_wouldRather_5 rfl h.1.1 h.1.2  ?_
  replace h := h.2
  refine a_istore_n (pc := 6) dX5_wouldRather_6 (Nat.le_of_ble_eq_true rfl) ?_
  refine a_aload_n (pc := 7) dX5_wouldRather_7 rfl ?_
  refine a_getr (pc := 8) dX5_wouldRather_8 f_X5_13 rfl ?_
  refine a_bipush (pc := 11) dX5_wouldRather_11 (by decide) (cnb rfl) ?_
  refine a_iload_n (pc := 13) dX5_wouldRather_13 rfl ?_
  refine a_imul (pc := 14) dX5_wouldRather_14 h.1 ?_
  replace h := h.2
  refine a_iload_n (pc := 15) dX5_wouldRather_15 rfl ?_
  refine a_iadd (pc := 16) dX5_wouldRather_16 h.1 ?_
  replace h := h.2
  refine a_iald (pc := 17) dX5_wouldRather_17 rfl h.1.1 h.1.2  ?_
  replace h := h.2
  refine a_aload_n (pc := 18) dX5_wouldRather_18 rfl ?_
  refine a_getr (pc := 19) dX5_wouldRather_19 f_X5_13 rfl ?_
  refine a_bipush (pc := 22) dX5_wouldRather_22 (by decide) (cnb rfl) ?_
  refine a_iload_n (pc := 24) dX5_wouldRather_24 rfl ?_
  refine a_imul (pc := 25) dX5_wouldRather_25 h.1 ?_
  replace h := h.2
  refine a_aload_n (pc := 26) dX5_wouldRather_26 rfl ?_
  refine a_getr (pc := 27) dX5_wouldRather_27 f_X5_19 rfl ?_
  refine a_iload_n (pc := 30) dX5_wouldRather_30 rfl ?_
  refine a_iald (pc := 31) dX5_wouldRather_31 rfl h.1.1 h.1.2  ?_
  replace h := h.2
  refine a_iadd (pc := 32) dX5_wouldRather_32 h.1 ?_
  replace h := h.2
  refine a_iald (pc := 33) dX5_wouldRather_33 rfl h.1.1 h.1.2  ?_
  replace h := h.2
  refine a_icmp_ge (pc := 34) 66 dX5_wouldRather_34 rfl ⟨fun hc => ?_, fun hc => ?_⟩
  · replace h := h.1 hc
    refine a_iconst (pc := 66) dX5_wouldRather_66 (cnb rfl) ?_
    exact a_iretZ (pc := 67) dX5_wouldRather_67 rfl (by decide) h
  · replace h := h.2 hc
    refine a_aload_n (pc := 37) dX5_wouldRather_37 rfl ?_
    refine a_getr (pc := 38) dX5_wouldRather_38 f_X5_16 rfl ?_
    refine a_bipush (pc := 41) dX5_wouldRather_41 (by decide) (cnb rfl) ?_
    refine a_iload_n (pc := 43) dX5_wouldRather_43 rfl ?_
    refine a_imul (pc := 44) dX5_wouldRather_44 h.1 ?_
    replace h := h.2
    refine a_iload_n (pc := 45) dX5_wouldRather_45 rfl ?_
    refine a_iadd (pc := 46) dX5_wouldRather_46 h.1 ?_
    replace h := h.2
    refine a_iald (pc := 47) dX5_wouldRather_47 rfl h.1.1 h.1.2  ?_
    replace h := h.2
    refine a_aload_n (pc := 48) dX5_wouldRather_48 rfl ?_
    refine a_getr (pc := 49) dX5_wouldRather_49 f_X5_16 rfl ?_
    refine a_bipush (pc := 52) dX5_wouldRather_52 (by decide) (cnb rfl) ?_
    refine a_iload_n (pc := 54) dX5_wouldRather_54 rfl ?_
    refine a_imul (pc := 55) dX5_wouldRather_55 h.1 ?_
    replace h := h.2
    refine a_iload_n (pc := 56) dX5_wouldRather_56 rfl ?_
    refine a_iadd (pc := 57) dX5_wouldRather_57 h.1 ?_
    replace h := h.2
    refine a_iald (pc := 58) dX5_wouldRather_58 rfl h.1.1 h.1.2  ?_
    replace h := h.2
    refine a_icmp_ge (pc := 59) 66 dX5_wouldRather_59 rfl ⟨fun hc => ?_, fun hc => ?_⟩
    · replace h := h.1 hc
      refine a_iconst (pc := 66) dX5_wouldRather_66 (cnb rfl) ?_
      exact a_iretZ (pc := 67) dX5_wouldRather_67 rfl (by decide) h
    · replace h := h.2 hc
      refine a_iconst (pc := 62) dX5_wouldRather_62 (cnb rfl) ?_
      refine a_goto (pc := 63) 67 dX5_wouldRather_63 rfl ?_
      exact a_iretZ (pc := 67) dX5_wouldRather_67 rfl (by decide) h
set_option maxRecDepth 20000 in
theorem e_X5_wouldRather {Q : Int → Me → Prop}  {a b : Int} {M : Me} (h :
    (0 ≤ b ∧ b < 6) ∧
    cn (6 * a) ∧
    cn ((6 * a) + (M 73 b)) ∧
    (0 ≤ (6 * a) + (M 73 b) ∧ (6 * a) + (M 73 b) < 36) ∧
    cn (6 * a) ∧
    (0 ≤ a ∧ a < 6) ∧
    cn ((6 * a) + (M 73 a)) ∧
    (0 ≤ (6 * a) + (M 73 a) ∧ (6 * a) + (M 73 a) < 36) ∧
    ((M 71 ((6 * a) + (M 73 a)) ≤ M 71 ((6 * a) + (M 73 b)) →
    Q 0 M) ∧ (M 71 ((6 * a) + (M 73 b)) < M 71 ((6 * a) + (M 73 a)) →
    cn (6 * (M 73 b)) ∧
    cn ((6 * (M 73 b)) + a) ∧
    (0 ≤ (6 * (M 73 b)) + a ∧ (6 * (M 73 b)) + a < 36) ∧
    cn (6 * (M 73 b)) ∧
    cn ((6 * (M 73 b)) + b) ∧
    (0 ≤ (6 * (M 73 b)) + b ∧ (6 * (M 73 b)) + b < 36) ∧
    ((M 72 ((6 * (M 73 b)) + b) ≤ M 72 ((6 * (M 73 b)) + a) →
    Q 0 M) ∧ (M 72 ((6 * (M 73 b)) + a) < M 72 ((6 * (M 73 b)) + b) →
    Q 1 M))))) : Calls 0 mX5_wouldRather [.inr 69, .inl a, .inl b] M Q := Calls.of (by decide) (Nat.le_of_ble_eq_true rfl) (s_X5_wouldRather_0  a b M h)
set_option maxRecDepth 20000 in
theorem s_X5_isAtPeace_0 {Q : Int → Me → Prop}  (a : Int) (M : Me) (h :
    Go (km 1 mX5_isAtPeace Q) 2 [some (.inr 69), some (.inl a), some (.inl 0)] [] M) :
    Go (km 1 mX5_isAtPeace Q) 0 [some (.inr 69), some (.inl a), none] [] M := by
  refine a_iconst (pc := 0) dX5_isAtPeace_0 (cnb rfl) ?_
  refine a_istore_n (pc := 1) dX5_isAtPeace_1 (Nat.le_of_ble_eq_true rfl) ?_
  exact h
set_option maxRecDepth 20000 in
theorem e_X5_isAtPeace {Q : Int → Me → Prop}  {a : Int} {M : Me} (h :
    Go (km 1 mX5_isAtPeace Q) 2 [some (.inr 69), some (.inl a), some (.inl 0)] [] M) : Calls 1 mX5_isAtPeace [.inr 69, .inl a] M Q := Calls.of (by decide) (Nat.le_of_ble_eq_true rfl) (s_X5_isAtPeace_0  a M h)
set_option maxRecDepth 20000 in
theorem s_X5_isAtPeace_2 {Q : Int → Me → Prop}  (x1 x2 : Int) (M : Me) (h :
    ((x1 ≤ x2 →
    Q 1 M) ∧ (x2 < x1 →
    Calls 0 mX5_wouldRather [.inr 69, .inl x1, .inl x2] M (fun r10 M10 =>
    ((r10 ≠ 0 →
    Q 0 M10) ∧ (r10 = 0 →
    Calls 0 mX5_wouldRather [.inr 69, .inl x2, .inl x1] M10 (fun r19 M19 =>
    ((r19 = 0 →
    cn (x2 + 1) ∧
    Go (km 1 mX5_isAtPeace Q) 2 [some (.inr 69), some (.inl x1), some (.inl (x2 + 1))] [] M19) ∧ (r19 ≠ 0 →
    Q 0 M19))))))))) :
    Go (km 1 mX5_isAtPeace Q) 2 [some (.inr 69), some (.inl x1), some (.inl x2)] [] M := by
  refine a_iload_n (pc := 2) dX5_isAtPeace_2 rfl ?_
  refine a_iload_n (pc := 3) dX5_isAtPeace_3 rfl ?_
  refine a_icmp_ge (pc := 4) 33 dX5_isAtPeace_4 rfl ⟨fun hc => ?_, fun hc => ?_⟩
  · replace h := h.1 hc
    refine a_iconst (pc := 33) dX5_isAtPeace_33 (cnb rfl) ?_
    exact a_iretZ (pc := 34) dX5_isAtPeace_34 rfl (by decide) h
  · replace h := h.2 hc
    refine a_aload_n (pc := 7) dX5_isAtPeace_7 rfl ?_
    refine a_iload_n (pc := 8) dX5_isAtPeace_8 rfl ?_
    refine a_iload_n (pc := 9) dX5_isAtPeace_9 rfl ?_
    refine a_callVi (pc := 10) (d := 0) (st := []) (o := 69) [.inl x1, .inl x2] dX5_isAtPeace_10 l_X5_58 in_X5_wouldRather se_X5_wouldRather rfl rfl rfl ⟨Nat.le_of_ble_eq_true rfl, Nat.le_of_ble_eq_true rfl⟩ ⟨Nat.le_of_ble_eq_true rfl, Nat.le_of_ble_eq_true rfl⟩ (Nat.le_of_ble_eq_true rfl) ?_
    refine Calls.mono (fun r10 M10 hr10 hM10 h => ?_) h
    refine a_if_ne (pc := 13) 25 dX5_isAtPeace_13 rfl ⟨fun hc => ?_, fun hc => ?_⟩
    · replace h := h.1 hc
      refine a_iconst (pc := 25) dX5_isAtPeace_25 (cnb rfl) ?_
      exact a_iretZ (pc := 26) dX5_isAtPeace_26 rfl (by decide) h
    · replace h := h.2 hc
      refine a_aload_n (pc := 16) dX5_isAtPeace_16 rfl ?_
      refine a_iload_n (pc := 17) dX5_isAtPeace_17 rfl ?_
      refine a_iload_n (pc := 18) dX5_isAtPeace_18 rfl ?_
      refine a_callVi (pc := 19) (d := 0) (st := []) (o := 69) [.inl x2, .inl x1] dX5_isAtPeace_19 l_X5_58 in_X5_wouldRather se_X5_wouldRather rfl rfl rfl ⟨Nat.le_of_ble_eq_true rfl, Nat.le_of_ble_eq_true rfl⟩ ⟨Nat.le_of_ble_eq_true rfl, Nat.le_of_ble_eq_true rfl⟩ (Nat.le_of_ble_eq_true rfl) ?_
      refine Calls.mono (fun r19 M19 hr19 hM19 h => ?_) h
      refine a_if_eq (pc := 22) 27 dX5_isAtPeace_22 rfl ⟨fun hc => ?_, fun hc => ?_⟩
      · replace h := h.1 hc
        refine a_iinc (pc := 27) dX5_isAtPeace_27 rfl h.1 (Nat.le_of_ble_eq_true rfl) ?_
        replace h := h.2
        refine a_goto (pc := 30) 2 dX5_isAtPeace_30 rfl ?_
        exact h
      · replace h := h.2 hc
        refine a_iconst (pc := 25) dX5_isAtPeace_25 (cnb rfl) ?_
        exact a_iretZ (pc := 26) dX5_isAtPeace_26 rfl (by decide) h
set_option maxRecDepth 20000 in
theorem s_X12_readsRows_0 {Q : Int → Me → Prop}  (a : Int) (M : Me) (h :
    Go (km 1 mX12_readsRows Q) 2 [some (.inr 76), some (.inl a), some (.inl 0), none, none, none] [] M) :
    Go (km 1 mX12_readsRows Q) 0 [some (.inr 76), some (.inl a), none, none, none, none] [] M := by
  refine a_iconst (pc := 0) dX12_readsRows_0 (cnb rfl) ?_
  refine a_istore_n (pc := 1) dX12_readsRows_1 (Nat.le_of_ble_eq_true rfl) ?_
  exact h
set_option maxRecDepth 20000 in
theorem e_X12_readsRows {Q : Int → Me → Prop}  {a : Int} {M : Me} (h :
    Go (km 1 mX12_readsRows Q) 2 [some (.inr 76), some (.inl a), some (.inl 0), none, none, none] [] M) : Calls 1 mX12_readsRows [.inr 76, .inl a] M Q := Calls.of (by decide) (Nat.le_of_ble_eq_true rfl) (s_X12_readsRows_0  a M h)
set_option maxRecDepth 20000 in
theorem s_X12_readsRows_2 {Q : Int → Me → Prop}  (x1 x2 : Int) (M : Me) (h :
    cn (2 * x1) ∧
    ((2 * x1 ≤ x2 →
    Q 1 M) ∧ (x2 < 2 * x1 →
    Go (km 1 mX12_readsRows Q) 14 [some (.inr 76), some (.inl x1), some (.inl x2), some (.inl 0), some (.inl 0), none] [] M))) :
    Go (km 1 mX12_readsRows Q) 2 [some (.inr 76), some (.inl x1), some (.inl x2), none, none, none] [] M := by
  refine a_iload_n (pc := 2) dX12_readsRows_2 rfl ?_
  refine a_iconst (pc := 3) dX12_readsRows_3 (cnb rfl) ?_
  refine a_iload_n (pc := 4) dX12_readsRows_4 rfl ?_
  refine a_imul (pc := 5) dX12_readsRows_5 h.1 ?_
  replace h := h.2
  refine a_icmp_ge (pc := 6) 96 dX12_readsRows_6 rfl ⟨fun hc => ?_, fun hc => ?_⟩
  · replace h := h.1 hc
    refine a_iconst (pc := 96) dX12_readsRows_96 (cnb rfl) ?_
    exact a_iretZ (pc := 97) dX12_readsRows_97 rfl (by decide) h
  · replace h := h.2 hc
    refine a_iconst (pc := 9) dX12_readsRows_9 (cnb rfl) ?_
    refine a_istore_n (pc := 10) dX12_readsRows_10 (Nat.le_of_ble_eq_true rfl) ?_
    refine a_iconst (pc := 11) dX12_readsRows_11 (cnb rfl) ?_
    refine a_istore (pc := 12) dX12_readsRows_12 (Nat.le_of_ble_eq_true rfl) ?_
    exact h
set_option maxRecDepth 20000 in
theorem s_X12_readsRows_14 {Q : Int → Me → Prop}  (x1 x2 x3 x4 : Int) (M : Me) (h :
    ((x1 ≤ x4 →
    cn (x2 + 1) ∧
    Go (km 1 mX12_readsRows Q) 2 [some (.inr 76), some (.inl x1), some (.inl (x2 + 1)), none, none, none] [] M) ∧ (x4 < x1 →
    cn (x1 * x2) ∧
    cn ((x1 * x2) + x4) ∧
    (0 ≤ (x1 * x2) + x4 ∧ (x1 * x2) + x4 < 260) ∧
    ((x1 ≤ band (M 88 ((x1 * x2) + x4)) 255 →
    Q 0 M) ∧ (band (M 88 ((x1 * x2) + x4)) 255 < x1 →
    ((band (bshr x3 (band (M 88 ((x1 * x2) + x4)) 255)) 1 = 1 →
    Q 0 M) ∧ (¬ (band (bshr x3 (band (M 88 ((x1 * x2) + x4)) 255)) 1 = 1) →
    cn (6 * x2) ∧
    cn ((6 * x2) + x4) ∧
    (0 ≤ (6 * x2) + x4 ∧ (6 * x2) + x4 < 72) ∧
    cn (6 * x2) ∧
    cn ((6 * x2) + (band (M 88 ((x1 * x2) + x4)) 255)) ∧
    (0 ≤ (6 * x2) + (band (M 88 ((x1 * x2) + x4)) 255) ∧ (6 * x2) + (band (M 88 ((x1 * x2) + x4)) 255) < 72) ∧
    cn (x4 + 1) ∧
    Go (km 1 mX12_readsRows Q) 14 [some (.inr 76), some (.inl x1), some (.inl x2), some (.inl (bor x3 (bshl 1 (band (M 88 ((x1 * x2) + x4)) 255)))), some (.inl (x4 + 1)), none] [] (mput (mput M 117 ((6 * x2) + x4) (band (M 88 ((x1 * x2) + x4)) 255)) 116 ((6 * x2) + (band (M 88 ((x1 * x2) + x4)) 255)) x4)))))))) :
    Go (km 1 mX12_readsRows Q) 14 [some (.inr 76), some (.inl x1), some (.inl x2), some (.inl x3), some (.inl x4), none] [] M := by
  refine a_iload (pc := 14) dX12_readsRows_14 rfl ?_
  refine a_iload_n (pc := 16) dX12_readsRows_16 rfl ?_
  refine a_icmp_ge (pc := 17) 90 dX12_readsRows_17 rfl ⟨fun hc => ?_, fun hc => ?_⟩
  · replace h := h.1 hc
    refine a_iinc (pc := 90) dX12_readsRows_90 rfl h.1 (Nat.le_of_ble_eq_true rfl) ?_
    replace h := h.2
    refine a_goto (pc := 93) 2 dX12_readsRows_93 rfl ?_
    exact Go.weak h (And.intro rfl (And.intro rfl (And.intro rfl True.intro)))
  · replace h := h.2 hc
    refine a_aload_n (pc := 20) dX12_readsRows_20 rfl ?_
    refine a_iload_n (pc := 21) dX12_readsRows_21 rfl ?_
    refine a_iload_n (pc := 22) dX12_readsRows_22 rfl ?_
    refine a_imul (pc := 23) dX12_readsRows_23 h.1 ?_
    replace h := h.2
    refine a_iload (pc := 24) dX12_readsRows_24 rfl ?_
    refine a_iadd (pc := 26) dX12_readsRows_26 h.1 ?_
    replace h := h.2
    refine a_callVi (pc := 27) (d := 0) (st := []) (o := 76) [.inl ((x1 * x2) + x4)] dX12_readsRows_27 l_X12_407 in_X12_octet se_X12_octet rfl rfl rfl ⟨Nat.le_of_ble_eq_true rfl, Nat.le_of_ble_eq_true rfl⟩ ⟨Nat.le_of_ble_eq_true rfl, Nat.le_of_ble_eq_true rfl⟩ (Nat.le_of_ble_eq_true rfl) ?_
    have hp27_3 := h.1
    replace h := h.2
    refine p_X12_octet hp27_3 ?_
    refine a_istore (pc := 30) dX12_readsRows_30 (Nat.le_of_ble_eq_true rfl) ?_
    refine a_iload (pc := 32) dX12_readsRows_32 rfl ?_
    refine a_iload_n (pc := 34) dX12_readsRows_34 rfl ?_
    refine a_icmp_ge (pc := 35) 47 dX12_readsRows_35 rfl ⟨fun hc => ?_, fun hc => ?_⟩
    · replace h := h.1 hc
      refine a_iconst (pc := 47) dX12_readsRows_47 (cnb rfl) ?_
      exact a_iretZ (pc := 48) dX12_readsRows_48 rfl (by decide) h
    · replace h := h.2 hc
      refine a_iload_n (pc := 38) dX12_readsRows_38 rfl ?_
      refine a_iload (pc := 39) dX12_readsRows_39 rfl ?_
      refine a_callSi (pc := 41) (d := 0) (st := []) [.inl x3, .inl (band (M 88 ((x1 * x2) + x4)) 255)] dX12_readsRows_41 l_X12_359 st_X12_has rfl ⟨Nat.le_of_ble_eq_true rfl, Nat.le_of_ble_eq_true rfl⟩ ⟨Nat.le_of_ble_eq_true rfl, Nat.le_of_ble_eq_true rfl⟩ (Nat.le_of_ble_eq_true rfl) ?_
      refine p_X12_has ⟨fun hc => ?_, fun hc => ?_⟩
      · replace h := h.1 hc
        refine a_if_eq (pc := 44) 49 dX12_readsRows_44 rfl ⟨fun hc => absurd hc (by decide), fun _ => ?_⟩
        refine a_iconst (pc := 47) dX12_readsRows_47 (cnb rfl) ?_
        exact a_iretZ (pc := 48) dX12_readsRows_48 rfl (by decide) h
      · replace h := h.2 hc
        refine a_if_eq (pc := 44) 49 dX12_readsRows_44 rfl ⟨fun _ => ?_, fun hc => absurd hc (by decide)⟩
        refine a_iload_n (pc := 49) dX12_readsRows_49 rfl ?_
        refine a_iconst (pc := 50) dX12_readsRows_50 (cnb rfl) ?_
        refine a_iload (pc := 51) dX12_readsRows_51 rfl ?_
        refine a_ishl (pc := 53) dX12_readsRows_53 ?_
        refine a_ior (pc := 54) dX12_readsRows_54 ?_
        refine a_istore_n (pc := 55) dX12_readsRows_55 (Nat.le_of_ble_eq_true rfl) ?_
        refine a_aload_n (pc := 56) dX12_readsRows_56 rfl ?_
        refine a_getr (pc := 57) dX12_readsRows_57 f_X12_131 rfl ?_
        refine a_bipush (pc := 60) dX12_readsRows_60 (by decide) (cnb rfl) ?_
        refine a_iload_n (pc := 62) dX12_readsRows_62 rfl ?_
        refine a_imul (pc := 63) dX12_readsRows_63 h.1 ?_
        replace h := h.2
        refine a_iload (pc := 64) dX12_readsRows_64 rfl ?_
        refine a_iadd (pc := 66) dX12_readsRows_66 h.1 ?_
        replace h := h.2
        refine a_iload (pc := 67) dX12_readsRows_67 rfl ?_
        refine a_iast (pc := 69) dX12_readsRows_69 rfl h.1.1 h.1.2 ?_
        replace h := h.2
        refine a_aload_n (pc := 70) dX12_readsRows_70 rfl ?_
        refine a_getr (pc := 71) dX12_readsRows_71 f_X12_128 rfl ?_
        refine a_bipush (pc := 74) dX12_readsRows_74 (by decide) (cnb rfl) ?_
        refine a_iload_n (pc := 76) dX12_readsRows_76 rfl ?_
        refine a_imul (pc := 77) dX12_readsRows_77 h.1 ?_
        replace h := h.2
        refine a_iload (pc := 78) dX12_readsRows_78 rfl ?_
        refine a_iadd (pc := 80) dX12_readsRows_80 h.1 ?_
        replace h := h.2
        refine a_iload (pc := 81) dX12_readsRows_81 rfl ?_
        refine a_iast (pc := 83) dX12_readsRows_83 rfl h.1.1 h.1.2 ?_
        replace h := h.2
        refine a_iinc (pc := 84) dX12_readsRows_84 rfl h.1 (Nat.le_of_ble_eq_true rfl) ?_
        replace h := h.2
        refine a_goto (pc := 87) 14 dX12_readsRows_87 rfl ?_
        exact Go.weak h (And.intro rfl (And.intro rfl (And.intro rfl (And.intro rfl (And.intro rfl True.intro)))))
set_option maxRecDepth 20000 in
theorem s_X12_asks_0 {Q : Int → Me → Prop}  (a : Int) (M : Me) (h :
    Go (km 0 mX12_asks Q) 2 [some (.inr 76), some (.inl a), some (.inl 0), none, none, none] [] M) :
    Go (km 0 mX12_asks Q) 0 [some (.inr 76), some (.inl a), none, none, none, none] [] M := by
  refine a_iconst (pc := 0) dX12_asks_0 (cnb rfl) ?_
  refine a_istore_n (pc := 1) dX12_asks_1 (Nat.le_of_ble_eq_true rfl) ?_
  exact h
set_option maxRecDepth 20000 in
theorem e_X12_asks {Q : Int → Me → Prop}  {a : Int} {M : Me} (h :
    Go (km 0 mX12_asks Q) 2 [some (.inr 76), some (.inl a), some (.inl 0), none, none, none] [] M) : Calls 0 mX12_asks [.inr 76, .inl a] M Q := Calls.of (by decide) (Nat.le_of_ble_eq_true rfl) (s_X12_asks_0  a M h)
set_option maxRecDepth 20000 in
theorem s_X12_asks_2 {Q : Int → Me → Prop}  (x1 x2 : Int) (M : Me) (h :
    ((x1 ≤ x2 →
    Go (km 0 mX12_asks Q) 36 [some (.inr 76), some (.inl x1), some (.inl 0), none, none, none] [] M) ∧ (x2 < x1 →
    (0 ≤ x2 ∧ x2 < 6) ∧
    (0 ≤ x2 ∧ x2 < 6) ∧
    (0 ≤ x2 ∧ x2 < 6) ∧
    cn (x2 + 1) ∧
    Go (km 0 mX12_asks Q) 2 [some (.inr 76), some (.inl x1), some (.inl (x2 + 1)), none, none, none] [] (mput (mput (mput M 118 x2 (-1)) 119 x2 0) 120 x2 (-1))))) :
    Go (km 0 mX12_asks Q) 2 [some (.inr 76), some (.inl x1), some (.inl x2), none, none, none] [] M := by
  refine a_iload_n (pc := 2) dX12_asks_2 rfl ?_
  refine a_iload_n (pc := 3) dX12_asks_3 rfl ?_
  refine a_icmp_ge (pc := 4) 34 dX12_asks_4 rfl ⟨fun hc => ?_, fun hc => ?_⟩
  · replace h := h.1 hc
    refine a_iconst (pc := 34) dX12_asks_34 (cnb rfl) ?_
    refine a_istore_n (pc := 35) dX12_asks_35 (Nat.le_of_ble_eq_true rfl) ?_
    exact h
  · replace h := h.2 hc
    refine a_aload_n (pc := 7) dX12_asks_7 rfl ?_
    refine a_getr (pc := 8) dX12_asks_8 f_X12_134 rfl ?_
    refine a_iload_n (pc := 11) dX12_asks_11 rfl ?_
    refine a_iconst (pc := 12) dX12_asks_12 (cnb rfl) ?_
    refine a_iast (pc := 13) dX12_asks_13 rfl h.1.1 h.1.2 ?_
    replace h := h.2
    refine a_aload_n (pc := 14) dX12_asks_14 rfl ?_
    refine a_getr (pc := 15) dX12_asks_15 f_X12_137 rfl ?_
    refine a_iload_n (pc := 18) dX12_asks_18 rfl ?_
    refine a_iconst (pc := 19) dX12_asks_19 (cnb rfl) ?_
    refine a_iast (pc := 20) dX12_asks_20 rfl h.1.1 h.1.2 ?_
    replace h := h.2
    refine a_aload_n (pc := 21) dX12_asks_21 rfl ?_
    refine a_getr (pc := 22) dX12_asks_22 f_X12_140 rfl ?_
    refine a_iload_n (pc := 25) dX12_asks_25 rfl ?_
    refine a_iconst (pc := 26) dX12_asks_26 (cnb rfl) ?_
    refine a_iast (pc := 27) dX12_asks_27 rfl h.1.1 h.1.2 ?_
    replace h := h.2
    refine a_iinc (pc := 28) dX12_asks_28 rfl h.1 (Nat.le_of_ble_eq_true rfl) ?_
    replace h := h.2
    refine a_goto (pc := 31) 2 dX12_asks_31 rfl ?_
    exact h
set_option maxRecDepth 20000 in
theorem s_X12_asks_36 {Q : Int → Me → Prop}  (x1 x2 : Int) (M : Me) (h :
    ((x1 ≤ x2 →
    Q 0 M) ∧ (x2 < x1 →
    Go (km 0 mX12_asks Q) 43 [some (.inr 76), some (.inl x1), some (.inl x2), some (.inl 0), none, none] [] M))) :
    Go (km 0 mX12_asks Q) 36 [some (.inr 76), some (.inl x1), some (.inl x2), none, none, none] [] M := by
  refine a_iload_n (pc := 36) dX12_asks_36 rfl ?_
  refine a_iload_n (pc := 37) dX12_asks_37 rfl ?_
  refine a_icmp_ge (pc := 38) 182 dX12_asks_38 rfl ⟨fun hc => ?_, fun hc => ?_⟩
  · replace h := h.1 hc
    exact a_ret (pc := 182) dX12_asks_182 rfl h
  · replace h := h.2 hc
    refine a_iconst (pc := 41) dX12_asks_41 (cnb rfl) ?_
    refine a_istore_n (pc := 42) dX12_asks_42 (Nat.le_of_ble_eq_true rfl) ?_
    exact h
set_option maxRecDepth 20000 in
theorem s_X12_asks_43 {Q : Int → Me → Prop}  (x1 x2 x3 : Int) (M : Me) (h :
    (0 ≤ x3 ∧ x3 < 6) ∧
    ((M 118 x3 = (-1) →
    cn (6 * x3) ∧
    (0 ≤ x3 ∧ x3 < 6) ∧
    cn ((6 * x3) + (M 119 x3)) ∧
    (0 ≤ (6 * x3) + (M 119 x3) ∧ (6 * x3) + (M 119 x3) < 72) ∧
    (0 ≤ x3 ∧ x3 < 6) ∧
    cn ((M 119 x3) + 1) ∧
    (0 ≤ x3 ∧ x3 < 6) ∧
    (0 ≤ M 117 ((6 * x3) + (M 119 x3)) ∧ M 117 ((6 * x3) + (M 119 x3)) < 6) ∧
    ((M 120 (M 117 ((6 * x3) + (M 119 x3))) = (-1) →
    ((M 120 (M 117 ((6 * x3) + (M 119 x3))) ≠ (-1) →
    (0 ≤ M 120 (M 117 ((6 * x3) + (M 119 x3))) ∧ M 120 (M 117 ((6 * x3) + (M 119 x3))) < 6) ∧
    (0 ≤ M 117 ((6 * x3) + (M 119 x3)) ∧ M 117 ((6 * x3) + (M 119 x3)) < 6) ∧
    (0 ≤ x3 ∧ x3 < 6) ∧
    Go (km 0 mX12_asks Q) 36 [some (.inr 76), some (.inl x1), some (.inl x2), none, none, none] [] (mput (mput (mput (mput M 119 x3 ((M 119 x3) + 1)) 118 (M 120 (M 117 ((6 * x3) + (M 119 x3)))) (-1)) 120 (M 117 ((6 * x3) + (M 119 x3))) x3) 118 x3 (M 117 ((6 * x3) + (M 119 x3))))) ∧ (M 120 (M 117 ((6 * x3) + (M 119 x3))) = (-1) →
    cn (x2 + 1) ∧
    (0 ≤ M 117 ((6 * x3) + (M 119 x3)) ∧ M 117 ((6 * x3) + (M 119 x3)) < 6) ∧
    (0 ≤ x3 ∧ x3 < 6) ∧
    Go (km 0 mX12_asks Q) 36 [some (.inr 76), some (.inl x1), some (.inl (x2 + 1)), none, none, none] [] (mput (mput (mput M 119 x3 ((M 119 x3) + 1)) 120 (M 117 ((6 * x3) + (M 119 x3))) x3) 118 x3 (M 117 ((6 * x3) + (M 119 x3))))))) ∧ (M 120 (M 117 ((6 * x3) + (M 119 x3))) ≠ (-1) →
    cn (x1 + (M 117 ((6 * x3) + (M 119 x3)))) ∧
    cn (6 * (x1 + (M 117 ((6 * x3) + (M 119 x3))))) ∧
    cn ((6 * (x1 + (M 117 ((6 * x3) + (M 119 x3))))) + (M 120 (M 117 ((6 * x3) + (M 119 x3))))) ∧
    (0 ≤ (6 * (x1 + (M 117 ((6 * x3) + (M 119 x3))))) + (M 120 (M 117 ((6 * x3) + (M 119 x3)))) ∧ (6 * (x1 + (M 117 ((6 * x3) + (M 119 x3))))) + (M 120 (M 117 ((6 * x3) + (M 119 x3)))) < 72) ∧
    cn (x1 + (M 117 ((6 * x3) + (M 119 x3)))) ∧
    cn (6 * (x1 + (M 117 ((6 * x3) + (M 119 x3))))) ∧
    cn ((6 * (x1 + (M 117 ((6 * x3) + (M 119 x3))))) + x3) ∧
    (0 ≤ (6 * (x1 + (M 117 ((6 * x3) + (M 119 x3))))) + x3 ∧ (6 * (x1 + (M 117 ((6 * x3) + (M 119 x3))))) + x3 < 72) ∧
    ((M 116 ((6 * (x1 + (M 117 ((6 * x3) + (M 119 x3))))) + x3) ≤ M 116 ((6 * (x1 + (M 117 ((6 * x3) + (M 119 x3))))) + (M 120 (M 117 ((6 * x3) + (M 119 x3))))) →
    ((M 120 (M 117 ((6 * x3) + (M 119 x3))) ≠ (-1) →
    (0 ≤ M 120 (M 117 ((6 * x3) + (M 119 x3))) ∧ M 120 (M 117 ((6 * x3) + (M 119 x3))) < 6) ∧
    (0 ≤ M 117 ((6 * x3) + (M 119 x3)) ∧ M 117 ((6 * x3) + (M 119 x3)) < 6) ∧
    (0 ≤ x3 ∧ x3 < 6) ∧
    Go (km 0 mX12_asks Q) 36 [some (.inr 76), some (.inl x1), some (.inl x2), none, none, none] [] (mput (mput (mput (mput M 119 x3 ((M 119 x3) + 1)) 118 (M 120 (M 117 ((6 * x3) + (M 119 x3)))) (-1)) 120 (M 117 ((6 * x3) + (M 119 x3))) x3) 118 x3 (M 117 ((6 * x3) + (M 119 x3))))) ∧ (M 120 (M 117 ((6 * x3) + (M 119 x3))) = (-1) →
    cn (x2 + 1) ∧
    (0 ≤ M 117 ((6 * x3) + (M 119 x3)) ∧ M 117 ((6 * x3) + (M 119 x3)) < 6) ∧
    (0 ≤ x3 ∧ x3 < 6) ∧
    Go (km 0 mX12_asks Q) 36 [some (.inr 76), some (.inl x1), some (.inl (x2 + 1)), none, none, none] [] (mput (mput (mput M 119 x3 ((M 119 x3) + 1)) 120 (M 117 ((6 * x3) + (M 119 x3))) x3) 118 x3 (M 117 ((6 * x3) + (M 119 x3))))))) ∧ (M 116 ((6 * (x1 + (M 117 ((6 * x3) + (M 119 x3))))) + (M 120 (M 117 ((6 * x3) + (M 119 x3))))) < M 116 ((6 * (x1 + (M 117 ((6 * x3) + (M 119 x3))))) + x3) →
    Go (km 0 mX12_asks Q) 36 [some (.inr 76), some (.inl x1), some (.inl x2), none, none, none] [] (mput M 119 x3 ((M 119 x3) + 1))))))) ∧ (M 118 x3 ≠ (-1) →
    cn (x3 + 1) ∧
    Go (km 0 mX12_asks Q) 43 [some (.inr 76), some (.inl x1), some (.inl x2), some (.inl (x3 + 1)), none, none] [] M))) :
    Go (km 0 mX12_asks Q) 43 [some (.inr 76), some (.inl x1), some (.inl x2), some (.inl x3), none, none] [] M := by
  refine a_aload_n (pc := 43) dX12_asks_43 rfl ?_
  refine a_getr (pc := 44) dX12_asks_44 f_X12_134 rfl ?_
  refine a_iload_n (pc := 47) dX12_asks_47 rfl ?_
  refine a_iald (pc := 48) dX12_asks_48 rfl h.1.1 h.1.2  ?_
  replace h := h.2
  refine a_iconst (pc := 49) dX12_asks_49 (cnb rfl) ?_
  refine a_icmp_eq (pc := 50) 60 dX12_asks_50 rfl ⟨fun hc => ?_, fun hc => ?_⟩
  · replace h := h.1 hc
    refine a_aload_n (pc := 60) dX12_asks_60 rfl ?_
    refine a_getr (pc := 61) dX12_asks_61 f_X12_131 rfl ?_
    refine a_bipush (pc := 64) dX12_asks_64 (by decide) (cnb rfl) ?_
    refine a_iload_n (pc := 66) dX12_asks_66 rfl ?_
    refine a_imul (pc := 67) dX12_asks_67 h.1 ?_
    replace h := h.2
    refine a_aload_n (pc := 68) dX12_asks_68 rfl ?_
    refine a_getr (pc := 69) dX12_asks_69 f_X12_137 rfl ?_
    refine a_iload_n (pc := 72) dX12_asks_72 rfl ?_
    refine a_iald (pc := 73) dX12_asks_73 rfl h.1.1 h.1.2  ?_
    replace h := h.2
    refine a_iadd (pc := 74) dX12_asks_74 h.1 ?_
    replace h := h.2
    refine a_iald (pc := 75) dX12_asks_75 rfl h.1.1 h.1.2  ?_
    replace h := h.2
    refine a_istore (pc := 76) dX12_asks_76 (Nat.le_of_ble_eq_true rfl) ?_
    refine a_aload_n (pc := 78) dX12_asks_78 rfl ?_
    refine a_getr (pc := 79) dX12_asks_79 f_X12_137 rfl ?_
    refine a_iload_n (pc := 82) dX12_asks_82 rfl ?_
    refine a_aload_n (pc := 83) dX12_asks_83 rfl ?_
    refine a_getr (pc := 84) dX12_asks_84 f_X12_137 rfl ?_
    refine a_iload_n (pc := 87) dX12_asks_87 rfl ?_
    refine a_iald (pc := 88) dX12_asks_88 rfl h.1.1 h.1.2  ?_
    replace h := h.2
    refine a_iconst (pc := 89) dX12_asks_89 (cnb rfl) ?_
    refine a_iadd (pc := 90) dX12_asks_90 h.1 ?_
    replace h := h.2
    refine a_iast (pc := 91) dX12_asks_91 rfl h.1.1 h.1.2 ?_
    replace h := h.2
    refine a_aload_n (pc := 92) dX12_asks_92 rfl ?_
    refine a_getr (pc := 93) dX12_asks_93 f_X12_140 rfl ?_
    refine a_iload (pc := 96) dX12_asks_96 rfl ?_
    refine a_ialdE (pc := 98) (M 120 (M 117 ((6 * x3) + (M 119 x3)))) dX12_asks_98 rfl h.1.1 h.1.2 (mput_ne _ _ _ _ (by decide)) ?_
    replace h := h.2
    refine a_istore (pc := 99) dX12_asks_99 (Nat.le_of_ble_eq_true rfl) ?_
    refine a_iload (pc := 101) dX12_asks_101 rfl ?_
    refine a_iconst (pc := 103) dX12_asks_103 (cnb rfl) ?_
    refine a_icmp_eq (pc := 104) 142 dX12_asks_104 rfl ⟨fun hc => ?_, fun hc => ?_⟩
    · replace h := h.1 hc
      refine a_iload (pc := 142) dX12_asks_142 rfl ?_
      refine a_iconst (pc := 144) dX12_asks_144 (cnb rfl) ?_
      refine a_icmp_ne (pc := 145) 155 dX12_asks_145 rfl ⟨fun hc => ?_, fun hc => ?_⟩
      · replace h := h.1 hc
        refine a_aload_n (pc := 155) dX12_asks_155 rfl ?_
        refine a_getr (pc := 156) dX12_asks_156 f_X12_134 rfl ?_
        refine a_iload (pc := 159) dX12_asks_159 rfl ?_
        refine a_iconst (pc := 161) dX12_asks_161 (cnb rfl) ?_
        refine a_iast (pc := 162) dX12_asks_162 rfl h.1.1 h.1.2 ?_
        replace h := h.2
        refine a_aload_n (pc := 163) dX12_asks_163 rfl ?_
        refine a_getr (pc := 164) dX12_asks_164 f_X12_140 rfl ?_
        refine a_iload (pc := 167) dX12_asks_167 rfl ?_
        refine a_iload_n (pc := 169) dX12_asks_169 rfl ?_
        refine a_iast (pc := 170) dX12_asks_170 rfl h.1.1 h.1.2 ?_
        replace h := h.2
        refine a_aload_n (pc := 171) dX12_asks_171 rfl ?_
        refine a_getr (pc := 172) dX12_asks_172 f_X12_134 rfl ?_
        refine a_iload_n (pc := 175) dX12_asks_175 rfl ?_
        refine a_iload (pc := 176) dX12_asks_176 rfl ?_
        refine a_iast (pc := 178) dX12_asks_178 rfl h.1.1 h.1.2 ?_
        replace h := h.2
        refine a_goto (pc := 179) 36 dX12_asks_179 rfl ?_
        exact Go.weak h (And.intro rfl (And.intro rfl (And.intro rfl True.intro)))
      · replace h := h.2 hc
        refine a_iload_n (pc := 148) dX12_asks_148 rfl ?_
        refine a_iconst (pc := 149) dX12_asks_149 (cnb rfl) ?_
        refine a_iadd (pc := 150) dX12_asks_150 h.1 ?_
        replace h := h.2
        refine a_istore_n (pc := 151) dX12_asks_151 (Nat.le_of_ble_eq_true rfl) ?_
        refine a_goto (pc := 152) 163 dX12_asks_152 rfl ?_
        refine a_aload_n (pc := 163) dX12_asks_163 rfl ?_
        refine a_getr (pc := 164) dX12_asks_164 f_X12_140 rfl ?_
        refine a_iload (pc := 167) dX12_asks_167 rfl ?_
        refine a_iload_n (pc := 169) dX12_asks_169 rfl ?_
        refine a_iast (pc := 170) dX12_asks_170 rfl h.1.1 h.1.2 ?_
        replace h := h.2
        refine a_aload_n (pc := 171) dX12_asks_171 rfl ?_
        refine a_getr (pc := 172) dX12_asks_172 f_X12_134 rfl ?_
        refine a_iload_n (pc := 175) dX12_asks_175 rfl ?_
        refine a_iload (pc := 176) dX12_asks_176 rfl ?_
        refine a_iast (pc := 178) dX12_asks_178 rfl h.1.1 h.1.2 ?_
        replace h := h.2
        refine a_goto (pc := 179) 36 dX12_asks_179 rfl ?_
        exact Go.weak h (And.intro rfl (And.intro rfl (And.intro rfl True.intro)))
    · replace h := h.2 hc
      refine a_aload_n (pc := 107) dX12_asks_107 rfl ?_
      refine a_getr (pc := 108) dX12_asks_108 f_X12_128 rfl ?_
      refine a_bipush (pc := 111) dX12_asks_111 (by decide) (cnb rfl) ?_
      refine a_iload_n (pc := 113) dX12_asks_113 rfl ?_
      refine a_iload (pc := 114) dX12_asks_114 rfl ?_
      refine a_iadd (pc := 116) dX12_asks_116 h.1 ?_
      replace h := h.2
      refine a_imul (pc := 117) dX12_asks_117 h.1 ?_
      replace h := h.2
      refine a_iload (pc := 118) dX12_asks_118 rfl ?_
      refine a_iadd (pc := 120) dX12_asks_120 h.1 ?_
      replace h := h.2
      refine a_ialdE (pc := 121) (M 116 ((6 * (x1 + (M 117 ((6 * x3) + (M 119 x3))))) + (M 120 (M 117 ((6 * x3) + (M 119 x3)))))) dX12_asks_121 rfl h.1.1 h.1.2 (mput_ne _ _ _ _ (by decide)) ?_
      replace h := h.2
      refine a_aload_n (pc := 122) dX12_asks_122 rfl ?_
      refine a_getr (pc := 123) dX12_asks_123 f_X12_128 rfl ?_
      refine a_bipush (pc := 126) dX12_asks_126 (by decide) (cnb rfl) ?_
      refine a_iload_n (pc := 128) dX12_asks_128 rfl ?_
      refine a_iload (pc := 129) dX12_asks_129 rfl ?_
      refine a_iadd (pc := 131) dX12_asks_131 h.1 ?_
      replace h := h.2
      refine a_imul (pc := 132) dX12_asks_132 h.1 ?_
      replace h := h.2
      refine a_iload_n (pc := 133) dX12_asks_133 rfl ?_
      refine a_iadd (pc := 134) dX12_asks_134 h.1 ?_
      replace h := h.2
      refine a_ialdE (pc := 135) (M 116 ((6 * (x1 + (M 117 ((6 * x3) + (M 119 x3))))) + x3)) dX12_asks_135 rfl h.1.1 h.1.2 (mput_ne _ _ _ _ (by decide)) ?_
      replace h := h.2
      refine a_icmp_ge (pc := 136) 142 dX12_asks_136 rfl ⟨fun hc => ?_, fun hc => ?_⟩
      · replace h := h.1 hc
        refine a_iload (pc := 142) dX12_asks_142 rfl ?_
        refine a_iconst (pc := 144) dX12_asks_144 (cnb rfl) ?_
        refine a_icmp_ne (pc := 145) 155 dX12_asks_145 rfl ⟨fun hc => ?_, fun hc => ?_⟩
        · replace h := h.1 hc
          refine a_aload_n (pc := 155) dX12_asks_155 rfl ?_
          refine a_getr (pc := 156) dX12_asks_156 f_X12_134 rfl ?_
          refine a_iload (pc := 159) dX12_asks_159 rfl ?_
          refine a_iconst (pc := 161) dX12_asks_161 (cnb rfl) ?_
          refine a_iast (pc := 162) dX12_asks_162 rfl h.1.1 h.1.2 ?_
          replace h := h.2
          refine a_aload_n (pc := 163) dX12_asks_163 rfl ?_
          refine a_getr (pc := 164) dX12_asks_164 f_X12_140 rfl ?_
          refine a_iload (pc := 167) dX12_asks_167 rfl ?_
          refine a_iload_n (pc := 169) dX12_asks_169 rfl ?_
          refine a_iast (pc := 170) dX12_asks_170 rfl h.1.1 h.1.2 ?_
          replace h := h.2
          refine a_aload_n (pc := 171) dX12_asks_171 rfl ?_
          refine a_getr (pc := 172) dX12_asks_172 f_X12_134 rfl ?_
          refine a_iload_n (pc := 175) dX12_asks_175 rfl ?_
          refine a_iload (pc := 176) dX12_asks_176 rfl ?_
          refine a_iast (pc := 178) dX12_asks_178 rfl h.1.1 h.1.2 ?_
          replace h := h.2
          refine a_goto (pc := 179) 36 dX12_asks_179 rfl ?_
          exact Go.weak h (And.intro rfl (And.intro rfl (And.intro rfl True.intro)))
        · replace h := h.2 hc
          refine a_iload_n (pc := 148) dX12_asks_148 rfl ?_
          refine a_iconst (pc := 149) dX12_asks_149 (cnb rfl) ?_
          refine a_iadd (pc := 150) dX12_asks_150 h.1 ?_
          replace h := h.2
          refine a_istore_n (pc := 151) dX12_asks_151 (Nat.le_of_ble_eq_true rfl) ?_
          refine a_goto (pc := 152) 163 dX12_asks_152 rfl ?_
          refine a_aload_n (pc := 163) dX12_asks_163 rfl ?_
          refine a_getr (pc := 164) dX12_asks_164 f_X12_140 rfl ?_
          refine a_iload (pc := 167) dX12_asks_167 rfl ?_
          refine a_iload_n (pc := 169) dX12_asks_169 rfl ?_
          refine a_iast (pc := 170) dX12_asks_170 rfl h.1.1 h.1.2 ?_
          replace h := h.2
          refine a_aload_n (pc := 171) dX12_asks_171 rfl ?_
          refine a_getr (pc := 172) dX12_asks_172 f_X12_134 rfl ?_
          refine a_iload_n (pc := 175) dX12_asks_175 rfl ?_
          refine a_iload (pc := 176) dX12_asks_176 rfl ?_
          refine a_iast (pc := 178) dX12_asks_178 rfl h.1.1 h.1.2 ?_
          replace h := h.2
          refine a_goto (pc := 179) 36 dX12_asks_179 rfl ?_
          exact Go.weak h (And.intro rfl (And.intro rfl (And.intro rfl True.intro)))
      · replace h := h.2 hc
        refine a_goto (pc := 139) 36 dX12_asks_139 rfl ?_
        exact Go.weak h (And.intro rfl (And.intro rfl (And.intro rfl True.intro)))
  · replace h := h.2 hc
    refine a_iload_n (pc := 53) dX12_asks_53 rfl ?_
    refine a_iconst (pc := 54) dX12_asks_54 (cnb rfl) ?_
    refine a_iadd (pc := 55) dX12_asks_55 h.1 ?_
    replace h := h.2
    refine a_istore_n (pc := 56) dX12_asks_56 (Nat.le_of_ble_eq_true rfl) ?_
    refine a_goto (pc := 57) 43 dX12_asks_57 rfl ?_
    exact h
set_option maxRecDepth 20000 in
theorem s_X12_lasts_0 {Q : Int → Me → Prop}  (a : Int) (M : Me) (h :
    Go (km 0 mX12_lasts Q) 2 [some (.inr 76), some (.inl a), some (.inl 0), none, none] [] M) :
    Go (km 0 mX12_lasts Q) 0 [some (.inr 76), some (.inl a), none, none, none] [] M := by
  refine a_iconst (pc := 0) dX12_lasts_0 (cnb rfl) ?_
  refine a_istore_n (pc := 1) dX12_lasts_1 (Nat.le_of_ble_eq_true rfl) ?_
  exact h
set_option maxRecDepth 20000 in
theorem e_X12_lasts {Q : Int → Me → Prop}  {a : Int} {M : Me} (h :
    Go (km 0 mX12_lasts Q) 2 [some (.inr 76), some (.inl a), some (.inl 0), none, none] [] M) : Calls 0 mX12_lasts [.inr 76, .inl a] M Q := Calls.of (by decide) (Nat.le_of_ble_eq_true rfl) (s_X12_lasts_0  a M h)
set_option maxRecDepth 20000 in
theorem s_X12_lasts_2 {Q : Int → Me → Prop}  (x1 x2 : Int) (M : Me) (h :
    ((x1 ≤ x2 →
    Q 1 M) ∧ (x2 < x1 →
    Go (km 0 mX12_lasts Q) 9 [some (.inr 76), some (.inl x1), some (.inl x2), some (.inl 0), none] [] M))) :
    Go (km 0 mX12_lasts Q) 2 [some (.inr 76), some (.inl x1), some (.inl x2), none, none] [] M := by
  refine a_iload_n (pc := 2) dX12_lasts_2 rfl ?_
  refine a_iload_n (pc := 3) dX12_lasts_3 rfl ?_
  refine a_icmp_ge (pc := 4) 111 dX12_lasts_4 rfl ⟨fun hc => ?_, fun hc => ?_⟩
  · replace h := h.1 hc
    refine a_iconst (pc := 111) dX12_lasts_111 (cnb rfl) ?_
    exact a_iretZ (pc := 112) dX12_lasts_112 rfl (by decide) h
  · replace h := h.2 hc
    refine a_iconst (pc := 7) dX12_lasts_7 (cnb rfl) ?_
    refine a_istore_n (pc := 8) dX12_lasts_8 (Nat.le_of_ble_eq_true rfl) ?_
    exact h
set_option maxRecDepth 20000 in
theorem s_X12_lasts_9 {Q : Int → Me → Prop}  (x1 x2 x3 : Int) (M : Me) (h :
    ((x1 ≤ x3 →
    cn (x2 + 1) ∧
    Go (km 0 mX12_lasts Q) 2 [some (.inr 76), some (.inl x1), some (.inl (x2 + 1)), none, none] [] M) ∧ (x3 < x1 →
    Go (km 0 mX12_lasts Q) 17 [some (.inr 76), some (.inl x1), some (.inl x2), some (.inl x3), some (.inl 0)] [] M))) :
    Go (km 0 mX12_lasts Q) 9 [some (.inr 76), some (.inl x1), some (.inl x2), some (.inl x3), none] [] M := by
  refine a_iload_n (pc := 9) dX12_lasts_9 rfl ?_
  refine a_iload_n (pc := 10) dX12_lasts_10 rfl ?_
  refine a_icmp_ge (pc := 11) 105 dX12_lasts_11 rfl ⟨fun hc => ?_, fun hc => ?_⟩
  · replace h := h.1 hc
    refine a_iinc (pc := 105) dX12_lasts_105 rfl h.1 (Nat.le_of_ble_eq_true rfl) ?_
    replace h := h.2
    refine a_goto (pc := 108) 2 dX12_lasts_108 rfl ?_
    exact Go.weak h (And.intro rfl (And.intro rfl (And.intro rfl True.intro)))
  · replace h := h.2 hc
    refine a_iconst (pc := 14) dX12_lasts_14 (cnb rfl) ?_
    refine a_istore (pc := 15) dX12_lasts_15 (Nat.le_of_ble_eq_true rfl) ?_
    exact h
set_option maxRecDepth 20000 in
theorem s_X12_lasts_17 {Q : Int → Me → Prop}  (x1 x2 x3 x4 : Int) (M : Me) (h :
    (0 ≤ x4 ∧ x4 < 6) ∧
    ((M 121 x4 = x3 →
    cn (6 * x2) ∧
    cn ((6 * x2) + x3) ∧
    (0 ≤ (6 * x2) + x3 ∧ (6 * x2) + x3 < 72) ∧
    cn (6 * x2) ∧
    (0 ≤ x2 ∧ x2 < 6) ∧
    cn ((6 * x2) + (M 121 x2)) ∧
    (0 ≤ (6 * x2) + (M 121 x2) ∧ (6 * x2) + (M 121 x2) < 72) ∧
    ((M 116 ((6 * x2) + (M 121 x2)) ≤ M 116 ((6 * x2) + x3) →
    cn (x3 + 1) ∧
    Go (km 0 mX12_lasts Q) 9 [some (.inr 76), some (.inl x1), some (.inl x2), some (.inl (x3 + 1)), none] [] M) ∧ (M 116 ((6 * x2) + x3) < M 116 ((6 * x2) + (M 121 x2)) →
    cn (x1 + x3) ∧
    cn (6 * (x1 + x3)) ∧
    cn ((6 * (x1 + x3)) + x2) ∧
    (0 ≤ (6 * (x1 + x3)) + x2 ∧ (6 * (x1 + x3)) + x2 < 72) ∧
    cn (x1 + x3) ∧
    cn (6 * (x1 + x3)) ∧
    cn ((6 * (x1 + x3)) + x4) ∧
    (0 ≤ (6 * (x1 + x3)) + x4 ∧ (6 * (x1 + x3)) + x4 < 72) ∧
    ((M 116 ((6 * (x1 + x3)) + x4) ≤ M 116 ((6 * (x1 + x3)) + x2) →
    cn (x3 + 1) ∧
    Go (km 0 mX12_lasts Q) 9 [some (.inr 76), some (.inl x1), some (.inl x2), some (.inl (x3 + 1)), none] [] M) ∧ (M 116 ((6 * (x1 + x3)) + x2) < M 116 ((6 * (x1 + x3)) + x4) →
    Q 0 M))))) ∧ (M 121 x4 ≠ x3 →
    cn (x4 + 1) ∧
    Go (km 0 mX12_lasts Q) 17 [some (.inr 76), some (.inl x1), some (.inl x2), some (.inl x3), some (.inl (x4 + 1))] [] M))) :
    Go (km 0 mX12_lasts Q) 17 [some (.inr 76), some (.inl x1), some (.inl x2), some (.inl x3), some (.inl x4)] [] M := by
  refine a_aload_n (pc := 17) dX12_lasts_17 rfl ?_
  refine a_getr (pc := 18) dX12_lasts_18 f_X12_143 rfl ?_
  refine a_iload (pc := 21) dX12_lasts_21 rfl ?_
  refine a_iald (pc := 23) dX12_lasts_23 rfl h.1.1 h.1.2  ?_
  replace h := h.2
  refine a_iload_n (pc := 24) dX12_lasts_24 rfl ?_
  refine a_icmp_eq (pc := 25) 37 dX12_lasts_25 rfl ⟨fun hc => ?_, fun hc => ?_⟩
  · replace h := h.1 hc
    refine a_aload_n (pc := 37) dX12_lasts_37 rfl ?_
    refine a_getr (pc := 38) dX12_lasts_38 f_X12_128 rfl ?_
    refine a_bipush (pc := 41) dX12_lasts_41 (by decide) (cnb rfl) ?_
    refine a_iload_n (pc := 43) dX12_lasts_43 rfl ?_
    refine a_imul (pc := 44) dX12_lasts_44 h.1 ?_
    replace h := h.2
    refine a_iload_n (pc := 45) dX12_lasts_45 rfl ?_
    refine a_iadd (pc := 46) dX12_lasts_46 h.1 ?_
    replace h := h.2
    refine a_iald (pc := 47) dX12_lasts_47 rfl h.1.1 h.1.2  ?_
    replace h := h.2
    refine a_aload_n (pc := 48) dX12_lasts_48 rfl ?_
    refine a_getr (pc := 49) dX12_lasts_49 f_X12_128 rfl ?_
    refine a_bipush (pc := 52) dX12_lasts_52 (by decide) (cnb rfl) ?_
    refine a_iload_n (pc := 54) dX12_lasts_54 rfl ?_
    refine a_imul (pc := 55) dX12_lasts_55 h.1 ?_
    replace h := h.2
    refine a_aload_n (pc := 56) dX12_lasts_56 rfl ?_
    refine a_getr (pc := 57) dX12_lasts_57 f_X12_143 rfl ?_
    refine a_iload_n (pc := 60) dX12_lasts_60 rfl ?_
    refine a_iald (pc := 61) dX12_lasts_61 rfl h.1.1 h.1.2  ?_
    replace h := h.2
    refine a_iadd (pc := 62) dX12_lasts_62 h.1 ?_
    replace h := h.2
    refine a_iald (pc := 63) dX12_lasts_63 rfl h.1.1 h.1.2  ?_
    replace h := h.2
    refine a_icmp_ge (pc := 64) 99 dX12_lasts_64 rfl ⟨fun hc => ?_, fun hc => ?_⟩
    · replace h := h.1 hc
      refine a_iinc (pc := 99) dX12_lasts_99 rfl h.1 (Nat.le_of_ble_eq_true rfl) ?_
      replace h := h.2
      refine a_goto (pc := 102) 9 dX12_lasts_102 rfl ?_
      exact Go.weak h (And.intro rfl (And.intro rfl (And.intro rfl (And.intro rfl True.intro))))
    · replace h := h.2 hc
      refine a_aload_n (pc := 67) dX12_lasts_67 rfl ?_
      refine a_getr (pc := 68) dX12_lasts_68 f_X12_128 rfl ?_
      refine a_bipush (pc := 71) dX12_lasts_71 (by decide) (cnb rfl) ?_
      refine a_iload_n (pc := 73) dX12_lasts_73 rfl ?_
      refine a_iload_n (pc := 74) dX12_lasts_74 rfl ?_
      refine a_iadd (pc := 75) dX12_lasts_75 h.1 ?_
      replace h := h.2
      refine a_imul (pc := 76) dX12_lasts_76 h.1 ?_
      replace h := h.2
      refine a_iload_n (pc := 77) dX12_lasts_77 rfl ?_
      refine a_iadd (pc := 78) dX12_lasts_78 h.1 ?_
      replace h := h.2
      refine a_iald (pc := 79) dX12_lasts_79 rfl h.1.1 h.1.2  ?_
      replace h := h.2
      refine a_aload_n (pc := 80) dX12_lasts_80 rfl ?_
      refine a_getr (pc := 81) dX12_lasts_81 f_X12_128 rfl ?_
      refine a_bipush (pc := 84) dX12_lasts_84 (by decide) (cnb rfl) ?_
      refine a_iload_n (pc := 86) dX12_lasts_86 rfl ?_
      refine a_iload_n (pc := 87) dX12_lasts_87 rfl ?_
      refine a_iadd (pc := 88) dX12_lasts_88 h.1 ?_
      replace h := h.2
      refine a_imul (pc := 89) dX12_lasts_89 h.1 ?_
      replace h := h.2
      refine a_iload (pc := 90) dX12_lasts_90 rfl ?_
      refine a_iadd (pc := 92) dX12_lasts_92 h.1 ?_
      replace h := h.2
      refine a_iald (pc := 93) dX12_lasts_93 rfl h.1.1 h.1.2  ?_
      replace h := h.2
      refine a_icmp_ge (pc := 94) 99 dX12_lasts_94 rfl ⟨fun hc => ?_, fun hc => ?_⟩
      · replace h := h.1 hc
        refine a_iinc (pc := 99) dX12_lasts_99 rfl h.1 (Nat.le_of_ble_eq_true rfl) ?_
        replace h := h.2
        refine a_goto (pc := 102) 9 dX12_lasts_102 rfl ?_
        exact Go.weak h (And.intro rfl (And.intro rfl (And.intro rfl (And.intro rfl True.intro))))
      · replace h := h.2 hc
        refine a_iconst (pc := 97) dX12_lasts_97 (cnb rfl) ?_
        exact a_iretZ (pc := 98) dX12_lasts_98 rfl (by decide) h
  · replace h := h.2 hc
    refine a_iload (pc := 28) dX12_lasts_28 rfl ?_
    refine a_iconst (pc := 30) dX12_lasts_30 (cnb rfl) ?_
    refine a_iadd (pc := 31) dX12_lasts_31 h.1 ?_
    replace h := h.2
    refine a_istore (pc := 32) dX12_lasts_32 (Nat.le_of_ble_eq_true rfl) ?_
    refine a_goto (pc := 34) 17 dX12_lasts_34 rfl ?_
    exact h
set_option maxRecDepth 20000 in
theorem s_X12_changesOrder_0 {Q : Int → Me → Prop}  (a b : Int) (M : Me) (h :
    (0 ≤ a ∧ a < 6) ∧
    (0 ≤ b ∧ b < 6) ∧
    (0 ≤ a ∧ a < 6) ∧
    (0 ≤ b ∧ b < 6) ∧
    Q 0 (mput (mput M 121 a (M 121 b)) 121 b (M 121 a))) :
    Go (km 0 mX12_changesOrder Q) 0 [some (.inr 76), some (.inl a), some (.inl b), none] [] M := by
  refine a_aload_n (pc := 0) dX12_changesOrder_0 rfl ?_
  refine a_getr (pc := 1) dX12_changesOrder_1 f_X12_143 rfl ?_
  refine a_iload_n (pc := 4) dX12_changesOrder_4 rfl ?_
  refine a_iald (pc := 5) dX12_changesOrder_5 rfl h.1.1 h.1.2  ?_
  replace h := h.2
  refine a_istore_n (pc := 6) dX12_changesOrder_6 (Nat.le_of_ble_eq_true rfl) ?_
  refine a_aload_n (pc := 7) dX12_changesOrder_7 rfl ?_
  refine a_getr (pc := 8) dX12_changesOrder_8 f_X12_143 rfl ?_
  refine a_iload_n (pc := 11) dX12_changesOrder_11 rfl ?_
  refine a_aload_n (pc := 12) dX12_changesOrder_12 rfl ?_
  refine a_getr (pc := 13) dX12_changesOrder_13 f_X12_143 rfl ?_
  refine a_iload_n (pc := 16) dX12_changesOrder_16 rfl ?_
  refine a_iald (pc := 17) dX12_changesOrder_17 rfl h.1.1 h.1.2  ?_
  replace h := h.2
  refine a_iast (pc := 18) dX12_changesOrder_18 rfl h.1.1 h.1.2 ?_
  replace h := h.2
  refine a_aload_n (pc := 19) dX12_changesOrder_19 rfl ?_
  refine a_getr (pc := 20) dX12_changesOrder_20 f_X12_143 rfl ?_
  refine a_iload_n (pc := 23) dX12_changesOrder_23 rfl ?_
  refine a_iload_n (pc := 24) dX12_changesOrder_24 rfl ?_
  refine a_iast (pc := 25) dX12_changesOrder_25 rfl h.1.1 h.1.2 ?_
  replace h := h.2
  exact a_ret (pc := 26) dX12_changesOrder_26 rfl h
set_option maxRecDepth 20000 in
theorem e_X12_changesOrder {Q : Int → Me → Prop}  {a b : Int} {M : Me} (h :
    (0 ≤ a ∧ a < 6) ∧
    (0 ≤ b ∧ b < 6) ∧
    (0 ≤ a ∧ a < 6) ∧
    (0 ≤ b ∧ b < 6) ∧
    Q 0 (mput (mput M 121 a (M 121 b)) 121 b (M 121 a))) : Calls 0 mX12_changesOrder [.inr 76, .inl a, .inl b] M Q := Calls.of (by decide) (Nat.le_of_ble_eq_true rfl) (s_X12_changesOrder_0  a b M h)
set_option maxRecDepth 20000 in
theorem s_X12_nextOrder_0 {Q : Int → Me → Prop}  (a : Int) (M : Me) (h :
    cn (a - 2) ∧
    Go (km 1 mX12_nextOrder Q) 4 [some (.inr 76), some (.inl a), some (.inl (a - 2)), none, none, none] [] M) :
    Go (km 1 mX12_nextOrder Q) 0 [some (.inr 76), some (.inl a), none, none, none, none] [] M := by
  refine a_iload_n (pc := 0) dX12_nextOrder_0 rfl ?_
  refine a_iconst (pc := 1) dX12_nextOrder_1 (cnb rfl) ?_
  refine a_isub (pc := 2) dX12_nextOrder_2 h.1 ?_
  replace h := h.2
  refine a_istore_n (pc := 3) dX12_nextOrder_3 (Nat.le_of_ble_eq_true rfl) ?_
  exact h
set_option maxRecDepth 20000 in
theorem e_X12_nextOrder {Q : Int → Me → Prop}  {a : Int} {M : Me} (h :
    cn (a - 2) ∧
    Go (km 1 mX12_nextOrder Q) 4 [some (.inr 76), some (.inl a), some (.inl (a - 2)), none, none, none] [] M) : Calls 1 mX12_nextOrder [.inr 76, .inl a] M Q := Calls.of (by decide) (Nat.le_of_ble_eq_true rfl) (s_X12_nextOrder_0  a M h)
set_option maxRecDepth 20000 in
theorem s_X12_nextOrder_4 {Q : Int → Me → Prop}  (x1 x2 : Int) (M : Me) (h :
    ((x2 < 0 →
    ((0 ≤ x2 →
    cn (x1 - 1) ∧
    Go (km 1 mX12_nextOrder Q) 42 [some (.inr 76), some (.inl x1), some (.inl x2), some (.inl (x1 - 1)), none, none] [] M) ∧ (x2 < 0 →
    Q 0 M))) ∧ (0 ≤ x2 →
    (0 ≤ x2 ∧ x2 < 6) ∧
    cn (x2 + 1) ∧
    (0 ≤ x2 + 1 ∧ x2 + 1 < 6) ∧
    ((M 121 x2 ≤ M 121 (x2 + 1) →
    ((0 ≤ x2 →
    cn (x1 - 1) ∧
    Go (km 1 mX12_nextOrder Q) 42 [some (.inr 76), some (.inl x1), some (.inl x2), some (.inl (x1 - 1)), none, none] [] M) ∧ (x2 < 0 →
    Q 0 M))) ∧ (M 121 (x2 + 1) < M 121 x2 →
    cn (x2 - 1) ∧
    Go (km 1 mX12_nextOrder Q) 4 [some (.inr 76), some (.inl x1), some (.inl (x2 - 1)), none, none, none] [] M))))) :
    Go (km 1 mX12_nextOrder Q) 4 [some (.inr 76), some (.inl x1), some (.inl x2), none, none, none] [] M := by
  refine a_iload_n (pc := 4) dX12_nextOrder_4 rfl ?_
  refine a_if_lt (pc := 5) 32 dX12_nextOrder_5 rfl ⟨fun hc => ?_, fun hc => ?_⟩
  · replace h := h.1 hc
    refine a_iload_n (pc := 32) dX12_nextOrder_32 rfl ?_
    refine a_if_ge (pc := 33) 38 dX12_nextOrder_33 rfl ⟨fun hc => ?_, fun hc => ?_⟩
    · replace h := h.1 hc
      refine a_iload_n (pc := 38) dX12_nextOrder_38 rfl ?_
      refine a_iconst (pc := 39) dX12_nextOrder_39 (cnb rfl) ?_
      refine a_isub (pc := 40) dX12_nextOrder_40 h.1 ?_
      replace h := h.2
      refine a_istore_n (pc := 41) dX12_nextOrder_41 (Nat.le_of_ble_eq_true rfl) ?_
      exact h
    · replace h := h.2 hc
      refine a_iconst (pc := 36) dX12_nextOrder_36 (cnb rfl) ?_
      exact a_iretZ (pc := 37) dX12_nextOrder_37 rfl (by decide) h
  · replace h := h.2 hc
    refine a_aload_n (pc := 8) dX12_nextOrder_8 rfl ?_
    refine a_getr (pc := 9) dX12_nextOrder_9 f_X12_143 rfl ?_
    refine a_iload_n (pc := 12) dX12_nextOrder_12 rfl ?_
    refine a_iald (pc := 13) dX12_nextOrder_13 rfl h.1.1 h.1.2  ?_
    replace h := h.2
    refine a_aload_n (pc := 14) dX12_nextOrder_14 rfl ?_
    refine a_getr (pc := 15) dX12_nextOrder_15 f_X12_143 rfl ?_
    refine a_iload_n (pc := 18) dX12_nextOrder_18 rfl ?_
    refine a_iconst (pc := 19) dX12_nextOrder_19 (cnb rfl) ?_
    refine a_iadd (pc := 20) dX12_nextOrder_20 h.1 ?_
    replace h := h.2
    refine a_iald (pc := 21) dX12_nextOrder_21 rfl h.1.1 h.1.2  ?_
    replace h := h.2
    refine a_icmp_le (pc := 22) 32 dX12_nextOrder_22 rfl ⟨fun hc => ?_, fun hc => ?_⟩
    · replace h := h.1 hc
      refine a_iload_n (pc := 32) dX12_nextOrder_32 rfl ?_
      refine a_if_ge (pc := 33) 38 dX12_nextOrder_33 rfl ⟨fun hc => ?_, fun hc => ?_⟩
      · replace h := h.1 hc
        refine a_iload_n (pc := 38) dX12_nextOrder_38 rfl ?_
        refine a_iconst (pc := 39) dX12_nextOrder_39 (cnb rfl) ?_
        refine a_isub (pc := 40) dX12_nextOrder_40 h.1 ?_
        replace h := h.2
        refine a_istore_n (pc := 41) dX12_nextOrder_41 (Nat.le_of_ble_eq_true rfl) ?_
        exact h
      · replace h := h.2 hc
        refine a_iconst (pc := 36) dX12_nextOrder_36 (cnb rfl) ?_
        exact a_iretZ (pc := 37) dX12_nextOrder_37 rfl (by decide) h
    · replace h := h.2 hc
      refine a_iload_n (pc := 25) dX12_nextOrder_25 rfl ?_
      refine a_iconst (pc := 26) dX12_nextOrder_26 (cnb rfl) ?_
      refine a_isub (pc := 27) dX12_nextOrder_27 h.1 ?_
      replace h := h.2
      refine a_istore_n (pc := 28) dX12_nextOrder_28 (Nat.le_of_ble_eq_true rfl) ?_
      refine a_goto (pc := 29) 4 dX12_nextOrder_29 rfl ?_
      exact h
set_option maxRecDepth 20000 in
theorem s_X12_nextOrder_42 {Q : Int → Me → Prop}  (x1 x2 x3 : Int) (M : Me) (h :
    (0 ≤ x3 ∧ x3 < 6) ∧
    (0 ≤ x2 ∧ x2 < 6) ∧
    ((M 121 x2 ≤ M 121 x3 →
    Calls 0 mX12_changesOrder [.inr 76, .inl x2, .inl x3] M (fun r67 M67 =>
    cn (x2 + 1) ∧
    cn (x1 - 1) ∧
    Go (km 1 mX12_nextOrder Q) 80 [some (.inr 76), none, none, none, some (.inl (x2 + 1)), some (.inl (x1 - 1))] [] M67)) ∧ (M 121 x3 < M 121 x2 →
    cn (x3 - 1) ∧
    Go (km 1 mX12_nextOrder Q) 42 [some (.inr 76), some (.inl x1), some (.inl x2), some (.inl (x3 - 1)), none, none] [] M))) :
    Go (km 1 mX12_nextOrder Q) 42 [some (.inr 76), some (.inl x1), some (.inl x2), some (.inl x3), none, none] [] M := by
  refine a_aload_n (pc := 42) dX12_nextOrder_42 rfl ?_
  refine a_getr (pc := 43) dX12_nextOrder_43 f_X12_143 rfl ?_
  refine a_iload_n (pc := 46) dX12_nextOrder_46 rfl ?_
  refine a_iald (pc := 47) dX12_nextOrder_47 rfl h.1.1 h.1.2  ?_
  replace h := h.2
  refine a_aload_n (pc := 48) dX12_nextOrder_48 rfl ?_
  refine a_getr (pc := 49) dX12_nextOrder_49 f_X12_143 rfl ?_
  refine a_iload_n (pc := 52) dX12_nextOrder_52 rfl ?_
  refine a_iald (pc := 53) dX12_nextOrder_53 rfl h.1.1 h.1.2  ?_
  replace h := h.2
  refine a_icmp_ge (pc := 54) 64 dX12_nextOrder_54 rfl ⟨fun hc => ?_, fun hc => ?_⟩
  · replace h := h.1 hc
    refine a_aload_n (pc := 64) dX12_nextOrder_64 rfl ?_
    refine a_iload_n (pc := 65) dX12_nextOrder_65 rfl ?_
    refine a_iload_n (pc := 66) dX12_nextOrder_66 rfl ?_
    refine a_callVv (pc := 67) (d := 0) (st := []) (o := 76) [.inl x2, .inl x3] dX12_nextOrder_67 l_X12_419 in_X12_changesOrder se_X12_changesOrder rfl rfl rfl ⟨Nat.le_of_ble_eq_true rfl, Nat.le_of_ble_eq_true rfl⟩ ⟨Nat.le_of_ble_eq_true rfl, Nat.le_of_ble_eq_true rfl⟩ (Nat.le_of_ble_eq_true rfl) ?_
    refine Calls.mono (fun r67 M67 hr67 hM67 h => ?_) h
    refine a_iload_n (pc := 70) dX12_nextOrder_70 rfl ?_
    refine a_iconst (pc := 71) dX12_nextOrder_71 (cnb rfl) ?_
    refine a_iadd (pc := 72) dX12_nextOrder_72 h.1 ?_
    replace h := h.2
    refine a_istore (pc := 73) dX12_nextOrder_73 (Nat.le_of_ble_eq_true rfl) ?_
    refine a_iload_n (pc := 75) dX12_nextOrder_75 rfl ?_
    refine a_iconst (pc := 76) dX12_nextOrder_76 (cnb rfl) ?_
    refine a_isub (pc := 77) dX12_nextOrder_77 h.1 ?_
    replace h := h.2
    refine a_istore (pc := 78) dX12_nextOrder_78 (Nat.le_of_ble_eq_true rfl) ?_
    exact Go.weak h (And.intro rfl (And.intro rfl (And.intro rfl True.intro)))
  · replace h := h.2 hc
    refine a_iload_n (pc := 57) dX12_nextOrder_57 rfl ?_
    refine a_iconst (pc := 58) dX12_nextOrder_58 (cnb rfl) ?_
    refine a_isub (pc := 59) dX12_nextOrder_59 h.1 ?_
    replace h := h.2
    refine a_istore_n (pc := 60) dX12_nextOrder_60 (Nat.le_of_ble_eq_true rfl) ?_
    refine a_goto (pc := 61) 42 dX12_nextOrder_61 rfl ?_
    exact h
set_option maxRecDepth 20000 in
theorem s_X12_nextOrder_80 {Q : Int → Me → Prop}  (x4 x5 : Int) (M : Me) (h :
    ((x5 ≤ x4 →
    Q 1 M) ∧ (x4 < x5 →
    Calls 0 mX12_changesOrder [.inr 76, .inl x4, .inl x5] M (fun r92 M92 =>
    cn (x4 + 1) ∧
    cn (x5 + (-1)) ∧
    Go (km 1 mX12_nextOrder Q) 80 [some (.inr 76), none, none, none, some (.inl (x4 + 1)), some (.inl (x5 + (-1)))] [] M92)))) :
    Go (km 1 mX12_nextOrder Q) 80 [some (.inr 76), none, none, none, some (.inl x4), some (.inl x5)] [] M := by
  refine a_iload (pc := 80) dX12_nextOrder_80 rfl ?_
  refine a_iload (pc := 82) dX12_nextOrder_82 rfl ?_
  refine a_icmp_ge (pc := 84) 104 dX12_nextOrder_84 rfl ⟨fun hc => ?_, fun hc => ?_⟩
  · replace h := h.1 hc
    refine a_iconst (pc := 104) dX12_nextOrder_104 (cnb rfl) ?_
    exact a_iretZ (pc := 105) dX12_nextOrder_105 rfl (by decide) h
  · replace h := h.2 hc
    refine a_aload_n (pc := 87) dX12_nextOrder_87 rfl ?_
    refine a_iload (pc := 88) dX12_nextOrder_88 rfl ?_
    refine a_iload (pc := 90) dX12_nextOrder_90 rfl ?_
    refine a_callVv (pc := 92) (d := 0) (st := []) (o := 76) [.inl x4, .inl x5] dX12_nextOrder_92 l_X12_419 in_X12_changesOrder se_X12_changesOrder rfl rfl rfl ⟨Nat.le_of_ble_eq_true rfl, Nat.le_of_ble_eq_true rfl⟩ ⟨Nat.le_of_ble_eq_true rfl, Nat.le_of_ble_eq_true rfl⟩ (Nat.le_of_ble_eq_true rfl) ?_
    refine Calls.mono (fun r92 M92 hr92 hM92 h => ?_) h
    refine a_iinc (pc := 95) dX12_nextOrder_95 rfl h.1 (Nat.le_of_ble_eq_true rfl) ?_
    replace h := h.2
    refine a_iinc (pc := 98) dX12_nextOrder_98 rfl h.1 (Nat.le_of_ble_eq_true rfl) ?_
    replace h := h.2
    refine a_goto (pc := 101) 80 dX12_nextOrder_101 rfl ?_
    exact h
