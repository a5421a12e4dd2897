set_option maxRecDepth 20000 in
theorem s_X11_single_0 {Q : Int → Me → Prop}  (a : Int) (M : Me) (h :
    ((a = 0 →
    Go (km 0 mX11_single Q) 15 [some (.inr 0), some (.inl a), some (.inl 0), some (.inl 0), none] [] M) ∧ (a ≠ 0 →
    ((a = 1 →
    Go (km 0 mX11_single Q) 15 [some (.inr 0), some (.inl a), some (.inl 0), some (.inl 0), none] [] M) ∧ (a ≠ 1 →
    Q (-1) M))))) :
    Go (km 0 mX11_single Q) 0 [some (.inr 0), some (.inl a), none, none, none] [] M := by
  refine a_iload_n (pc := 0) dX11_single_0 rfl ?_
  refine a_if_eq (pc := 1) 11 dX11_single_1 rfl ⟨fun hc => ?_, fun hc => ?_⟩
  · replace h := h.1 hc
    refine a_iconst (pc := 11) dX11_single_11 (cnb rfl) ?_
    refine a_istore_n (pc := 12) dX11_single_12 (Nat.le_of_ble_eq_true rfl) ?_
    refine a_iconst (pc := 13) dX11_single_13 (cnb rfl) ?_
    refine a_istore_n (pc := 14) dX11_single_14 (Nat.le_of_ble_eq_true rfl) ?_
    exact h
  · replace h := h.2 hc
    refine a_iload_n (pc := 4) dX11_single_4 rfl ?_
    refine a_iconst (pc := 5) dX11_single_5 (cnb rfl) ?_
    refine a_icmp_eq (pc := 6) 11 dX11_single_6 rfl ⟨fun hc => ?_, fun hc => ?_⟩
    · replace h := h.1 hc
      refine a_iconst (pc := 11) dX11_single_11 (cnb rfl) ?_
      refine a_istore_n (pc := 12) dX11_single_12 (Nat.le_of_ble_eq_true rfl) ?_
      refine a_iconst (pc := 13) dX11_single_13 (cnb rfl) ?_
      refine a_istore_n (pc := 14) dX11_single_14 (Nat.le_of_ble_eq_true rfl) ?_
      exact h
    · replace h := h.2 hc
      refine a_iconst (pc := 9) dX11_single_9 (cnb rfl) ?_
      exact a_iretI (pc := 10) dX11_single_10 rfl h
set_option maxRecDepth 20000 in
theorem e_X11_single {Q : Int → Me → Prop}  {a : Int} {M : Me} (h :
    ((a = 0 →
    Go (km 0 mX11_single Q) 15 [some (.inr 0), some (.inl a), some (.inl 0), some (.inl 0), none] [] M) ∧ (a ≠ 0 →
    ((a = 1 →
    Go (km 0 mX11_single Q) 15 [some (.inr 0), some (.inl a), some (.inl 0), some (.inl 0), none] [] M) ∧ (a ≠ 1 →
    Q (-1) M))))) : Calls 0 mX11_single [.inr 0, .inl a] M Q := Calls.of (by decide) (Nat.le_of_ble_eq_true rfl) (s_X11_single_0  a M h)
set_option maxRecDepth 20000 in
theorem s_X11_single_15 {Q : Int → Me → Prop}  (x1 x2 x3 : Int) (M : Me) (h :
    ((M 3 8 ≤ x3 →
    Q x2 M) ∧ (x3 < M 3 8 →
    (0 ≤ x3 ∧ x3 < 16) ∧
    ((0 ≤ M 6 x3 →
    cn (x3 + 1) ∧
    Go (km 0 mX11_single Q) 15 [some (.inr 0), some (.inl x1), some (.inl x2), some (.inl (x3 + 1)), none] [] M) ∧ (M 6 x3 < 0 →
    ((x1 = 0 →
    cn (x3 + 1) ∧
    Go (km 0 mX11_single Q) 15 [some (.inr 0), some (.inl x1), some (.inl (bor x2 (bshl 1 x3))), some (.inl (x3 + 1)), none] [] M) ∧ (x1 ≠ 0 →
    (0 ≤ x3 ∧ x3 < 16) ∧
    ((M 6 x3 ≠ (-3) →
    cn (x3 + 1) ∧
    Go (km 0 mX11_single Q) 15 [some (.inr 0), some (.inl x1), some (.inl x2), some (.inl (x3 + 1)), none] [] M) ∧ (M 6 x3 = (-3) →
    cn (x3 + 1) ∧
    Go (km 0 mX11_single Q) 15 [some (.inr 0), some (.inl x1), some (.inl (bor x2 (bshl 1 x3))), some (.inl (x3 + 1)), none] [] M))))))))) :
    Go (km 0 mX11_single Q) 15 [some (.inr 0), some (.inl x1), some (.inl x2), some (.inl x3), none] [] M := by
  refine a_iload_n (pc := 15) dX11_single_15 rfl ?_
  refine a_aload_n (pc := 16) dX11_single_16 rfl ?_
  refine a_getr (pc := 17) dX11_single_17 f_X11_19 rfl ?_
  refine a_geti (pc := 20) 8 dX11_single_20 f_X11_155 rfl rfl ?_
  refine a_icmp_ge (pc := 23) 80 dX11_single_23 rfl ⟨fun hc => ?_, fun hc => ?_⟩
  · replace h := h.1 hc
    refine a_iload_n (pc := 80) dX11_single_80 rfl ?_
    exact a_iretI (pc := 81) dX11_single_81 rfl h
  · replace h := h.2 hc
    refine a_aload_n (pc := 26) dX11_single_26 rfl ?_
    refine a_getr (pc := 27) dX11_single_27 f_X11_19 rfl ?_
    refine a_getr (pc := 30) dX11_single_30 f_X11_178 rfl ?_
    refine a_iload_n (pc := 33) dX11_single_33 rfl ?_
    refine a_iald (pc := 34) dX11_single_34 rfl h.1.1 h.1.2  ?_
    replace h := h.2
    refine a_if_ge (pc := 35) 42 dX11_single_35 rfl ⟨fun hc => ?_, fun hc => ?_⟩
    · replace h := h.1 hc
      refine a_iconst (pc := 42) dX11_single_42 (cnb rfl) ?_
      refine a_istore (pc := 43) dX11_single_43 (Nat.le_of_ble_eq_true rfl) ?_
      refine a_iload (pc := 45) dX11_single_45 rfl ?_
      refine a_if_eq (pc := 47) 74 dX11_single_47 rfl ⟨fun _ => ?_, fun hc => absurd hc (by decide)⟩
      refine a_iinc (pc := 74) dX11_single_74 rfl h.1 (Nat.le_of_ble_eq_true rfl) ?_
      replace h := h.2
      refine a_goto (pc := 77) 15 dX11_single_77 rfl ?_
      exact Go.weak h (And.intro rfl (And.intro rfl (And.intro rfl (And.intro rfl True.intro))))
    · replace h := h.2 hc
      refine a_iconst (pc := 38) dX11_single_38 (cnb rfl) ?_
      refine a_goto (pc := 39) 43 dX11_single_39 rfl ?_
      refine a_istore (pc := 43) dX11_single_43 (Nat.le_of_ble_eq_true rfl) ?_
      refine a_iload (pc := 45) dX11_single_45 rfl ?_
      refine a_if_eq (pc := 47) 74 dX11_single_47 rfl ⟨fun hc => absurd hc (by decide), fun _ => ?_⟩
      refine a_iload_n (pc := 50) dX11_single_50 rfl ?_
      refine a_if_eq (pc := 51) 68 dX11_single_51 rfl ⟨fun hc => ?_, fun hc => ?_⟩
      · replace h := h.1 hc
        refine a_iload_n (pc := 68) dX11_single_68 rfl ?_
        refine a_iconst (pc := 69) dX11_single_69 (cnb rfl) ?_
        refine a_iload_n (pc := 70) dX11_single_70 rfl ?_
        refine a_ishl (pc := 71) dX11_single_71 ?_
        refine a_ior (pc := 72) dX11_single_72 ?_
        refine a_istore_n (pc := 73) dX11_single_73 (Nat.le_of_ble_eq_true rfl) ?_
        refine a_iinc (pc := 74) dX11_single_74 rfl h.1 (Nat.le_of_ble_eq_true rfl) ?_
        replace h := h.2
        refine a_goto (pc := 77) 15 dX11_single_77 rfl ?_
        exact Go.weak h (And.intro rfl (And.intro rfl (And.intro rfl (And.intro rfl True.intro))))
      · replace h := h.2 hc
        refine a_aload_n (pc := 54) dX11_single_54 rfl ?_
        refine a_getr (pc := 55) dX11_single_55 f_X11_19 rfl ?_
        refine a_getr (pc := 58) dX11_single_58 f_X11_178 rfl ?_
        refine a_iload_n (pc := 61) dX11_single_61 rfl ?_
        refine a_iald (pc := 62) dX11_single_62 rfl h.1.1 h.1.2  ?_
        replace h := h.2
        refine a_bipush (pc := 63) dX11_single_63 (by decide) (cnb rfl) ?_
        refine a_icmp_ne (pc := 65) 74 dX11_single_65 rfl ⟨fun hc => ?_, fun hc => ?_⟩
        · replace h := h.1 hc
          refine a_iinc (pc := 74) dX11_single_74 rfl h.1 (Nat.le_of_ble_eq_true rfl) ?_
          replace h := h.2
          refine a_goto (pc := 77) 15 dX11_single_77 rfl ?_
          exact Go.weak h (And.intro rfl (And.intro rfl (And.intro rfl (And.intro rfl True.intro))))
        · replace h := h.2 hc
          refine a_iload_n (pc := 68) dX11_single_68 rfl ?_
          refine a_iconst (pc := 69) dX11_single_69 (cnb rfl) ?_
          refine a_iload_n (pc := 70) dX11_single_70 rfl ?_
          refine a_ishl (pc := 71) dX11_single_71 ?_
          refine a_ior (pc := 72) dX11_single_72 ?_
          refine a_istore_n (pc := 73) dX11_single_73 (Nat.le_of_ble_eq_true rfl) ?_
          refine a_iinc (pc := 74) dX11_single_74 rfl h.1 (Nat.le_of_ble_eq_true rfl) ?_
          replace h := h.2
          refine a_goto (pc := 77) 15 dX11_single_77 rfl ?_
          exact Go.weak h (And.intro rfl (And.intro rfl (And.intro rfl (And.intro rfl True.intro))))
set_option maxRecDepth 20000 in
theorem s_X12_single_0 {Q : Int → Me → Prop}  (a : Int) (M : Me) (h :
    ((0 ≤ a ∧ a ≤ 1 →
    Go (km 1 mX12_single Q) 15 [some (.inr 76), some (.inl a), some (.inl 0), some (.inl 0)] [] M) ∧ (¬ (0 ≤ a ∧ a ≤ 1) →
    Q (-1) M))) :
    Go (km 1 mX12_single Q) 0 [some (.inr 76), some (.inl a), none, none] [] M := by
  refine a_iload_n (pc := 0) dX12_single_0 rfl ?_
  refine a_iconst (pc := 1) dX12_single_1 (cnb rfl) ?_
  refine a_iconst (pc := 2) dX12_single_2 (cnb rfl) ?_
  refine a_callSi (pc := 3) (d := 0) (st := []) [.inl a, .inl 0, .inl 1] dX12_single_3 l_X12_156 st_X12_in rfl ⟨Nat.le_of_ble_eq_true rfl, Nat.le_of_ble_eq_true rfl⟩ ⟨Nat.le_of_ble_eq_true rfl, Nat.le_of_ble_eq_true rfl⟩ (Nat.le_of_ble_eq_true rfl) ?_
  refine p_X12_in ⟨fun hc => ?_, fun hc => ?_⟩
  · replace h := h.1 hc
    refine a_if_ne (pc := 6) 11 dX12_single_6 rfl ⟨fun _ => ?_, fun hc => absurd hc (by decide)⟩
    refine a_iconst (pc := 11) dX12_single_11 (cnb rfl) ?_
    refine a_istore_n (pc := 12) dX12_single_12 (Nat.le_of_ble_eq_true rfl) ?_
    refine a_iconst (pc := 13) dX12_single_13 (cnb rfl) ?_
    refine a_istore_n (pc := 14) dX12_single_14 (Nat.le_of_ble_eq_true rfl) ?_
    exact h
  · replace h := h.2 hc
    refine a_if_ne (pc := 6) 11 dX12_single_6 rfl ⟨fun hc => absurd hc (by decide), fun _ => ?_⟩
    refine a_iconst (pc := 9) dX12_single_9 (cnb rfl) ?_
    exact a_iretI (pc := 10) dX12_single_10 rfl h
set_option maxRecDepth 20000 in
theorem e_X12_single {Q : Int → Me → Prop}  {a : Int} {M : Me} (h :
    ((0 ≤ a ∧ a ≤ 1 →
    Go (km 1 mX12_single Q) 15 [some (.inr 76), some (.inl a), some (.inl 0), some (.inl 0)] [] M) ∧ (¬ (0 ≤ a ∧ a ≤ 1) →
    Q (-1) M))) : Calls 1 mX12_single [.inr 76, .inl a] M Q := Calls.of (by decide) (Nat.le_of_ble_eq_true rfl) (s_X12_single_0  a M h)
set_option maxRecDepth 20000 in
theorem s_X12_single_15 {Q : Int → Me → Prop}  (x1 x2 x3 : Int) (M : Me) (h :
    ((M 76 11 ≤ x3 →
    Q x2 M) ∧ (x3 < M 76 11 →
    ((x1 ≠ 0 →
    (0 ≤ x3 ∧ x3 < 16) ∧
    ((M 82 x3 ≠ (-3) →
    cn (x3 + 1) ∧
    Go (km 1 mX12_single Q) 15 [some (.inr 76), some (.inl x1), some (.inl x2), some (.inl (x3 + 1))] [] M) ∧ (M 82 x3 = (-3) →
    cn (x3 + 1) ∧
    Go (km 1 mX12_single Q) 15 [some (.inr 76), some (.inl x1), some (.inl (bor x2 (bshl 1 x3))), some (.inl (x3 + 1))] [] M))) ∧ (x1 = 0 →
    (0 ≤ x3 ∧ x3 < 16) ∧
    ((0 ≤ M 82 x3 →
    cn (x3 + 1) ∧
    Go (km 1 mX12_single Q) 15 [some (.inr 76), some (.inl x1), some (.inl x2), some (.inl (x3 + 1))] [] M) ∧ (M 82 x3 < 0 →
    cn (x3 + 1) ∧
    Go (km 1 mX12_single Q) 15 [some (.inr 76), some (.inl x1), some (.inl (bor x2 (bshl 1 x3))), some (.inl (x3 + 1))] [] M))))))) :
    Go (km 1 mX12_single Q) 15 [some (.inr 76), some (.inl x1), some (.inl x2), some (.inl x3)] [] M := by
  refine a_iload_n (pc := 15) dX12_single_15 rfl ?_
  refine a_aload_n (pc := 16) dX12_single_16 rfl ?_
  refine a_geti (pc := 17) 11 dX12_single_17 f_X12_152 rfl rfl ?_
  refine a_icmp_ge (pc := 20) 62 dX12_single_20 rfl ⟨fun hc => ?_, fun hc => ?_⟩
  · replace h := h.1 hc
    refine a_iload_n (pc := 62) dX12_single_62 rfl ?_
    exact a_iretI (pc := 63) dX12_single_63 rfl h
  · replace h := h.2 hc
    refine a_iload_n (pc := 23) dX12_single_23 rfl ?_
    refine a_if_ne (pc := 24) 39 dX12_single_24 rfl ⟨fun hc => ?_, fun hc => ?_⟩
    · replace h := h.1 hc
      refine a_aload_n (pc := 39) dX12_single_39 rfl ?_
      refine a_getr (pc := 40) dX12_single_40 f_X12_25 rfl ?_
      refine a_iload_n (pc := 43) dX12_single_43 rfl ?_
      refine a_iald (pc := 44) dX12_single_44 rfl h.1.1 h.1.2  ?_
      replace h := h.2
      refine a_bipush (pc := 45) dX12_single_45 (by decide) (cnb rfl) ?_
      refine a_icmp_ne (pc := 47) 56 dX12_single_47 rfl ⟨fun hc => ?_, fun hc => ?_⟩
      · replace h := h.1 hc
        refine a_iinc (pc := 56) dX12_single_56 rfl h.1 (Nat.le_of_ble_eq_true rfl) ?_
        replace h := h.2
        refine a_goto (pc := 59) 15 dX12_single_59 rfl ?_
        exact h
      · replace h := h.2 hc
        refine a_iload_n (pc := 50) dX12_single_50 rfl ?_
        refine a_iconst (pc := 51) dX12_single_51 (cnb rfl) ?_
        refine a_iload_n (pc := 52) dX12_single_52 rfl ?_
        refine a_ishl (pc := 53) dX12_single_53 ?_
        refine a_ior (pc := 54) dX12_single_54 ?_
        refine a_istore_n (pc := 55) dX12_single_55 (Nat.le_of_ble_eq_true rfl) ?_
        refine a_iinc (pc := 56) dX12_single_56 rfl h.1 (Nat.le_of_ble_eq_true rfl) ?_
        replace h := h.2
        refine a_goto (pc := 59) 15 dX12_single_59 rfl ?_
        exact h
    · replace h := h.2 hc
      refine a_aload_n (pc := 27) dX12_single_27 rfl ?_
      refine a_getr (pc := 28) dX12_single_28 f_X12_25 rfl ?_
      refine a_iload_n (pc := 31) dX12_single_31 rfl ?_
      refine a_iald (pc := 32) dX12_single_32 rfl h.1.1 h.1.2  ?_
      replace h := h.2
      refine a_if_ge (pc := 33) 56 dX12_single_33 rfl ⟨fun hc => ?_, fun hc => ?_⟩
      · replace h := h.1 hc
        refine a_iinc (pc := 56) dX12_single_56 rfl h.1 (Nat.le_of_ble_eq_true rfl) ?_
        replace h := h.2
        refine a_goto (pc := 59) 15 dX12_single_59 rfl ?_
        exact h
      · replace h := h.2 hc
        refine a_goto (pc := 36) 50 dX12_single_36 rfl ?_
        refine a_iload_n (pc := 50) dX12_single_50 rfl ?_
        refine a_iconst (pc := 51) dX12_single_51 (cnb rfl) ?_
        refine a_iload_n (pc := 52) dX12_single_52 rfl ?_
        refine a_ishl (pc := 53) dX12_single_53 ?_
        refine a_ior (pc := 54) dX12_single_54 ?_
        refine a_istore_n (pc := 55) dX12_single_55 (Nat.le_of_ble_eq_true rfl) ?_
        refine a_iinc (pc := 56) dX12_single_56 rfl h.1 (Nat.le_of_ble_eq_true rfl) ?_
        replace h := h.2
        refine a_goto (pc := 59) 15 dX12_single_59 rfl ?_
        exact h
set_option maxRecDepth 20000 in
theorem s_X11_letters_0 {Q : Int → Me → Prop}  (M : Me) (h :
    Go (km 1 mX11_letters Q) 4 [some (.inr 0), some (.inl 0), some (.inl 0)] [] M) :
    Go (km 1 mX11_letters Q) 0 [some (.inr 0), none, none] [] M := by
  refine a_iconst (pc := 0) dX11_letters_0 (cnb rfl) ?_
  refine a_istore_n (pc := 1) dX11_letters_1 (Nat.le_of_ble_eq_true rfl) ?_
  refine a_iconst (pc := 2) dX11_letters_2 (cnb rfl) ?_
  refine a_istore_n (pc := 3) dX11_letters_3 (Nat.le_of_ble_eq_true rfl) ?_
  exact h
set_option maxRecDepth 20000 in
theorem e_X11_letters {Q : Int → Me → Prop}  {M : Me} (h :
    Go (km 1 mX11_letters Q) 4 [some (.inr 0), some (.inl 0), some (.inl 0)] [] M) : Calls 1 mX11_letters [.inr 0] M Q := Calls.of (by decide) (Nat.le_of_ble_eq_true rfl) (s_X11_letters_0   M h)
set_option maxRecDepth 20000 in
theorem s_X11_letters_4 {Q : Int → Me → Prop}  (x1 x2 : Int) (M : Me) (h :
    ((M 3 8 ≤ x2 →
    Q x1 M) ∧ (x2 < M 3 8 →
    (0 ≤ x2 ∧ x2 < 16) ∧
    ((M 38 x2 ≠ 2 →
    cn (x2 + 1) ∧
    Go (km 1 mX11_letters Q) 4 [some (.inr 0), some (.inl x1), some (.inl (x2 + 1))] [] M) ∧ (M 38 x2 = 2 →
    (0 ≤ x2 ∧ x2 < 16) ∧
    ((0 ≤ M (3 + 3) x2 →
    cn (x2 + 1) ∧
    Go (km 1 mX11_letters Q) 4 [some (.inr 0), some (.inl (bor x1 (bor (bshl 1 (M (3 + 2) x2)) (bshl 1 (M (3 + 3) x2))))), some (.inl (x2 + 1))] [] M) ∧ (¬ (0 ≤ M (3 + 3) x2) →
    cn (x2 + 1) ∧
    Go (km 1 mX11_letters Q) 4 [some (.inr 0), some (.inl (bor x1 (bshl 1 (M (3 + 2) x2)))), some (.inl (x2 + 1))] [] M))))))) :
    Go (km 1 mX11_letters Q) 4 [some (.inr 0), some (.inl x1), some (.inl x2)] [] M := by
  refine a_iload_n (pc := 4) dX11_letters_4 rfl ?_
  refine a_aload_n (pc := 5) dX11_letters_5 rfl ?_
  refine a_getr (pc := 6) dX11_letters_6 f_X11_19 rfl ?_
  refine a_geti (pc := 9) 8 dX11_letters_9 f_X11_155 rfl rfl ?_
  refine a_icmp_ge (pc := 12) 45 dX11_letters_12 rfl ⟨fun hc => ?_, fun hc => ?_⟩
  · replace h := h.1 hc
    refine a_iload_n (pc := 45) dX11_letters_45 rfl ?_
    exact a_iretI (pc := 46) dX11_letters_46 rfl h
  · replace h := h.2 hc
    refine a_aload_n (pc := 15) dX11_letters_15 rfl ?_
    refine a_getr (pc := 16) dX11_letters_16 f_X11_49 rfl ?_
    refine a_getr (pc := 19) dX11_letters_19 f_X11_169 rfl ?_
    refine a_iload_n (pc := 22) dX11_letters_22 rfl ?_
    refine a_iald (pc := 23) dX11_letters_23 rfl h.1.1 h.1.2  ?_
    replace h := h.2
    refine a_iconst (pc := 24) dX11_letters_24 (cnb rfl) ?_
    refine a_icmp_ne (pc := 25) 39 dX11_letters_25 rfl ⟨fun hc => ?_, fun hc => ?_⟩
    · replace h := h.1 hc
      refine a_iinc (pc := 39) dX11_letters_39 rfl h.1 (Nat.le_of_ble_eq_true rfl) ?_
      replace h := h.2
      refine a_goto (pc := 42) 4 dX11_letters_42 rfl ?_
      exact h
    · replace h := h.2 hc
      refine a_iload_n (pc := 28) dX11_letters_28 rfl ?_
      refine a_aload_n (pc := 29) dX11_letters_29 rfl ?_
      refine a_getr (pc := 30) dX11_letters_30 f_X11_19 rfl ?_
      refine a_iload_n (pc := 33) dX11_letters_33 rfl ?_
      refine a_callVi (pc := 34) (d := 0) (st := [.inl x1]) (o := 3) [.inl x2] dX11_letters_34 l_X11_207 in_X1_letterBits se_X1_letterBits rfl rfl rfl ⟨Nat.le_of_ble_eq_true rfl, Nat.le_of_ble_eq_true rfl⟩ ⟨Nat.le_of_ble_eq_true rfl, Nat.le_of_ble_eq_true rfl⟩ (Nat.le_of_ble_eq_true rfl) ?_
      have hp34_1 := h.1
      replace h := h.2
      refine p_X1_letterBits (Or.inl rfl) hp34_1 ⟨fun hc => ?_, fun hc => ?_⟩
      · replace h := h.1 hc
        refine a_ior (pc := 37) dX11_letters_37 ?_
        refine a_istore_n (pc := 38) dX11_letters_38 (Nat.le_of_ble_eq_true rfl) ?_
        refine a_iinc (pc := 39) dX11_letters_39 rfl h.1 (Nat.le_of_ble_eq_true rfl) ?_
        replace h := h.2
        refine a_goto (pc := 42) 4 dX11_letters_42 rfl ?_
        exact h
      · replace h := h.2 hc
        refine a_ior (pc := 37) dX11_letters_37 ?_
        refine a_istore_n (pc := 38) dX11_letters_38 (Nat.le_of_ble_eq_true rfl) ?_
        refine a_iinc (pc := 39) dX11_letters_39 rfl h.1 (Nat.le_of_ble_eq_true rfl) ?_
        replace h := h.2
        refine a_goto (pc := 42) 4 dX11_letters_42 rfl ?_
        exact h
set_option maxRecDepth 20000 in
theorem s_X12_letters_0 {Q : Int → Me → Prop}  (M : Me) (h :
    Go (km 0 mX12_letters Q) 4 [some (.inr 76), some (.inl 0), some (.inl 0)] [] M) :
    Go (km 0 mX12_letters Q) 0 [some (.inr 76), none, none] [] M := by
  refine a_iconst (pc := 0) dX12_letters_0 (cnb rfl) ?_
  refine a_istore_n (pc := 1) dX12_letters_1 (Nat.le_of_ble_eq_true rfl) ?_
  refine a_iconst (pc := 2) dX12_letters_2 (cnb rfl) ?_
  refine a_istore_n (pc := 3) dX12_letters_3 (Nat.le_of_ble_eq_true rfl) ?_
  exact h
set_option maxRecDepth 20000 in
theorem e_X12_letters {Q : Int → Me → Prop}  {M : Me} (h :
    Go (km 0 mX12_letters Q) 4 [some (.inr 76), some (.inl 0), some (.inl 0)] [] M) : Calls 0 mX12_letters [.inr 76] M Q := Calls.of (by decide) (Nat.le_of_ble_eq_true rfl) (s_X12_letters_0   M h)
set_option maxRecDepth 20000 in
theorem s_X12_letters_4 {Q : Int → Me → Prop}  (x1 x2 : Int) (M : Me) (h :
    ((M 76 11 ≤ x2 →
    Q x1 M) ∧ (x2 < M 76 11 →
    cn (0 + x2) ∧
    (0 ≤ 0 + x2 ∧ 0 + x2 < 82) ∧
    ((M 77 (0 + x2) = 2 →
    (0 ≤ x2 ∧ x2 < 16) ∧
    (0 ≤ x2 ∧ x2 < 16) ∧
    ((M 82 x2 < 0 →
    cn (x2 + 1) ∧
    Go (km 0 mX12_letters Q) 4 [some (.inr 76), some (.inl (bor x1 (bshl 1 (M 81 x2)))), some (.inl (x2 + 1))] [] M) ∧ (0 ≤ M 82 x2 →
    (0 ≤ x2 ∧ x2 < 16) ∧
    cn (x2 + 1) ∧
    Go (km 0 mX12_letters Q) 4 [some (.inr 76), some (.inl (bor (bor x1 (bshl 1 (M 81 x2))) (bshl 1 (M 82 x2)))), some (.inl (x2 + 1))] [] M))) ∧ (M 77 (0 + x2) ≠ 2 →
    cn (x2 + 1) ∧
    Go (km 0 mX12_letters Q) 4 [some (.inr 76), some (.inl x1), some (.inl (x2 + 1))] [] M))))) :
    Go (km 0 mX12_letters Q) 4 [some (.inr 76), some (.inl x1), some (.inl x2)] [] M := by
  refine a_iload_n (pc := 4) dX12_letters_4 rfl ?_
  refine a_aload_n (pc := 5) dX12_letters_5 rfl ?_
  refine a_geti (pc := 6) 11 dX12_letters_6 f_X12_152 rfl rfl ?_
  refine a_icmp_ge (pc := 9) 64 dX12_letters_9 rfl ⟨fun hc => ?_, fun hc => ?_⟩
  · replace h := h.1 hc
    refine a_iload_n (pc := 64) dX12_letters_64 rfl ?_
    exact a_iretI (pc := 65) dX12_letters_65 rfl h
  · replace h := h.2 hc
    refine a_aload_n (pc := 12) dX12_letters_12 rfl ?_
    refine a_getr (pc := 13) dX12_letters_13 f_X12_7 rfl ?_
    refine a_iconst (pc := 16) dX12_letters_16 (cnb rfl) ?_
    refine a_iload_n (pc := 17) dX12_letters_17 rfl ?_
    refine a_iadd (pc := 18) dX12_letters_18 h.1 ?_
    replace h := h.2
    refine a_iald (pc := 19) dX12_letters_19 rfl h.1.1 h.1.2  ?_
    replace h := h.2
    refine a_iconst (pc := 20) dX12_letters_20 (cnb rfl) ?_
    refine a_icmp_eq (pc := 21) 27 dX12_letters_21 rfl ⟨fun hc => ?_, fun hc => ?_⟩
    · replace h := h.1 hc
      refine a_iload_n (pc := 27) dX12_letters_27 rfl ?_
      refine a_iconst (pc := 28) dX12_letters_28 (cnb rfl) ?_
      refine a_aload_n (pc := 29) dX12_letters_29 rfl ?_
      refine a_getr (pc := 30) dX12_letters_30 f_X12_22 rfl ?_
      refine a_iload_n (pc := 33) dX12_letters_33 rfl ?_
      refine a_iald (pc := 34) dX12_letters_34 rfl h.1.1 h.1.2  ?_
      replace h := h.2
      refine a_ishl (pc := 35) dX12_letters_35 ?_
      refine a_ior (pc := 36) dX12_letters_36 ?_
      refine a_istore_n (pc := 37) dX12_letters_37 (Nat.le_of_ble_eq_true rfl) ?_
      refine a_aload_n (pc := 38) dX12_letters_38 rfl ?_
      refine a_getr (pc := 39) dX12_letters_39 f_X12_25 rfl ?_
      refine a_iload_n (pc := 42) dX12_letters_42 rfl ?_
      refine a_iald (pc := 43) dX12_letters_43 rfl h.1.1 h.1.2  ?_
      replace h := h.2
      refine a_if_lt (pc := 44) 58 dX12_letters_44 rfl ⟨fun hc => ?_, fun hc => ?_⟩
      · replace h := h.1 hc
        refine a_iinc (pc := 58) dX12_letters_58 rfl h.1 (Nat.le_of_ble_eq_true rfl) ?_
        replace h := h.2
        refine a_goto (pc := 61) 4 dX12_letters_61 rfl ?_
        exact h
      · replace h := h.2 hc
        refine a_iload_n (pc := 47) dX12_letters_47 rfl ?_
        refine a_iconst (pc := 48) dX12_letters_48 (cnb rfl) ?_
        refine a_aload_n (pc := 49) dX12_letters_49 rfl ?_
        refine a_getr (pc := 50) dX12_letters_50 f_X12_25 rfl ?_
        refine a_iload_n (pc := 53) dX12_letters_53 rfl ?_
        refine a_iald (pc := 54) dX12_letters_54 rfl h.1.1 h.1.2  ?_
        replace h := h.2
        refine a_ishl (pc := 55) dX12_letters_55 ?_
        refine a_ior (pc := 56) dX12_letters_56 ?_
        refine a_istore_n (pc := 57) dX12_letters_57 (Nat.le_of_ble_eq_true rfl) ?_
        refine a_iinc (pc := 58) dX12_letters_58 rfl h.1 (Nat.le_of_ble_eq_true rfl) ?_
        replace h := h.2
        refine a_goto (pc := 61) 4 dX12_letters_61 rfl ?_
        exact h
    · replace h := h.2 hc
      refine a_goto (pc := 24) 58 dX12_letters_24 rfl ?_
      refine a_iinc (pc := 58) dX12_letters_58 rfl h.1 (Nat.le_of_ble_eq_true rfl) ?_
      replace h := h.2
      refine a_goto (pc := 61) 4 dX12_letters_61 rfl ?_
      exact h
set_option maxRecDepth 20000 in
theorem s_X11_dates_0 {Q : Int → Me → Prop}  (a : Int) (M : Me) (h :
    ((a < 0 →
    Q (-1) M) ∧ (0 ≤ a →
    ((a ≤ 2 →
    Go (km 1 mX11_dates Q) 23 [some (.inr 0), some (.inl a), some (.inl 0), some (.inl (-2)), some (.inl (-2)), some (.inl 0), none] [] M) ∧ (2 < a →
    Q (-1) M))))) :
    Go (km 1 mX11_dates Q) 0 [some (.inr 0), some (.inl a), none, none, none, none, none] [] M := by
  refine a_iload_n (pc := 0) dX11_dates_0 rfl ?_
  refine a_if_lt (pc := 1) 9 dX11_dates_1 rfl ⟨fun hc => ?_, fun hc => ?_⟩
  · replace h := h.1 hc
    refine a_iconst (pc := 9) dX11_dates_9 (cnb rfl) ?_
    exact a_iretI (pc := 10) dX11_dates_10 rfl h
  · replace h := h.2 hc
    refine a_iload_n (pc := 4) dX11_dates_4 rfl ?_
    refine a_iconst (pc := 5) dX11_dates_5 (cnb rfl) ?_
    refine a_icmp_le (pc := 6) 11 dX11_dates_6 rfl ⟨fun hc => ?_, fun hc => ?_⟩
    · replace h := h.1 hc
      refine a_iconst (pc := 11) dX11_dates_11 (cnb rfl) ?_
      refine a_istore_n (pc := 12) dX11_dates_12 (Nat.le_of_ble_eq_true rfl) ?_
      refine a_bipush (pc := 13) dX11_dates_13 (by decide) (cnb rfl) ?_
      refine a_istore_n (pc := 15) dX11_dates_15 (Nat.le_of_ble_eq_true rfl) ?_
      refine a_bipush (pc := 16) dX11_dates_16 (by decide) (cnb rfl) ?_
      refine a_istore (pc := 18) dX11_dates_18 (Nat.le_of_ble_eq_true rfl) ?_
      refine a_iconst (pc := 20) dX11_dates_20 (cnb rfl) ?_
      refine a_istore (pc := 21) dX11_dates_21 (Nat.le_of_ble_eq_true rfl) ?_
      exact h
    · replace h := h.2 hc
      refine a_iconst (pc := 9) dX11_dates_9 (cnb rfl) ?_
      exact a_iretI (pc := 10) dX11_dates_10 rfl h
set_option maxRecDepth 20000 in
theorem e_X11_dates {Q : Int → Me → Prop}  {a : Int} {M : Me} (h :
    ((a < 0 →
    Q (-1) M) ∧ (0 ≤ a →
    ((a ≤ 2 →
    Go (km 1 mX11_dates Q) 23 [some (.inr 0), some (.inl a), some (.inl 0), some (.inl (-2)), some (.inl (-2)), some (.inl 0), none] [] M) ∧ (2 < a →
    Q (-1) M))))) : Calls 1 mX11_dates [.inr 0, .inl a] M Q := Calls.of (by decide) (Nat.le_of_ble_eq_true rfl) (s_X11_dates_0  a M h)
set_option maxRecDepth 20000 in
theorem s_X11_dates_23 {Q : Int → Me → Prop}  (x1 x2 x3 x4 x5 : Int) (M : Me) (h :
    ((M 3 8 ≤ x5 →
    ((x1 ≠ 0 →
    ((x1 ≠ 1 →
    Q x4 M) ∧ (x1 = 1 →
    Q x3 M))) ∧ (x1 = 0 →
    Q x2 M))) ∧ (x5 < M 3 8 →
    (0 ≤ x5 ∧ x5 < 16) ∧
    ((M 10 x5 = (-2) →
    cn (x5 + 1) ∧
    Go (km 1 mX11_dates Q) 23 [some (.inr 0), some (.inl x1), some (.inl x2), some (.inl x3), some (.inl x4), some (.inl (x5 + 1)), none] [] M) ∧ (M 10 x5 ≠ (-2) →
    cn (x2 + 1) ∧
    ((x3 ≠ (-2) →
    cn (x5 + 1) ∧
    Go (km 1 mX11_dates Q) 23 [some (.inr 0), some (.inl x1), some (.inl (x2 + 1)), some (.inl (min x3 (M 10 x5))), some (.inl (max x4 (M 10 x5))), some (.inl (x5 + 1)), none] [] M) ∧ (x3 = (-2) →
    cn (x5 + 1) ∧
    Go (km 1 mX11_dates Q) 23 [some (.inr 0), some (.inl x1), some (.inl (x2 + 1)), some (.inl (M 10 x5)), some (.inl (max x4 (M 10 x5))), some (.inl (x5 + 1)), none] [] M))))))) :
    Go (km 1 mX11_dates Q) 23 [some (.inr 0), some (.inl x1), some (.inl x2), some (.inl x3), some (.inl x4), some (.inl x5), none] [] M := by
  refine a_iload (pc := 23) dX11_dates_23 rfl ?_
  refine a_aload_n (pc := 25) dX11_dates_25 rfl ?_
  refine a_getr (pc := 26) dX11_dates_26 f_X11_19 rfl ?_
  refine a_geti (pc := 29) 8 dX11_dates_29 f_X11_155 rfl rfl ?_
  refine a_icmp_ge (pc := 32) 90 dX11_dates_32 rfl ⟨fun hc => ?_, fun hc => ?_⟩
  · replace h := h.1 hc
    refine a_iload_n (pc := 90) dX11_dates_90 rfl ?_
    refine a_if_ne (pc := 91) 96 dX11_dates_91 rfl ⟨fun hc => ?_, fun hc => ?_⟩
    · replace h := h.1 hc
      refine a_iload_n (pc := 96) dX11_dates_96 rfl ?_
      refine a_iconst (pc := 97) dX11_dates_97 (cnb rfl) ?_
      refine a_icmp_ne (pc := 98) 105 dX11_dates_98 rfl ⟨fun hc => ?_, fun hc => ?_⟩
      · replace h := h.1 hc
        refine a_iload (pc := 105) dX11_dates_105 rfl ?_
        exact a_iretI (pc := 107) dX11_dates_107 rfl h
      · replace h := h.2 hc
        refine a_iload_n (pc := 101) dX11_dates_101 rfl ?_
        refine a_goto (pc := 102) 107 dX11_dates_102 rfl ?_
        exact a_iretI (pc := 107) dX11_dates_107 rfl h
    · replace h := h.2 hc
      refine a_iload_n (pc := 94) dX11_dates_94 rfl ?_
      exact a_iretI (pc := 95) dX11_dates_95 rfl h
  · replace h := h.2 hc
    refine a_aload_n (pc := 35) dX11_dates_35 rfl ?_
    refine a_getr (pc := 36) dX11_dates_36 f_X11_19 rfl ?_
    refine a_getr (pc := 39) dX11_dates_39 f_X11_190 rfl ?_
    refine a_iload (pc := 42) dX11_dates_42 rfl ?_
    refine a_iald (pc := 44) dX11_dates_44 rfl h.1.1 h.1.2  ?_
    replace h := h.2
    refine a_istore (pc := 45) dX11_dates_45 (Nat.le_of_ble_eq_true rfl) ?_
    refine a_iload (pc := 47) dX11_dates_47 rfl ?_
    refine a_bipush (pc := 49) dX11_dates_49 (by decide) (cnb rfl) ?_
    refine a_icmp_eq (pc := 51) 84 dX11_dates_51 rfl ⟨fun hc => ?_, fun hc => ?_⟩
    · replace h := h.1 hc
      refine a_iinc (pc := 84) dX11_dates_84 rfl h.1 (Nat.le_of_ble_eq_true rfl) ?_
      replace h := h.2
      refine a_goto (pc := 87) 23 dX11_dates_87 rfl ?_
      exact Go.weak h (And.intro rfl (And.intro rfl (And.intro rfl (And.intro rfl (And.intro rfl (And.intro rfl True.intro))))))
    · replace h := h.2 hc
      refine a_iinc (pc := 54) dX11_dates_54 rfl h.1 (Nat.le_of_ble_eq_true rfl) ?_
      replace h := h.2
      refine a_iload_n (pc := 57) dX11_dates_57 rfl ?_
      refine a_bipush (pc := 58) dX11_dates_58 (by decide) (cnb rfl) ?_
      refine a_icmp_ne (pc := 60) 68 dX11_dates_60 rfl ⟨fun hc => ?_, fun hc => ?_⟩
      · replace h := h.1 hc
        refine a_iload_n (pc := 68) dX11_dates_68 rfl ?_
        refine a_iload (pc := 69) dX11_dates_69 rfl ?_
        refine a_mmin (pc := 71) dX11_dates_71 ml_X11_220 mt_st_min mt_ini mt_cd_min ⟨Nat.le_of_ble_eq_true rfl, Nat.le_of_ble_eq_true rfl⟩ ⟨Nat.le_of_ble_eq_true rfl, Nat.le_of_ble_eq_true rfl⟩ (Nat.le_of_ble_eq_true rfl) ?_
        refine a_istore_n (pc := 74) dX11_dates_74 (Nat.le_of_ble_eq_true rfl) ?_
        refine a_iload (pc := 75) dX11_dates_75 rfl ?_
        refine a_iload (pc := 77) dX11_dates_77 rfl ?_
        refine a_mmax (pc := 79) dX11_dates_79 ml_X11_215 mt_st_max mt_ini mt_cd_max ⟨Nat.le_of_ble_eq_true rfl, Nat.le_of_ble_eq_true rfl⟩ ⟨Nat.le_of_ble_eq_true rfl, Nat.le_of_ble_eq_true rfl⟩ (Nat.le_of_ble_eq_true rfl) ?_
        refine a_istore (pc := 82) dX11_dates_82 (Nat.le_of_ble_eq_true rfl) ?_
        refine a_iinc (pc := 84) dX11_dates_84 rfl h.1 (Nat.le_of_ble_eq_true rfl) ?_
        replace h := h.2
        refine a_goto (pc := 87) 23 dX11_dates_87 rfl ?_
        exact Go.weak h (And.intro rfl (And.intro rfl (And.intro rfl (And.intro rfl (And.intro rfl (And.intro rfl True.intro))))))
      · replace h := h.2 hc
        refine a_iload (pc := 63) dX11_dates_63 rfl ?_
        refine a_goto (pc := 65) 74 dX11_dates_65 rfl ?_
        refine a_istore_n (pc := 74) dX11_dates_74 (Nat.le_of_ble_eq_true rfl) ?_
        refine a_iload (pc := 75) dX11_dates_75 rfl ?_
        refine a_iload (pc := 77) dX11_dates_77 rfl ?_
        refine a_mmax (pc := 79) dX11_dates_79 ml_X11_215 mt_st_max mt_ini mt_cd_max ⟨Nat.le_of_ble_eq_true rfl, Nat.le_of_ble_eq_true rfl⟩ ⟨Nat.le_of_ble_eq_true rfl, Nat.le_of_ble_eq_true rfl⟩ (Nat.le_of_ble_eq_true rfl) ?_
        refine a_istore (pc := 82) dX11_dates_82 (Nat.le_of_ble_eq_true rfl) ?_
        refine a_iinc (pc := 84) dX11_dates_84 rfl h.1 (Nat.le_of_ble_eq_true rfl) ?_
        replace h := h.2
        refine a_goto (pc := 87) 23 dX11_dates_87 rfl ?_
        exact Go.weak h (And.intro rfl (And.intro rfl (And.intro rfl (And.intro rfl (And.intro rfl (And.intro rfl True.intro))))))
set_option maxRecDepth 20000 in
theorem s_X12_dates_0 {Q : Int → Me → Prop}  (a : Int) (M : Me) (h :
    ((0 ≤ a ∧ a ≤ 2 →
    Go (km 1 mX12_dates Q) 23 [some (.inr 76), some (.inl a), some (.inl 0), some (.inl (-2)), some (.inl (-2)), some (.inl 0)] [] M) ∧ (¬ (0 ≤ a ∧ a ≤ 2) →
    Q (-1) M))) :
    Go (km 1 mX12_dates Q) 0 [some (.inr 76), some (.inl a), none, none, none, none] [] M := by
  refine a_iload_n (pc := 0) dX12_dates_0 rfl ?_
  refine a_iconst (pc := 1) dX12_dates_1 (cnb rfl) ?_
  refine a_iconst (pc := 2) dX12_dates_2 (cnb rfl) ?_
  refine a_callSi (pc := 3) (d := 0) (st := []) [.inl a, .inl 0, .inl 2] dX12_dates_3 l_X12_156 st_X12_in rfl ⟨Nat.le_of_ble_eq_true rfl, Nat.le_of_ble_eq_true rfl⟩ ⟨Nat.le_of_ble_eq_true rfl, Nat.le_of_ble_eq_true rfl⟩ (Nat.le_of_ble_eq_true rfl) ?_
  refine p_X12_in ⟨fun hc => ?_, fun hc => ?_⟩
  · replace h := h.1 hc
    refine a_if_ne (pc := 6) 11 dX12_dates_6 rfl ⟨fun _ => ?_, fun hc => absurd hc (by decide)⟩
    refine a_iconst (pc := 11) dX12_dates_11 (cnb rfl) ?_
    refine a_istore_n (pc := 12) dX12_dates_12 (Nat.le_of_ble_eq_true rfl) ?_
    refine a_bipush (pc := 13) dX12_dates_13 (by decide) (cnb rfl) ?_
    refine a_istore_n (pc := 15) dX12_dates_15 (Nat.le_of_ble_eq_true rfl) ?_
    refine a_bipush (pc := 16) dX12_dates_16 (by decide) (cnb rfl) ?_
    refine a_istore (pc := 18) dX12_dates_18 (Nat.le_of_ble_eq_true rfl) ?_
    refine a_iconst (pc := 20) dX12_dates_20 (cnb rfl) ?_
    refine a_istore (pc := 21) dX12_dates_21 (Nat.le_of_ble_eq_true rfl) ?_
    exact h
  · replace h := h.2 hc
    refine a_if_ne (pc := 6) 11 dX12_dates_6 rfl ⟨fun hc => absurd hc (by decide), fun _ => ?_⟩
    refine a_iconst (pc := 9) dX12_dates_9 (cnb rfl) ?_
    exact a_iretI (pc := 10) dX12_dates_10 rfl h
set_option maxRecDepth 20000 in
theorem e_X12_dates {Q : Int → Me → Prop}  {a : Int} {M : Me} (h :
    ((0 ≤ a ∧ a ≤ 2 →
    Go (km 1 mX12_dates Q) 23 [some (.inr 76), some (.inl a), some (.inl 0), some (.inl (-2)), some (.inl (-2)), some (.inl 0)] [] M) ∧ (¬ (0 ≤ a ∧ a ≤ 2) →
    Q (-1) M))) : Calls 1 mX12_dates [.inr 76, .inl a] M Q := Calls.of (by decide) (Nat.le_of_ble_eq_true rfl) (s_X12_dates_0  a M h)
set_option maxRecDepth 20000 in
theorem s_X12_dates_23 {Q : Int → Me → Prop}  (x1 x2 x3 x4 x5 : Int) (M : Me) (h :
    ((M 76 11 ≤ x5 →
    ((x1 ≠ 0 →
    ((x1 ≠ 1 →
    Q x4 M) ∧ (x1 = 1 →
    Q x3 M))) ∧ (x1 = 0 →
    Q x2 M))) ∧ (x5 < M 76 11 →
    (0 ≤ x5 ∧ x5 < 16) ∧
    ((M 86 x5 ≠ (-2) →
    cn (x2 + 1) ∧
    ((x3 ≠ (-2) →
    (0 ≤ x5 ∧ x5 < 16) ∧
    (0 ≤ x5 ∧ x5 < 16) ∧
    cn (x5 + 1) ∧
    Go (km 1 mX12_dates Q) 23 [some (.inr 76), some (.inl x1), some (.inl (x2 + 1)), some (.inl (min x3 (M 86 x5))), some (.inl (max x4 (M 86 x5))), some (.inl (x5 + 1))] [] M) ∧ (x3 = (-2) →
    (0 ≤ x5 ∧ x5 < 16) ∧
    (0 ≤ x5 ∧ x5 < 16) ∧
    cn (x5 + 1) ∧
    Go (km 1 mX12_dates Q) 23 [some (.inr 76), some (.inl x1), some (.inl (x2 + 1)), some (.inl (M 86 x5)), some (.inl (max x4 (M 86 x5))), some (.inl (x5 + 1))] [] M))) ∧ (M 86 x5 = (-2) →
    cn (x5 + 1) ∧
    Go (km 1 mX12_dates Q) 23 [some (.inr 76), some (.inl x1), some (.inl x2), some (.inl x3), some (.inl x4), some (.inl (x5 + 1))] [] M))))) :
    Go (km 1 mX12_dates Q) 23 [some (.inr 76), some (.inl x1), some (.inl x2), some (.inl x3), some (.inl x4), some (.inl x5)] [] M := by
  refine a_iload (pc := 23) dX12_dates_23 rfl ?_
  refine a_aload_n (pc := 25) dX12_dates_25 rfl ?_
  refine a_geti (pc := 26) 11 dX12_dates_26 f_X12_152 rfl rfl ?_
  refine a_icmp_ge (pc := 29) 99 dX12_dates_29 rfl ⟨fun hc => ?_, fun hc => ?_⟩
  · replace h := h.1 hc
    refine a_iload_n (pc := 99) dX12_dates_99 rfl ?_
    refine a_if_ne (pc := 100) 107 dX12_dates_100 rfl ⟨fun hc => ?_, fun hc => ?_⟩
    · replace h := h.1 hc
      refine a_iload_n (pc := 107) dX12_dates_107 rfl ?_
      refine a_iconst (pc := 108) dX12_dates_108 (cnb rfl) ?_
      refine a_icmp_ne (pc := 109) 116 dX12_dates_109 rfl ⟨fun hc => ?_, fun hc => ?_⟩
      · replace h := h.1 hc
        refine a_iload (pc := 116) dX12_dates_116 rfl ?_
        exact a_iretI (pc := 118) dX12_dates_118 rfl h
      · replace h := h.2 hc
        refine a_iload_n (pc := 112) dX12_dates_112 rfl ?_
        refine a_goto (pc := 113) 118 dX12_dates_113 rfl ?_
        exact a_iretI (pc := 118) dX12_dates_118 rfl h
    · replace h := h.2 hc
      refine a_iload_n (pc := 103) dX12_dates_103 rfl ?_
      refine a_goto (pc := 104) 118 dX12_dates_104 rfl ?_
      exact a_iretI (pc := 118) dX12_dates_118 rfl h
  · replace h := h.2 hc
    refine a_aload_n (pc := 32) dX12_dates_32 rfl ?_
    refine a_getr (pc := 33) dX12_dates_33 f_X12_37 rfl ?_
    refine a_iload (pc := 36) dX12_dates_36 rfl ?_
    refine a_iald (pc := 38) dX12_dates_38 rfl h.1.1 h.1.2  ?_
    replace h := h.2
    refine a_bipush (pc := 39) dX12_dates_39 (by decide) (cnb rfl) ?_
    refine a_icmp_ne (pc := 41) 47 dX12_dates_41 rfl ⟨fun hc => ?_, fun hc => ?_⟩
    · replace h := h.1 hc
      refine a_iload_n (pc := 47) dX12_dates_47 rfl ?_
      refine a_iconst (pc := 48) dX12_dates_48 (cnb rfl) ?_
      refine a_iadd (pc := 49) dX12_dates_49 h.1 ?_
      replace h := h.2
      refine a_istore_n (pc := 50) dX12_dates_50 (Nat.le_of_ble_eq_true rfl) ?_
      refine a_iload_n (pc := 51) dX12_dates_51 rfl ?_
      refine a_bipush (pc := 52) dX12_dates_52 (by decide) (cnb rfl) ?_
      refine a_icmp_ne (pc := 54) 67 dX12_dates_54 rfl ⟨fun hc => ?_, fun hc => ?_⟩
      · replace h := h.1 hc
        refine a_iload_n (pc := 67) dX12_dates_67 rfl ?_
        refine a_aload_n (pc := 68) dX12_dates_68 rfl ?_
        refine a_getr (pc := 69) dX12_dates_69 f_X12_37 rfl ?_
        refine a_iload (pc := 72) dX12_dates_72 rfl ?_
        refine a_iald (pc := 74) dX12_dates_74 rfl h.1.1 h.1.2  ?_
        replace h := h.2
        refine a_callSi (pc := 75) (d := 0) (st := []) [.inl x3, .inl (M 86 x5)] dX12_dates_75 l_X12_309 st_X12_min rfl ⟨Nat.le_of_ble_eq_true rfl, Nat.le_of_ble_eq_true rfl⟩ ⟨Nat.le_of_ble_eq_true rfl, Nat.le_of_ble_eq_true rfl⟩ (Nat.le_of_ble_eq_true rfl) ?_
        refine p_X12_min ?_
        refine a_istore_n (pc := 78) dX12_dates_78 (Nat.le_of_ble_eq_true rfl) ?_
        refine a_iload (pc := 79) dX12_dates_79 rfl ?_
        refine a_aload_n (pc := 81) dX12_dates_81 rfl ?_
        refine a_getr (pc := 82) dX12_dates_82 f_X12_37 rfl ?_
        refine a_iload (pc := 85) dX12_dates_85 rfl ?_
        refine a_iald (pc := 87) dX12_dates_87 rfl h.1.1 h.1.2  ?_
        replace h := h.2
        refine a_callSi (pc := 88) (d := 0) (st := []) [.inl x4, .inl (M 86 x5)] dX12_dates_88 l_X12_334 st_X12_max rfl ⟨Nat.le_of_ble_eq_true rfl, Nat.le_of_ble_eq_true rfl⟩ ⟨Nat.le_of_ble_eq_true rfl, Nat.le_of_ble_eq_true rfl⟩ (Nat.le_of_ble_eq_true rfl) ?_
        refine p_X12_max ?_
        refine a_istore (pc := 91) dX12_dates_91 (Nat.le_of_ble_eq_true rfl) ?_
        refine a_iinc (pc := 93) dX12_dates_93 rfl h.1 (Nat.le_of_ble_eq_true rfl) ?_
        replace h := h.2
        refine a_goto (pc := 96) 23 dX12_dates_96 rfl ?_
        exact h
      · replace h := h.2 hc
        refine a_aload_n (pc := 57) dX12_dates_57 rfl ?_
        refine a_getr (pc := 58) dX12_dates_58 f_X12_37 rfl ?_
        refine a_iload (pc := 61) dX12_dates_61 rfl ?_
        refine a_iald (pc := 63) dX12_dates_63 rfl h.1.1 h.1.2  ?_
        replace h := h.2
        refine a_goto (pc := 64) 78 dX12_dates_64 rfl ?_
        refine a_istore_n (pc := 78) dX12_dates_78 (Nat.le_of_ble_eq_true rfl) ?_
        refine a_iload (pc := 79) dX12_dates_79 rfl ?_
        refine a_aload_n (pc := 81) dX12_dates_81 rfl ?_
        refine a_getr (pc := 82) dX12_dates_82 f_X12_37 rfl ?_
        refine a_iload (pc := 85) dX12_dates_85 rfl ?_
        refine a_iald (pc := 87) dX12_dates_87 rfl h.1.1 h.1.2  ?_
        replace h := h.2
        refine a_callSi (pc := 88) (d := 0) (st := []) [.inl x4, .inl (M 86 x5)] dX12_dates_88 l_X12_334 st_X12_max rfl ⟨Nat.le_of_ble_eq_true rfl, Nat.le_of_ble_eq_true rfl⟩ ⟨Nat.le_of_ble_eq_true rfl, Nat.le_of_ble_eq_true rfl⟩ (Nat.le_of_ble_eq_true rfl) ?_
        refine p_X12_max ?_
        refine a_istore (pc := 91) dX12_dates_91 (Nat.le_of_ble_eq_true rfl) ?_
        refine a_iinc (pc := 93) dX12_dates_93 rfl h.1 (Nat.le_of_ble_eq_true rfl) ?_
        replace h := h.2
        refine a_goto (pc := 96) 23 dX12_dates_96 rfl ?_
        exact h
    · replace h := h.2 hc
      refine a_goto (pc := 44) 93 dX12_dates_44 rfl ?_
      refine a_iinc (pc := 93) dX12_dates_93 rfl h.1 (Nat.le_of_ble_eq_true rfl) ?_
      replace h := h.2
      refine a_goto (pc := 96) 23 dX12_dates_96 rfl ?_
      exact h
set_option maxRecDepth 20000 in
theorem s_X11_nearest_0 {Q : Int → Me → Prop}  (a b : Int) (M : Me) (h :
    ((0 ≤ a ∧ a < M 3 8 →
    ((b = 0 →
    Go (km 2 mX11_nearest Q) 29 [some (.inr 0), some (.inl a), some (.inl b), some (.inl (-2)), some (.inl (-2)), some (.inl 0), none] [] M) ∧ (b ≠ 0 →
    ((b = 1 →
    Go (km 2 mX11_nearest Q) 29 [some (.inr 0), some (.inl a), some (.inl b), some (.inl (-2)), some (.inl (-2)), some (.inl 0), none] [] M) ∧ (b ≠ 1 →
    Q (-1) M))))) ∧ (¬ (0 ≤ a ∧ a < M 3 8) →
    Q (-1) M))) :
    Go (km 2 mX11_nearest Q) 0 [some (.inr 0), some (.inl a), some (.inl b), none, none, none, none] [] M := by
  refine a_aload_n (pc := 0) dX11_nearest_0 rfl ?_
  refine a_iload_n (pc := 1) dX11_nearest_1 rfl ?_
  refine a_callVi (pc := 2) (d := 0) (st := []) (o := 0) [.inl a] dX11_nearest_2 l_X11_104 in_X11_isCut se_X11_isCut rfl rfl rfl ⟨Nat.le_of_ble_eq_true rfl, Nat.le_of_ble_eq_true rfl⟩ ⟨Nat.le_of_ble_eq_true rfl, Nat.le_of_ble_eq_true rfl⟩ (Nat.le_of_ble_eq_true rfl) ?_
  refine p_X11_isCut ⟨fun hc => ?_, fun hc => ?_⟩
  · replace h := h.1 hc
    refine a_if_eq (pc := 5) 17 dX11_nearest_5 rfl ⟨fun hc => absurd hc (by decide), fun _ => ?_⟩
    refine a_iload_n (pc := 8) dX11_nearest_8 rfl ?_
    refine a_if_eq (pc := 9) 19 dX11_nearest_9 rfl ⟨fun hc => ?_, fun hc => ?_⟩
    · replace h := h.1 hc
      refine a_bipush (pc := 19) dX11_nearest_19 (by decide) (cnb rfl) ?_
      refine a_istore_n (pc := 21) dX11_nearest_21 (Nat.le_of_ble_eq_true rfl) ?_
      refine a_bipush (pc := 22) dX11_nearest_22 (by decide) (cnb rfl) ?_
      refine a_istore (pc := 24) dX11_nearest_24 (Nat.le_of_ble_eq_true rfl) ?_
      refine a_iconst (pc := 26) dX11_nearest_26 (cnb rfl) ?_
      refine a_istore (pc := 27) dX11_nearest_27 (Nat.le_of_ble_eq_true rfl) ?_
      exact h
    · replace h := h.2 hc
      refine a_iload_n (pc := 12) dX11_nearest_12 rfl ?_
      refine a_iconst (pc := 13) dX11_nearest_13 (cnb rfl) ?_
      refine a_icmp_eq (pc := 14) 19 dX11_nearest_14 rfl ⟨fun hc => ?_, fun hc => ?_⟩
      · replace h := h.1 hc
        refine a_bipush (pc := 19) dX11_nearest_19 (by decide) (cnb rfl) ?_
        refine a_istore_n (pc := 21) dX11_nearest_21 (Nat.le_of_ble_eq_true rfl) ?_
        refine a_bipush (pc := 22) dX11_nearest_22 (by decide) (cnb rfl) ?_
        refine a_istore (pc := 24) dX11_nearest_24 (Nat.le_of_ble_eq_true rfl) ?_
        refine a_iconst (pc := 26) dX11_nearest_26 (cnb rfl) ?_
        refine a_istore (pc := 27) dX11_nearest_27 (Nat.le_of_ble_eq_true rfl) ?_
        exact h
      · replace h := h.2 hc
        refine a_iconst (pc := 17) dX11_nearest_17 (cnb rfl) ?_
        exact a_iretI (pc := 18) dX11_nearest_18 rfl h
  · replace h := h.2 hc
    refine a_if_eq (pc := 5) 17 dX11_nearest_5 rfl ⟨fun _ => ?_, fun hc => absurd hc (by decide)⟩
    refine a_iconst (pc := 17) dX11_nearest_17 (cnb rfl) ?_
    exact a_iretI (pc := 18) dX11_nearest_18 rfl h
set_option maxRecDepth 20000 in
theorem e_X11_nearest {Q : Int → Me → Prop}  {a b : Int} {M : Me} (h :
    ((0 ≤ a ∧ a < M 3 8 →
    ((b = 0 →
    Go (km 2 mX11_nearest Q) 29 [some (.inr 0), some (.inl a), some (.inl b), some (.inl (-2)), some (.inl (-2)), some (.inl 0), none] [] M) ∧ (b ≠ 0 →
    ((b = 1 →
    Go (km 2 mX11_nearest Q) 29 [some (.inr 0), some (.inl a), some (.inl b), some (.inl (-2)), some (.inl (-2)), some (.inl 0), none] [] M) ∧ (b ≠ 1 →
    Q (-1) M))))) ∧ (¬ (0 ≤ a ∧ a < M 3 8) →
    Q (-1) M))) : Calls 2 mX11_nearest [.inr 0, .inl a, .inl b] M Q := Calls.of (by decide) (Nat.le_of_ble_eq_true rfl) (s_X11_nearest_0  a b M h)
set_option maxRecDepth 20000 in
theorem s_X11_nearest_29 {Q : Int → Me → Prop}  (x1 x2 x3 x4 x5 : Int) (M : Me) (h :
    ((M 3 8 ≤ x5 →
    ((x2 ≠ 0 →
    Q x4 M) ∧ (x2 = 0 →
    Q x3 M))) ∧ (x5 < M 3 8 →
    (0 ≤ x1 ∧ x1 < 16) ∧
    (0 ≤ x5 ∧ x5 < 16) ∧
    0 ≤ M 39 x1 ∧
    0 ≤ M 39 x5 ∧
    ((x5 = x1 →
    cn (x5 + 1) ∧
    Go (km 2 mX11_nearest Q) 29 [some (.inr 0), some (.inl x1), some (.inl x2), some (.inl x3), some (.inl x4), some (.inl (x5 + 1)), none] [] M) ∧ (x5 ≠ x1 →
    ((x3 = (-2) →
    cn (x5 + 1) ∧
    Go (km 2 mX11_nearest Q) 29 [some (.inr 0), some (.inl x1), some (.inl x2), some (.inl x5), some (.inl (dst (M 39 x1) (M 39 x5))), some (.inl (x5 + 1)), none] [] M) ∧ (x3 ≠ (-2) →
    ((x4 ≤ dst (M 39 x1) (M 39 x5) →
    cn (x5 + 1) ∧
    Go (km 2 mX11_nearest Q) 29 [some (.inr 0), some (.inl x1), some (.inl x2), some (.inl x3), some (.inl x4), some (.inl (x5 + 1)), none] [] M) ∧ (dst (M 39 x1) (M 39 x5) < x4 →
    cn (x5 + 1) ∧
    Go (km 2 mX11_nearest Q) 29 [some (.inr 0), some (.inl x1), some (.inl x2), some (.inl x5), some (.inl (dst (M 39 x1) (M 39 x5))), some (.inl (x5 + 1)), none] [] M))))))))) :
    Go (km 2 mX11_nearest Q) 29 [some (.inr 0), some (.inl x1), some (.inl x2), some (.inl x3), some (.inl x4), some (.inl x5), none] [] M := by
  refine a_iload (pc := 29) dX11_nearest_29 rfl ?_
  refine a_aload_n (pc := 31) dX11_nearest_31 rfl ?_
  refine a_getr (pc := 32) dX11_nearest_32 f_X11_19 rfl ?_
  refine a_geti (pc := 35) 8 dX11_nearest_35 f_X11_155 rfl rfl ?_
  refine a_icmp_ge (pc := 38) 97 dX11_nearest_38 rfl ⟨fun hc => ?_, fun hc => ?_⟩
  · replace h := h.1 hc
    refine a_iload_n (pc := 97) dX11_nearest_97 rfl ?_
    refine a_if_ne (pc := 98) 105 dX11_nearest_98 rfl ⟨fun hc => ?_, fun hc => ?_⟩
    · replace h := h.1 hc
      refine a_iload (pc := 105) dX11_nearest_105 rfl ?_
      exact a_iretI (pc := 107) dX11_nearest_107 rfl h
    · replace h := h.2 hc
      refine a_iload_n (pc := 101) dX11_nearest_101 rfl ?_
      refine a_goto (pc := 102) 107 dX11_nearest_102 rfl ?_
      exact a_iretI (pc := 107) dX11_nearest_107 rfl h
  · replace h := h.2 hc
    refine a_aload_n (pc := 41) dX11_nearest_41 rfl ?_
    refine a_getr (pc := 42) dX11_nearest_42 f_X11_49 rfl ?_
    refine a_getr (pc := 45) dX11_nearest_45 f_X11_163 rfl ?_
    refine a_iload_n (pc := 48) dX11_nearest_48 rfl ?_
    refine a_iald (pc := 49) dX11_nearest_49 rfl h.1.1 h.1.2  ?_
    replace h := h.2
    refine a_aload_n (pc := 50) dX11_nearest_50 rfl ?_
    refine a_getr (pc := 51) dX11_nearest_51 f_X11_49 rfl ?_
    refine a_getr (pc := 54) dX11_nearest_54 f_X11_163 rfl ?_
    refine a_iload (pc := 57) dX11_nearest_57 rfl ?_
    refine a_iald (pc := 59) dX11_nearest_59 rfl h.1.1 h.1.2  ?_
    replace h := h.2
    refine a_callSi (pc := 60) (d := 1) (st := []) [.inl (M 39 x1), .inl (M 39 x5)] dX11_nearest_60 l_X11_210 st_X11_steps rfl ⟨Nat.le_of_ble_eq_true rfl, Nat.le_of_ble_eq_true rfl⟩ ⟨Nat.le_of_ble_eq_true rfl, Nat.le_of_ble_eq_true rfl⟩ (Nat.le_of_ble_eq_true rfl) ?_
    have hp60_3 := h.1
    replace h := h.2
    have hp60_4 := h.1
    replace h := h.2
    refine p_X11_steps hp60_3 hp60_4 ?_
    refine a_istore (pc := 63) dX11_nearest_63 (Nat.le_of_ble_eq_true rfl) ?_
    refine a_iload (pc := 65) dX11_nearest_65 rfl ?_
    refine a_iload_n (pc := 67) dX11_nearest_67 rfl ?_
    refine a_icmp_eq (pc := 68) 91 dX11_nearest_68 rfl ⟨fun hc => ?_, fun hc => ?_⟩
    · replace h := h.1 hc
      refine a_iinc (pc := 91) dX11_nearest_91 rfl h.1 (Nat.le_of_ble_eq_true rfl) ?_
      replace h := h.2
      refine a_goto (pc := 94) 29 dX11_nearest_94 rfl ?_
      exact Go.weak h (And.intro rfl (And.intro rfl (And.intro rfl (And.intro rfl (And.intro rfl (And.intro rfl True.intro))))))
    · replace h := h.2 hc
      refine a_iload_n (pc := 71) dX11_nearest_71 rfl ?_
      refine a_bipush (pc := 72) dX11_nearest_72 (by decide) (cnb rfl) ?_
      refine a_icmp_eq (pc := 74) 84 dX11_nearest_74 rfl ⟨fun hc => ?_, fun hc => ?_⟩
      · replace h := h.1 hc
        refine a_iload (pc := 84) dX11_nearest_84 rfl ?_
        refine a_istore_n (pc := 86) dX11_nearest_86 (Nat.le_of_ble_eq_true rfl) ?_
        refine a_iload (pc := 87) dX11_nearest_87 rfl ?_
        refine a_istore (pc := 89) dX11_nearest_89 (Nat.le_of_ble_eq_true rfl) ?_
        refine a_iinc (pc := 91) dX11_nearest_91 rfl h.1 (Nat.le_of_ble_eq_true rfl) ?_
        replace h := h.2
        refine a_goto (pc := 94) 29 dX11_nearest_94 rfl ?_
        exact Go.weak h (And.intro rfl (And.intro rfl (And.intro rfl (And.intro rfl (And.intro rfl (And.intro rfl True.intro))))))
      · replace h := h.2 hc
        refine a_iload (pc := 77) dX11_nearest_77 rfl ?_
        refine a_iload (pc := 79) dX11_nearest_79 rfl ?_
        refine a_icmp_ge (pc := 81) 91 dX11_nearest_81 rfl ⟨fun hc => ?_, fun hc => ?_⟩
        · replace h := h.1 hc
          refine a_iinc (pc := 91) dX11_nearest_91 rfl h.1 (Nat.le_of_ble_eq_true rfl) ?_
          replace h := h.2
          refine a_goto (pc := 94) 29 dX11_nearest_94 rfl ?_
          exact Go.weak h (And.intro rfl (And.intro rfl (And.intro rfl (And.intro rfl (And.intro rfl (And.intro rfl True.intro))))))
        · replace h := h.2 hc
          refine a_iload (pc := 84) dX11_nearest_84 rfl ?_
          refine a_istore_n (pc := 86) dX11_nearest_86 (Nat.le_of_ble_eq_true rfl) ?_
          refine a_iload (pc := 87) dX11_nearest_87 rfl ?_
          refine a_istore (pc := 89) dX11_nearest_89 (Nat.le_of_ble_eq_true rfl) ?_
          refine a_iinc (pc := 91) dX11_nearest_91 rfl h.1 (Nat.le_of_ble_eq_true rfl) ?_
          replace h := h.2
          refine a_goto (pc := 94) 29 dX11_nearest_94 rfl ?_
          exact Go.weak h (And.intro rfl (And.intro rfl (And.intro rfl (And.intro rfl (And.intro rfl (And.intro rfl True.intro))))))
set_option maxRecDepth 20000 in
theorem s_X12_nearest_0 {Q : Int → Me → Prop}  (a b : Int) (M : Me) (h :
    0 ≤ M 76 11 ∧
    ((0 ≤ a ∧ a < M 76 11 →
    ((0 ≤ b ∧ b ≤ 1 →
    Go (km 2 mX12_nearest Q) 29 [some (.inr 76), some (.inl a), some (.inl b), some (.inl (-2)), some (.inl (-2)), some (.inl 0), none] [] M) ∧ (¬ (0 ≤ b ∧ b ≤ 1) →
    Q (-1) M))) ∧ (¬ (0 ≤ a ∧ a < M 76 11) →
    Q (-1) M))) :
    Go (km 2 mX12_nearest Q) 0 [some (.inr 76), some (.inl a), some (.inl b), none, none, none, none] [] M := by
  refine a_aload_n (pc := 0) dX12_nearest_0 rfl ?_
  refine a_iload_n (pc := 1) dX12_nearest_1 rfl ?_
  refine a_callVi (pc := 2) (d := 1) (st := []) (o := 76) [.inl a] dX12_nearest_2 l_X12_164 in_X12_isCut se_X12_isCut rfl rfl rfl ⟨Nat.le_of_ble_eq_true rfl, Nat.le_of_ble_eq_true rfl⟩ ⟨Nat.le_of_ble_eq_true rfl, Nat.le_of_ble_eq_true rfl⟩ (Nat.le_of_ble_eq_true rfl) ?_
  have hp2_1 := h.1
  replace h := h.2
  refine p_X12_isCut hp2_1 ⟨fun hc => ?_, fun hc => ?_⟩
  · replace h := h.1 hc
    refine a_if_eq (pc := 5) 17 dX12_nearest_5 rfl ⟨fun hc => absurd hc (by decide), fun _ => ?_⟩
    refine a_iload_n (pc := 8) dX12_nearest_8 rfl ?_
    refine a_iconst (pc := 9) dX12_nearest_9 (cnb rfl) ?_
    refine a_iconst (pc := 10) dX12_nearest_10 (cnb rfl) ?_
    refine a_callSi (pc := 11) (d := 0) (st := []) [.inl b, .inl 0, .inl 1] dX12_nearest_11 l_X12_156 st_X12_in rfl ⟨Nat.le_of_ble_eq_true rfl, Nat.le_of_ble_eq_true rfl⟩ ⟨Nat.le_of_ble_eq_true rfl, Nat.le_of_ble_eq_true rfl⟩ (Nat.le_of_ble_eq_true rfl) ?_
    refine p_X12_in ⟨fun hc => ?_, fun hc => ?_⟩
    · replace h := h.1 hc
      refine a_if_ne (pc := 14) 19 dX12_nearest_14 rfl ⟨fun _ => ?_, fun hc => absurd hc (by decide)⟩
      refine a_bipush (pc := 19) dX12_nearest_19 (by decide) (cnb rfl) ?_
      refine a_istore_n (pc := 21) dX12_nearest_21 (Nat.le_of_ble_eq_true rfl) ?_
      refine a_bipush (pc := 22) dX12_nearest_22 (by decide) (cnb rfl) ?_
      refine a_istore (pc := 24) dX12_nearest_24 (Nat.le_of_ble_eq_true rfl) ?_
      refine a_iconst (pc := 26) dX12_nearest_26 (cnb rfl) ?_
      refine a_istore (pc := 27) dX12_nearest_27 (Nat.le_of_ble_eq_true rfl) ?_
      exact h
    · replace h := h.2 hc
      refine a_if_ne (pc := 14) 19 dX12_nearest_14 rfl ⟨fun hc => absurd hc (by decide), fun _ => ?_⟩
      refine a_iconst (pc := 17) dX12_nearest_17 (cnb rfl) ?_
      exact a_iretI (pc := 18) dX12_nearest_18 rfl h
  · replace h := h.2 hc
    refine a_if_eq (pc := 5) 17 dX12_nearest_5 rfl ⟨fun _ => ?_, fun hc => absurd hc (by decide)⟩
    refine a_iconst (pc := 17) dX12_nearest_17 (cnb rfl) ?_
    exact a_iretI (pc := 18) dX12_nearest_18 rfl h
set_option maxRecDepth 20000 in
theorem e_X12_nearest {Q : Int → Me → Prop}  {a b : Int} {M : Me} (h :
    0 ≤ M 76 11 ∧
    ((0 ≤ a ∧ a < M 76 11 →
    ((0 ≤ b ∧ b ≤ 1 →
    Go (km 2 mX12_nearest Q) 29 [some (.inr 76), some (.inl a), some (.inl b), some (.inl (-2)), some (.inl (-2)), some (.inl 0), none] [] M) ∧ (¬ (0 ≤ b ∧ b ≤ 1) →
    Q (-1) M))) ∧ (¬ (0 ≤ a ∧ a < M 76 11) →
    Q (-1) M))) : Calls 2 mX12_nearest [.inr 76, .inl a, .inl b] M Q := Calls.of (by decide) (Nat.le_of_ble_eq_true rfl) (s_X12_nearest_0  a b M h)
set_option maxRecDepth 20000 in
theorem s_X12_nearest_29 {Q : Int → Me → Prop}  (x1 x2 x3 x4 x5 : Int) (M : Me) (h :
    ((M 76 11 ≤ x5 →
    ((x2 ≠ 0 →
    Q x4 M) ∧ (x2 = 0 →
    Q x3 M))) ∧ (x5 < M 76 11 →
    cn (16 + x1) ∧
    (0 ≤ 16 + x1 ∧ 16 + x1 < 82) ∧
    cn (16 + x5) ∧
    (0 ≤ 16 + x5 ∧ 16 + x5 < 82) ∧
    0 ≤ M 77 (16 + x1) ∧
    0 ≤ M 77 (16 + x5) ∧
    ((x5 = x1 →
    cn (x5 + 1) ∧
    Go (km 2 mX12_nearest Q) 29 [some (.inr 76), some (.inl x1), some (.inl x2), some (.inl x3), some (.inl x4), some (.inl (x5 + 1)), none] [] M) ∧ (x5 ≠ x1 →
    ((x3 = (-2) →
    cn (x5 + 1) ∧
    Go (km 2 mX12_nearest Q) 29 [some (.inr 76), some (.inl x1), some (.inl x2), some (.inl x5), some (.inl (dst (M 77 (16 + x1)) (M 77 (16 + x5)))), some (.inl (x5 + 1)), none] [] M) ∧ (x3 ≠ (-2) →
    ((dst (M 77 (16 + x1)) (M 77 (16 + x5)) < x4 →
    cn (x5 + 1) ∧
    Go (km 2 mX12_nearest Q) 29 [some (.inr 76), some (.inl x1), some (.inl x2), some (.inl x5), some (.inl (dst (M 77 (16 + x1)) (M 77 (16 + x5)))), some (.inl (x5 + 1)), none] [] M) ∧ (x4 ≤ dst (M 77 (16 + x1)) (M 77 (16 + x5)) →
    cn (x5 + 1) ∧
    Go (km 2 mX12_nearest Q) 29 [some (.inr 76), some (.inl x1), some (.inl x2), some (.inl x3), some (.inl x4), some (.inl (x5 + 1)), none] [] M))))))))) :
    Go (km 2 mX12_nearest Q) 29 [some (.inr 76), some (.inl x1), some (.inl x2), some (.inl x3), some (.inl x4), some (.inl x5), none] [] M := by
  refine a_iload (pc := 29) dX12_nearest_29 rfl ?_
  refine a_aload_n (pc := 31) dX12_nearest_31 rfl ?_
  refine a_geti (pc := 32) 11 dX12_nearest_32 f_X12_152 rfl rfl ?_
  refine a_icmp_ge (pc := 35) 97 dX12_nearest_35 rfl ⟨fun hc => ?_, fun hc => ?_⟩
  · replace h := h.1 hc
    refine a_iload_n (pc := 97) dX12_nearest_97 rfl ?_
    refine a_if_ne (pc := 98) 105 dX12_nearest_98 rfl ⟨fun hc => ?_, fun hc => ?_⟩
    · replace h := h.1 hc
      refine a_iload (pc := 105) dX12_nearest_105 rfl ?_
      exact a_iretI (pc := 107) dX12_nearest_107 rfl h
    · replace h := h.2 hc
      refine a_iload_n (pc := 101) dX12_nearest_101 rfl ?_
      refine a_goto (pc := 102) 107 dX12_nearest_102 rfl ?_
      exact a_iretI (pc := 107) dX12_nearest_107 rfl h
  · replace h := h.2 hc
    refine a_aload_n (pc := 38) dX12_nearest_38 rfl ?_
    refine a_getr (pc := 39) dX12_nearest_39 f_X12_7 rfl ?_
    refine a_bipush (pc := 42) dX12_nearest_42 (by decide) (cnb rfl) ?_
    refine a_iload_n (pc := 44) dX12_nearest_44 rfl ?_
    refine a_iadd (pc := 45) dX12_nearest_45 h.1 ?_
    replace h := h.2
    refine a_iald (pc := 46) dX12_nearest_46 rfl h.1.1 h.1.2  ?_
    replace h := h.2
    refine a_aload_n (pc := 47) dX12_nearest_47 rfl ?_
    refine a_getr (pc := 48) dX12_nearest_48 f_X12_7 rfl ?_
    refine a_bipush (pc := 51) dX12_nearest_51 (by decide) (cnb rfl) ?_
    refine a_iload (pc := 53) dX12_nearest_53 rfl ?_
    refine a_iadd (pc := 55) dX12_nearest_55 h.1 ?_
    replace h := h.2
    refine a_iald (pc := 56) dX12_nearest_56 rfl h.1.1 h.1.2  ?_
    replace h := h.2
    refine a_callSi (pc := 57) (d := 1) (st := []) [.inl (M 77 (16 + x1)), .inl (M 77 (16 + x5))] dX12_nearest_57 l_X12_303 st_X12_stepsBetween rfl ⟨Nat.le_of_ble_eq_true rfl, Nat.le_of_ble_eq_true rfl⟩ ⟨Nat.le_of_ble_eq_true rfl, Nat.le_of_ble_eq_true rfl⟩ (Nat.le_of_ble_eq_true rfl) ?_
    have hp57_5 := h.1
    replace h := h.2
    have hp57_6 := h.1
    replace h := h.2
    refine p_X12_stepsBetween hp57_5 hp57_6 ?_
    refine a_istore (pc := 60) dX12_nearest_60 (Nat.le_of_ble_eq_true rfl) ?_
    refine a_iload (pc := 62) dX12_nearest_62 rfl ?_
    refine a_iload_n (pc := 64) dX12_nearest_64 rfl ?_
    refine a_icmp_eq (pc := 65) 91 dX12_nearest_65 rfl ⟨fun hc => ?_, fun hc => ?_⟩
    · replace h := h.1 hc
      refine a_iinc (pc := 91) dX12_nearest_91 rfl h.1 (Nat.le_of_ble_eq_true rfl) ?_
      replace h := h.2
      refine a_goto (pc := 94) 29 dX12_nearest_94 rfl ?_
      exact Go.weak h (And.intro rfl (And.intro rfl (And.intro rfl (And.intro rfl (And.intro rfl (And.intro rfl True.intro))))))
    · replace h := h.2 hc
      refine a_iload_n (pc := 68) dX12_nearest_68 rfl ?_
      refine a_bipush (pc := 69) dX12_nearest_69 (by decide) (cnb rfl) ?_
      refine a_icmp_eq (pc := 71) 84 dX12_nearest_71 rfl ⟨fun hc => ?_, fun hc => ?_⟩
      · replace h := h.1 hc
        refine a_iload (pc := 84) dX12_nearest_84 rfl ?_
        refine a_istore_n (pc := 86) dX12_nearest_86 (Nat.le_of_ble_eq_true rfl) ?_
        refine a_iload (pc := 87) dX12_nearest_87 rfl ?_
        refine a_istore (pc := 89) dX12_nearest_89 (Nat.le_of_ble_eq_true rfl) ?_
        refine a_iinc (pc := 91) dX12_nearest_91 rfl h.1 (Nat.le_of_ble_eq_true rfl) ?_
        replace h := h.2
        refine a_goto (pc := 94) 29 dX12_nearest_94 rfl ?_
        exact Go.weak h (And.intro rfl (And.intro rfl (And.intro rfl (And.intro rfl (And.intro rfl (And.intro rfl True.intro))))))
      · replace h := h.2 hc
        refine a_iload (pc := 74) dX12_nearest_74 rfl ?_
        refine a_iload (pc := 76) dX12_nearest_76 rfl ?_
        refine a_icmp_lt (pc := 78) 84 dX12_nearest_78 rfl ⟨fun hc => ?_, fun hc => ?_⟩
        · replace h := h.1 hc
          refine a_iload (pc := 84) dX12_nearest_84 rfl ?_
          refine a_istore_n (pc := 86) dX12_nearest_86 (Nat.le_of_ble_eq_true rfl) ?_
          refine a_iload (pc := 87) dX12_nearest_87 rfl ?_
          refine a_istore (pc := 89) dX12_nearest_89 (Nat.le_of_ble_eq_true rfl) ?_
          refine a_iinc (pc := 91) dX12_nearest_91 rfl h.1 (Nat.le_of_ble_eq_true rfl) ?_
          replace h := h.2
          refine a_goto (pc := 94) 29 dX12_nearest_94 rfl ?_
          exact Go.weak h (And.intro rfl (And.intro rfl (And.intro rfl (And.intro rfl (And.intro rfl (And.intro rfl True.intro))))))
        · replace h := h.2 hc
          refine a_goto (pc := 81) 91 dX12_nearest_81 rfl ?_
          refine a_iinc (pc := 91) dX12_nearest_91 rfl h.1 (Nat.le_of_ble_eq_true rfl) ?_
          replace h := h.2
          refine a_goto (pc := 94) 29 dX12_nearest_94 rfl ?_
          exact Go.weak h (And.intro rfl (And.intro rfl (And.intro rfl (And.intro rfl (And.intro rfl (And.intro rfl True.intro))))))
set_option maxRecDepth 20000 in
theorem s_X8_bitsOf_0 {Q : Int → Me → Prop} {o : Nat} (ho : isX8 o) (a b : Int) (M : Me) (h :
    Go (km 0 mX8_bitsOf Q) 5 [some (.inr o), some (.inl a), some (.inl b), some (.inl 0), some (.inl 0)] [] M) :
    Go (km 0 mX8_bitsOf Q) 0 [some (.inr o), some (.inl a), some (.inl b), none, none] [] M := by
  obtain ⟨ss_o, hs_o⟩ := ob_X8 ho
  refine a_iconst (pc := 0) dX8_bitsOf_0 (cnb rfl) ?_
  refine a_istore_n (pc := 1) dX8_bitsOf_1 (Nat.le_of_ble_eq_true rfl) ?_
  refine a_iconst (pc := 2) dX8_bitsOf_2 (cnb rfl) ?_
  refine a_istore (pc := 3) dX8_bitsOf_3 (Nat.le_of_ble_eq_true rfl) ?_
  exact h
set_option maxRecDepth 20000 in
theorem e_X8_bitsOf {Q : Int → Me → Prop} {o : Nat} (ho : isX8 o) {a b : Int} {M : Me} (h :
    Go (km 0 mX8_bitsOf Q) 5 [some (.inr o), some (.inl a), some (.inl b), some (.inl 0), some (.inl 0)] [] M) : Calls 0 mX8_bitsOf [.inr o, .inl a, .inl b] M Q := Calls.of (by decide) (Nat.le_of_ble_eq_true rfl) (s_X8_bitsOf_0 ho a b M h)
set_option maxRecDepth 20000 in
theorem s_X8_bitsOf_5 {Q : Int → Me → Prop} {o : Nat} (ho : isX8 o) (x1 x2 x3 x4 : Int) (M : Me) (h :
    ((x2 ≤ x4 →
    Q x3 M) ∧ (x4 < x2 →
    ((16 ≤ x4 →
    Q x3 M) ∧ (x4 < 16 →
    (0 ≤ x4 ∧ x4 < 16) ∧
    ((M (o + 1) x4 ≠ x1 →
    cn (x4 + 1) ∧
    Go (km 0 mX8_bitsOf Q) 5 [some (.inr o), some (.inl x1), some (.inl x2), some (.inl x3), some (.inl (x4 + 1))] [] M) ∧ (M (o + 1) x4 = x1 →
    cn (x4 + 1) ∧
    Go (km 0 mX8_bitsOf Q) 5 [some (.inr o), some (.inl x1), some (.inl x2), some (.inl (bor x3 (bshl 1 x4))), some (.inl (x4 + 1))] [] M))))))) :
    Go (km 0 mX8_bitsOf Q) 5 [some (.inr o), some (.inl x1), some (.inl x2), some (.inl x3), some (.inl x4)] [] M := by
  obtain ⟨ss_o, hs_o⟩ := ob_X8 ho
  refine a_iload (pc := 5) dX8_bitsOf_5 rfl ?_
  refine a_iload_n (pc := 7) dX8_bitsOf_7 rfl ?_
  refine a_icmp_ge (pc := 8) 42 dX8_bitsOf_8 rfl ⟨fun hc => ?_, fun hc => ?_⟩
  · replace h := h.1 hc
    refine a_iload_n (pc := 42) dX8_bitsOf_42 rfl ?_
    exact a_iretI (pc := 43) dX8_bitsOf_43 rfl h
  · replace h := h.2 hc
    refine a_iload (pc := 11) dX8_bitsOf_11 rfl ?_
    refine a_bipush (pc := 13) dX8_bitsOf_13 (by decide) (cnb rfl) ?_
    refine a_icmp_ge (pc := 15) 42 dX8_bitsOf_15 rfl ⟨fun hc => ?_, fun hc => ?_⟩
    · replace h := h.1 hc
      refine a_iload_n (pc := 42) dX8_bitsOf_42 rfl ?_
      exact a_iretI (pc := 43) dX8_bitsOf_43 rfl h
    · replace h := h.2 hc
      refine a_aload_n (pc := 18) dX8_bitsOf_18 rfl ?_
      refine a_getr (pc := 19) dX8_bitsOf_19 f_X8_9 (fr_X8_0 ho) ?_
      refine a_iload (pc := 22) dX8_bitsOf_22 rfl ?_
      refine a_iald (pc := 24) dX8_bitsOf_24 (ar_X8_0 ho) h.1.1 h.1.2  ?_
      replace h := h.2
      refine a_iload_n (pc := 25) dX8_bitsOf_25 rfl ?_
      refine a_icmp_ne (pc := 26) 36 dX8_bitsOf_26 rfl ⟨fun hc => ?_, fun hc => ?_⟩
      · replace h := h.1 hc
        refine a_iinc (pc := 36) dX8_bitsOf_36 rfl h.1 (Nat.le_of_ble_eq_true rfl) ?_
        replace h := h.2
        refine a_goto (pc := 39) 5 dX8_bitsOf_39 rfl ?_
        exact h
      · replace h := h.2 hc
        refine a_iload_n (pc := 29) dX8_bitsOf_29 rfl ?_
        refine a_iconst (pc := 30) dX8_bitsOf_30 (cnb rfl) ?_
        refine a_iload (pc := 31) dX8_bitsOf_31 rfl ?_
        refine a_ishl (pc := 33) dX8_bitsOf_33 ?_
        refine a_ior (pc := 34) dX8_bitsOf_34 ?_
        refine a_istore_n (pc := 35) dX8_bitsOf_35 (Nat.le_of_ble_eq_true rfl) ?_
        refine a_iinc (pc := 36) dX8_bitsOf_36 rfl h.1 (Nat.le_of_ble_eq_true rfl) ?_
        replace h := h.2
        refine a_goto (pc := 39) 5 dX8_bitsOf_39 rfl ?_
        exact h
set_option maxRecDepth 20000 in
theorem s_X12_setOf_0 {Q : Int → Me → Prop}  (a : Int) (M : Me) (h :
    Go (km 0 mX12_setOf Q) 4 [some (.inr 76), some (.inl a), some (.inl 0), some (.inl 0)] [] M) :
    Go (km 0 mX12_setOf Q) 0 [some (.inr 76), some (.inl a), none, none] [] M := by
  refine a_iconst (pc := 0) dX12_setOf_0 (cnb rfl) ?_
  refine a_istore_n (pc := 1) dX12_setOf_1 (Nat.le_of_ble_eq_true rfl) ?_
  refine a_iconst (pc := 2) dX12_setOf_2 (cnb rfl) ?_
  refine a_istore_n (pc := 3) dX12_setOf_3 (Nat.le_of_ble_eq_true rfl) ?_
  exact h
set_option maxRecDepth 20000 in
theorem e_X12_setOf {Q : Int → Me → Prop}  {a : Int} {M : Me} (h :
    Go (km 0 mX12_setOf Q) 4 [some (.inr 76), some (.inl a), some (.inl 0), some (.inl 0)] [] M) : Calls 0 mX12_setOf [.inr 76, .inl a] M Q := Calls.of (by decide) (Nat.le_of_ble_eq_true rfl) (s_X12_setOf_0  a M h)
set_option maxRecDepth 20000 in
theorem s_X12_setOf_4 {Q : Int → Me → Prop}  (x1 x2 x3 : Int) (M : Me) (h :
    ((M 76 11 ≤ x3 →
    Q x2 M) ∧ (x3 < M 76 11 →
    cn (0 + x3) ∧
    (0 ≤ 0 + x3 ∧ 0 + x3 < 82) ∧
    ((M 77 (0 + x3) ≠ x1 →
    cn (x3 + 1) ∧
    Go (km 0 mX12_setOf Q) 4 [some (.inr 76), some (.inl x1), some (.inl x2), some (.inl (x3 + 1))] [] M) ∧ (M 77 (0 + x3) = x1 →
    cn (x3 + 1) ∧
    Go (km 0 mX12_setOf Q) 4 [some (.inr 76), some (.inl x1), some (.inl (bor x2 (bshl 1 x3))), some (.inl (x3 + 1))] [] M))))) :
    Go (km 0 mX12_setOf Q) 4 [some (.inr 76), some (.inl x1), some (.inl x2), some (.inl x3)] [] M := by
  refine a_iload_n (pc := 4) dX12_setOf_4 rfl ?_
  refine a_aload_n (pc := 5) dX12_setOf_5 rfl ?_
  refine a_geti (pc := 6) 11 dX12_setOf_6 f_X12_152 rfl rfl ?_
  refine a_icmp_ge (pc := 9) 36 dX12_setOf_9 rfl ⟨fun hc => ?_, fun hc => ?_⟩
  · replace h := h.1 hc
    refine a_iload_n (pc := 36) dX12_setOf_36 rfl ?_
    exact a_iretI (pc := 37) dX12_setOf_37 rfl h
  · replace h := h.2 hc
    refine a_aload_n (pc := 12) dX12_setOf_12 rfl ?_
    refine a_getr (pc := 13) dX12_setOf_13 f_X12_7 rfl ?_
    refine a_iconst (pc := 16) dX12_setOf_16 (cnb rfl) ?_
    refine a_iload_n (pc := 17) dX12_setOf_17 rfl ?_
    refine a_iadd (pc := 18) dX12_setOf_18 h.1 ?_
    replace h := h.2
    refine a_iald (pc := 19) dX12_setOf_19 rfl h.1.1 h.1.2  ?_
    replace h := h.2
    refine a_iload_n (pc := 20) dX12_setOf_20 rfl ?_
    refine a_icmp_ne (pc := 21) 30 dX12_setOf_21 rfl ⟨fun hc => ?_, fun hc => ?_⟩
    · replace h := h.1 hc
      refine a_iinc (pc := 30) dX12_setOf_30 rfl h.1 (Nat.le_of_ble_eq_true rfl) ?_
      replace h := h.2
      refine a_goto (pc := 33) 4 dX12_setOf_33 rfl ?_
      exact h
    · replace h := h.2 hc
      refine a_iload_n (pc := 24) dX12_setOf_24 rfl ?_
      refine a_iconst (pc := 25) dX12_setOf_25 (cnb rfl) ?_
      refine a_iload_n (pc := 26) dX12_setOf_26 rfl ?_
      refine a_ishl (pc := 27) dX12_setOf_27 ?_
      refine a_ior (pc := 28) dX12_setOf_28 ?_
      refine a_istore_n (pc := 29) dX12_setOf_29 (Nat.le_of_ble_eq_true rfl) ?_
      refine a_iinc (pc := 30) dX12_setOf_30 rfl h.1 (Nat.le_of_ble_eq_true rfl) ?_
      replace h := h.2
      refine a_goto (pc := 33) 4 dX12_setOf_33 rfl ?_
      exact h
set_option maxRecDepth 20000 in
theorem s_X8_calledByAll_0 {Q : Int → Me → Prop} {o : Nat} (ho : isX8 o) (a : Int) (M : Me) (h :
    Go (km 0 mX8_calledByAll Q) 4 [some (.inr o), some (.inl a), some (.inl 0), some (.inl 0)] [] M) :
    Go (km 0 mX8_calledByAll Q) 0 [some (.inr o), some (.inl a), none, none] [] M := by
  obtain ⟨ss_o, hs_o⟩ := ob_X8 ho
  refine a_iconst (pc := 0) dX8_calledByAll_0 (cnb rfl) ?_
  refine a_istore_n (pc := 1) dX8_calledByAll_1 (Nat.le_of_ble_eq_true rfl) ?_
  refine a_iconst (pc := 2) dX8_calledByAll_2 (cnb rfl) ?_
  refine a_istore_n (pc := 3) dX8_calledByAll_3 (Nat.le_of_ble_eq_true rfl) ?_
  exact h
set_option maxRecDepth 20000 in
theorem e_X8_calledByAll {Q : Int → Me → Prop} {o : Nat} (ho : isX8 o) {a : Int} {M : Me} (h :
    Go (km 0 mX8_calledByAll Q) 4 [some (.inr o), some (.inl a), some (.inl 0), some (.inl 0)] [] M) : Calls 0 mX8_calledByAll [.inr o, .inl a] M Q := Calls.of (by decide) (Nat.le_of_ble_eq_true rfl) (s_X8_calledByAll_0 ho a M h)
set_option maxRecDepth 20000 in
theorem s_X8_calledByAll_4 {Q : Int → Me → Prop} {o : Nat} (ho : isX8 o) (x1 x2 x3 : Int) (M : Me) (h :
    ((x1 ≤ x3 →
    Q x2 M) ∧ (x3 < x1 →
    ((16 ≤ x3 →
    Q x2 M) ∧ (x3 < 16 →
    (0 ≤ x3 ∧ x3 < 16) ∧
    cn (x2 + (M (o + 4) x3)) ∧
    cn (x3 + 1) ∧
    Go (km 0 mX8_calledByAll Q) 4 [some (.inr o), some (.inl x1), some (.inl (x2 + (M (o + 4) x3))), some (.inl (x3 + 1))] [] M))))) :
    Go (km 0 mX8_calledByAll Q) 4 [some (.inr o), some (.inl x1), some (.inl x2), some (.inl x3)] [] M := by
  obtain ⟨ss_o, hs_o⟩ := ob_X8 ho
  refine a_iload_n (pc := 4) dX8_calledByAll_4 rfl ?_
  refine a_iload_n (pc := 5) dX8_calledByAll_5 rfl ?_
  refine a_icmp_ge (pc := 6) 30 dX8_calledByAll_6 rfl ⟨fun hc => ?_, fun hc => ?_⟩
  · replace h := h.1 hc
    refine a_iload_n (pc := 30) dX8_calledByAll_30 rfl ?_
    exact a_iretI (pc := 31) dX8_calledByAll_31 rfl h
  · replace h := h.2 hc
    refine a_iload_n (pc := 9) dX8_calledByAll_9 rfl ?_
    refine a_bipush (pc := 10) dX8_calledByAll_10 (by decide) (cnb rfl) ?_
    refine a_icmp_ge (pc := 12) 30 dX8_calledByAll_12 rfl ⟨fun hc => ?_, fun hc => ?_⟩
    · replace h := h.1 hc
      refine a_iload_n (pc := 30) dX8_calledByAll_30 rfl ?_
      exact a_iretI (pc := 31) dX8_calledByAll_31 rfl h
    · replace h := h.2 hc
      refine a_iload_n (pc := 15) dX8_calledByAll_15 rfl ?_
      refine a_aload_n (pc := 16) dX8_calledByAll_16 rfl ?_
      refine a_getr (pc := 17) dX8_calledByAll_17 f_X8_21 (fr_X8_3 ho) ?_
      refine a_iload_n (pc := 20) dX8_calledByAll_20 rfl ?_
      refine a_iald (pc := 21) dX8_calledByAll_21 (ar_X8_3 ho) h.1.1 h.1.2  ?_
      replace h := h.2
      refine a_iadd (pc := 22) dX8_calledByAll_22 h.1 ?_
      replace h := h.2
      refine a_istore_n (pc := 23) dX8_calledByAll_23 (Nat.le_of_ble_eq_true rfl) ?_
      refine a_iinc (pc := 24) dX8_calledByAll_24 rfl h.1 (Nat.le_of_ble_eq_true rfl) ?_
      replace h := h.2
      refine a_goto (pc := 27) 4 dX8_calledByAll_27 rfl ?_
      exact h
set_option maxRecDepth 20000 in
theorem s_X12_callsOfAll_0 {Q : Int → Me → Prop}  (M : Me) (h :
    Go (km 0 mX12_callsOfAll Q) 4 [some (.inr 76), some (.inl 0), some (.inl 0)] [] M) :
    Go (km 0 mX12_callsOfAll Q) 0 [some (.inr 76), none, none] [] M := by
  refine a_iconst (pc := 0) dX12_callsOfAll_0 (cnb rfl) ?_
  refine a_istore_n (pc := 1) dX12_callsOfAll_1 (Nat.le_of_ble_eq_true rfl) ?_
  refine a_iconst (pc := 2) dX12_callsOfAll_2 (cnb rfl) ?_
  refine a_istore_n (pc := 3) dX12_callsOfAll_3 (Nat.le_of_ble_eq_true rfl) ?_
  exact h
set_option maxRecDepth 20000 in
theorem e_X12_callsOfAll {Q : Int → Me → Prop}  {M : Me} (h :
    Go (km 0 mX12_callsOfAll Q) 4 [some (.inr 76), some (.inl 0), some (.inl 0)] [] M) : Calls 0 mX12_callsOfAll [.inr 76] M Q := Calls.of (by decide) (Nat.le_of_ble_eq_true rfl) (s_X12_callsOfAll_0   M h)
set_option maxRecDepth 20000 in
theorem s_X12_callsOfAll_4 {Q : Int → Me → Prop}  (x1 x2 : Int) (M : Me) (h :
    ((M 76 11 ≤ x2 →
    Q x1 M) ∧ (x2 < M 76 11 →
    cn (48 + x2) ∧
    (0 ≤ 48 + x2 ∧ 48 + x2 < 82) ∧
    cn (x1 + (M 77 (48 + x2))) ∧
    cn (x2 + 1) ∧
    Go (km 0 mX12_callsOfAll Q) 4 [some (.inr 76), some (.inl (x1 + (M 77 (48 + x2)))), some (.inl (x2 + 1))] [] M))) :
    Go (km 0 mX12_callsOfAll Q) 4 [some (.inr 76), some (.inl x1), some (.inl x2)] [] M := by
  refine a_iload_n (pc := 4) dX12_callsOfAll_4 rfl ?_
  refine a_aload_n (pc := 5) dX12_callsOfAll_5 rfl ?_
  refine a_geti (pc := 6) 11 dX12_callsOfAll_6 f_X12_152 rfl rfl ?_
  refine a_icmp_ge (pc := 9) 30 dX12_callsOfAll_9 rfl ⟨fun hc => ?_, fun hc => ?_⟩
  · replace h := h.1 hc
    refine a_iload_n (pc := 30) dX12_callsOfAll_30 rfl ?_
    exact a_iretI (pc := 31) dX12_callsOfAll_31 rfl h
  · replace h := h.2 hc
    refine a_iload_n (pc := 12) dX12_callsOfAll_12 rfl ?_
    refine a_aload_n (pc := 13) dX12_callsOfAll_13 rfl ?_
    refine a_getr (pc := 14) dX12_callsOfAll_14 f_X12_7 rfl ?_
    refine a_bipush (pc := 17) dX12_callsOfAll_17 (by decide) (cnb rfl) ?_
    refine a_iload_n (pc := 19) dX12_callsOfAll_19 rfl ?_
    refine a_iadd (pc := 20) dX12_callsOfAll_20 h.1 ?_
    replace h := h.2
    refine a_iald (pc := 21) dX12_callsOfAll_21 rfl h.1.1 h.1.2  ?_
    replace h := h.2
    refine a_iadd (pc := 22) dX12_callsOfAll_22 h.1 ?_
    replace h := h.2
    refine a_istore_n (pc := 23) dX12_callsOfAll_23 (Nat.le_of_ble_eq_true rfl) ?_
    refine a_iinc (pc := 24) dX12_callsOfAll_24 rfl h.1 (Nat.le_of_ble_eq_true rfl) ?_
    replace h := h.2
    refine a_goto (pc := 27) 4 dX12_callsOfAll_27 rfl ?_
    exact h
