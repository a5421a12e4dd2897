set_option maxRecDepth 20000 in
theorem s_X12_isCut_0 {Q : Int → Me → Prop}  (a : Int) (M : Me) (h :
    cn ((M 76 11) - 1) ∧
    ((0 ≤ a ∧ a ≤ (M 76 11) - 1 →
    Q 1 M) ∧ (¬ (0 ≤ a ∧ a ≤ (M 76 11) - 1) →
    Q 0 M))) :
    Go (km 1 mX12_isCut Q) 0 [some (.inr 76), some (.inl a)] [] M := by
  refine a_iload_n (pc := 0) dX12_isCut_0 rfl ?_
  refine a_iconst (pc := 1) dX12_isCut_1 (cnb rfl) ?_
  refine a_aload_n (pc := 2) dX12_isCut_2 rfl ?_
  refine a_geti (pc := 3) 11 dX12_isCut_3 f_X12_152 rfl rfl ?_
  refine a_iconst (pc := 6) dX12_isCut_6 (cnb rfl) ?_
  refine a_isub (pc := 7) dX12_isCut_7 h.1 ?_
  replace h := h.2
  refine a_callSi (pc := 8) (d := 0) (st := []) [.inl a, .inl 0, .inl ((M 76 11) - 1)] dX12_isCut_8 l_X12_156 st_X12_in rfl ⟨Nat.le_of_ble_eq_true rfl, Nat.le_of_ble_eq_true rfl⟩ ⟨Nat.le_of_ble_eq_true rfl, Nat.le_of_ble_eq_true rfl⟩ (Nat.le_of_ble_eq_true rfl) ?_
  refine p_X12_in ⟨fun hc => ?_, fun hc => ?_⟩
  · replace h := h.1 hc
    exact a_iretZ (pc := 11) dX12_isCut_11 rfl (by decide) h
  · replace h := h.2 hc
    exact a_iretZ (pc := 11) dX12_isCut_11 rfl (by decide) h
set_option maxRecDepth 20000 in
theorem e_X12_isCut {Q : Int → Me → Prop}  {a : Int} {M : Me} (h :
    cn ((M 76 11) - 1) ∧
    ((0 ≤ a ∧ a ≤ (M 76 11) - 1 →
    Q 1 M) ∧ (¬ (0 ≤ a ∧ a ≤ (M 76 11) - 1) →
    Q 0 M))) : Calls 1 mX12_isCut [.inr 76, .inl a] M Q := Calls.of (by decide) (Nat.le_of_ble_eq_true rfl) (s_X12_isCut_0  a M h)
set_option maxRecDepth 20000 in
theorem s_X11_who_0 {Q : Int → Me → Prop}  (a : Int) (M : Me) (h :
    ((a < 0 →
    Q (-1) M) ∧ (0 ≤ a →
    ((a < 16 →
    Go (km 0 mX11_who Q) 16 [some (.inr 0), some (.inl a), some (.inl 0), some (.inl 0)] [] M) ∧ (16 ≤ a →
    Q (-1) M))))) :
    Go (km 0 mX11_who Q) 0 [some (.inr 0), some (.inl a), none, none] [] M := by
  refine a_iload_n (pc := 0) dX11_who_0 rfl ?_
  refine a_if_lt (pc := 1) 10 dX11_who_1 rfl ⟨fun hc => ?_, fun hc => ?_⟩
  · replace h := h.1 hc
    refine a_iconst (pc := 10) dX11_who_10 (cnb rfl) ?_
    exact a_iretI (pc := 11) dX11_who_11 rfl h
  · replace h := h.2 hc
    refine a_iload_n (pc := 4) dX11_who_4 rfl ?_
    refine a_bipush (pc := 5) dX11_who_5 (by decide) (cnb rfl) ?_
    refine a_icmp_lt (pc := 7) 12 dX11_who_7 rfl ⟨fun hc => ?_, fun hc => ?_⟩
    · replace h := h.1 hc
      refine a_iconst (pc := 12) dX11_who_12 (cnb rfl) ?_
      refine a_istore_n (pc := 13) dX11_who_13 (Nat.le_of_ble_eq_true rfl) ?_
      refine a_iconst (pc := 14) dX11_who_14 (cnb rfl) ?_
      refine a_istore_n (pc := 15) dX11_who_15 (Nat.le_of_ble_eq_true rfl) ?_
      exact h
    · replace h := h.2 hc
      refine a_iconst (pc := 10) dX11_who_10 (cnb rfl) ?_
      exact a_iretI (pc := 11) dX11_who_11 rfl h
set_option maxRecDepth 20000 in
theorem e_X11_who {Q : Int → Me → Prop}  {a : Int} {M : Me} (h :
    ((a < 0 →
    Q (-1) M) ∧ (0 ≤ a →
    ((a < 16 →
    Go (km 0 mX11_who Q) 16 [some (.inr 0), some (.inl a), some (.inl 0), some (.inl 0)] [] M) ∧ (16 ≤ a →
    Q (-1) M))))) : Calls 0 mX11_who [.inr 0, .inl a] M Q := Calls.of (by decide) (Nat.le_of_ble_eq_true rfl) (s_X11_who_0  a M h)
set_option maxRecDepth 20000 in
theorem s_X11_who_16 {Q : Int → Me → Prop}  (x1 x2 x3 : Int) (M : Me) (h :
    ((M 3 8 ≤ x3 →
    Q x2 M) ∧ (x3 < M 3 8 →
    (0 ≤ x3 ∧ x3 < 16) ∧
    ((M 5 x3 = x1 →
    cn (x3 + 1) ∧
    Go (km 0 mX11_who Q) 16 [some (.inr 0), some (.inl x1), some (.inl (bor x2 (bshl 1 x3))), some (.inl (x3 + 1))] [] M) ∧ (M 5 x3 ≠ x1 →
    (0 ≤ x3 ∧ x3 < 16) ∧
    ((M 6 x3 ≠ x1 →
    cn (x3 + 1) ∧
    Go (km 0 mX11_who Q) 16 [some (.inr 0), some (.inl x1), some (.inl x2), some (.inl (x3 + 1))] [] M) ∧ (M 6 x3 = x1 →
    cn (x3 + 1) ∧
    Go (km 0 mX11_who Q) 16 [some (.inr 0), some (.inl x1), some (.inl (bor x2 (bshl 1 x3))), some (.inl (x3 + 1))] [] M))))))) :
    Go (km 0 mX11_who Q) 16 [some (.inr 0), some (.inl x1), some (.inl x2), some (.inl x3)] [] M := by
  refine a_iload_n (pc := 16) dX11_who_16 rfl ?_
  refine a_aload_n (pc := 17) dX11_who_17 rfl ?_
  refine a_getr (pc := 18) dX11_who_18 f_X11_19 rfl ?_
  refine a_geti (pc := 21) 8 dX11_who_21 f_X11_155 rfl rfl ?_
  refine a_icmp_ge (pc := 24) 65 dX11_who_24 rfl ⟨fun hc => ?_, fun hc => ?_⟩
  · replace h := h.1 hc
    refine a_iload_n (pc := 65) dX11_who_65 rfl ?_
    exact a_iretI (pc := 66) dX11_who_66 rfl h
  · replace h := h.2 hc
    refine a_aload_n (pc := 27) dX11_who_27 rfl ?_
    refine a_getr (pc := 28) dX11_who_28 f_X11_19 rfl ?_
    refine a_getr (pc := 31) dX11_who_31 f_X11_175 rfl ?_
    refine a_iload_n (pc := 34) dX11_who_34 rfl ?_
    refine a_iald (pc := 35) dX11_who_35 rfl h.1.1 h.1.2  ?_
    replace h := h.2
    refine a_iload_n (pc := 36) dX11_who_36 rfl ?_
    refine a_icmp_eq (pc := 37) 53 dX11_who_37 rfl ⟨fun hc => ?_, fun hc => ?_⟩
    · replace h := h.1 hc
      refine a_iload_n (pc := 53) dX11_who_53 rfl ?_
      refine a_iconst (pc := 54) dX11_who_54 (cnb rfl) ?_
      refine a_iload_n (pc := 55) dX11_who_55 rfl ?_
      refine a_ishl (pc := 56) dX11_who_56 ?_
      refine a_ior (pc := 57) dX11_who_57 ?_
      refine a_istore_n (pc := 58) dX11_who_58 (Nat.le_of_ble_eq_true rfl) ?_
      refine a_iinc (pc := 59) dX11_who_59 rfl h.1 (Nat.le_of_ble_eq_true rfl) ?_
      replace h := h.2
      refine a_goto (pc := 62) 16 dX11_who_62 rfl ?_
      exact h
    · replace h := h.2 hc
      refine a_aload_n (pc := 40) dX11_who_40 rfl ?_
      refine a_getr (pc := 41) dX11_who_41 f_X11_19 rfl ?_
      refine a_getr (pc := 44) dX11_who_44 f_X11_178 rfl ?_
      refine a_iload_n (pc := 47) dX11_who_47 rfl ?_
      refine a_iald (pc := 48) dX11_who_48 rfl h.1.1 h.1.2  ?_
      replace h := h.2
      refine a_iload_n (pc := 49) dX11_who_49 rfl ?_
      refine a_icmp_ne (pc := 50) 59 dX11_who_50 rfl ⟨fun hc => ?_, fun hc => ?_⟩
      · replace h := h.1 hc
        refine a_iinc (pc := 59) dX11_who_59 rfl h.1 (Nat.le_of_ble_eq_true rfl) ?_
        replace h := h.2
        refine a_goto (pc := 62) 16 dX11_who_62 rfl ?_
        exact h
      · replace h := h.2 hc
        refine a_iload_n (pc := 53) dX11_who_53 rfl ?_
        refine a_iconst (pc := 54) dX11_who_54 (cnb rfl) ?_
        refine a_iload_n (pc := 55) dX11_who_55 rfl ?_
        refine a_ishl (pc := 56) dX11_who_56 ?_
        refine a_ior (pc := 57) dX11_who_57 ?_
        refine a_istore_n (pc := 58) dX11_who_58 (Nat.le_of_ble_eq_true rfl) ?_
        refine a_iinc (pc := 59) dX11_who_59 rfl h.1 (Nat.le_of_ble_eq_true rfl) ?_
        replace h := h.2
        refine a_goto (pc := 62) 16 dX11_who_62 rfl ?_
        exact h
set_option maxRecDepth 20000 in
theorem s_X12_who_0 {Q : Int → Me → Prop}  (a : Int) (M : Me) (h :
    ((0 ≤ a ∧ a ≤ 15 →
    Go (km 1 mX12_who Q) 16 [some (.inr 76), some (.inl a), some (.inl 0), some (.inl 0)] [] M) ∧ (¬ (0 ≤ a ∧ a ≤ 15) →
    Q (-1) M))) :
    Go (km 1 mX12_who Q) 0 [some (.inr 76), some (.inl a), none, none] [] M := by
  refine a_iload_n (pc := 0) dX12_who_0 rfl ?_
  refine a_iconst (pc := 1) dX12_who_1 (cnb rfl) ?_
  refine a_bipush (pc := 2) dX12_who_2 (by decide) (cnb rfl) ?_
  refine a_callSi (pc := 4) (d := 0) (st := []) [.inl a, .inl 0, .inl 15] dX12_who_4 l_X12_156 st_X12_in rfl ⟨Nat.le_of_ble_eq_true rfl, Nat.le_of_ble_eq_true rfl⟩ ⟨Nat.le_of_ble_eq_true rfl, Nat.le_of_ble_eq_true rfl⟩ (Nat.le_of_ble_eq_true rfl) ?_
  refine p_X12_in ⟨fun hc => ?_, fun hc => ?_⟩
  · replace h := h.1 hc
    refine a_if_ne (pc := 7) 12 dX12_who_7 rfl ⟨fun _ => ?_, fun hc => absurd hc (by decide)⟩
    refine a_iconst (pc := 12) dX12_who_12 (cnb rfl) ?_
    refine a_istore_n (pc := 13) dX12_who_13 (Nat.le_of_ble_eq_true rfl) ?_
    refine a_iconst (pc := 14) dX12_who_14 (cnb rfl) ?_
    refine a_istore_n (pc := 15) dX12_who_15 (Nat.le_of_ble_eq_true rfl) ?_
    exact h
  · replace h := h.2 hc
    refine a_if_ne (pc := 7) 12 dX12_who_7 rfl ⟨fun hc => absurd hc (by decide), fun _ => ?_⟩
    refine a_iconst (pc := 10) dX12_who_10 (cnb rfl) ?_
    exact a_iretI (pc := 11) dX12_who_11 rfl h
set_option maxRecDepth 20000 in
theorem e_X12_who {Q : Int → Me → Prop}  {a : Int} {M : Me} (h :
    ((0 ≤ a ∧ a ≤ 15 →
    Go (km 1 mX12_who Q) 16 [some (.inr 76), some (.inl a), some (.inl 0), some (.inl 0)] [] M) ∧ (¬ (0 ≤ a ∧ a ≤ 15) →
    Q (-1) M))) : Calls 1 mX12_who [.inr 76, .inl a] M Q := Calls.of (by decide) (Nat.le_of_ble_eq_true rfl) (s_X12_who_0  a M h)
set_option maxRecDepth 20000 in
theorem s_X12_who_16 {Q : Int → Me → Prop}  (x1 x2 x3 : Int) (M : Me) (h :
    ((M 76 11 ≤ x3 →
    Q x2 M) ∧ (x3 < M 76 11 →
    (0 ≤ x3 ∧ x3 < 16) ∧
    ((M 81 x3 = x1 →
    cn (x3 + 1) ∧
    Go (km 1 mX12_who Q) 16 [some (.inr 76), some (.inl x1), some (.inl (bor x2 (bshl 1 x3))), some (.inl (x3 + 1))] [] M) ∧ (M 81 x3 ≠ x1 →
    (0 ≤ x3 ∧ x3 < 16) ∧
    ((M 82 x3 ≠ x1 →
    cn (x3 + 1) ∧
    Go (km 1 mX12_who Q) 16 [some (.inr 76), some (.inl x1), some (.inl x2), some (.inl (x3 + 1))] [] M) ∧ (M 82 x3 = x1 →
    cn (x3 + 1) ∧
    Go (km 1 mX12_who Q) 16 [some (.inr 76), some (.inl x1), some (.inl (bor x2 (bshl 1 x3))), some (.inl (x3 + 1))] [] M))))))) :
    Go (km 1 mX12_who Q) 16 [some (.inr 76), some (.inl x1), some (.inl x2), some (.inl x3)] [] M := by
  refine a_iload_n (pc := 16) dX12_who_16 rfl ?_
  refine a_aload_n (pc := 17) dX12_who_17 rfl ?_
  refine a_geti (pc := 18) 11 dX12_who_18 f_X12_152 rfl rfl ?_
  refine a_icmp_ge (pc := 21) 56 dX12_who_21 rfl ⟨fun hc => ?_, fun hc => ?_⟩
  · replace h := h.1 hc
    refine a_iload_n (pc := 56) dX12_who_56 rfl ?_
    exact a_iretI (pc := 57) dX12_who_57 rfl h
  · replace h := h.2 hc
    refine a_aload_n (pc := 24) dX12_who_24 rfl ?_
    refine a_getr (pc := 25) dX12_who_25 f_X12_22 rfl ?_
    refine a_iload_n (pc := 28) dX12_who_28 rfl ?_
    refine a_iald (pc := 29) dX12_who_29 rfl h.1.1 h.1.2  ?_
    replace h := h.2
    refine a_iload_n (pc := 30) dX12_who_30 rfl ?_
    refine a_icmp_eq (pc := 31) 44 dX12_who_31 rfl ⟨fun hc => ?_, fun hc => ?_⟩
    · replace h := h.1 hc
      refine a_iload_n (pc := 44) dX12_who_44 rfl ?_
      refine a_iconst (pc := 45) dX12_who_45 (cnb rfl) ?_
      refine a_iload_n (pc := 46) dX12_who_46 rfl ?_
      refine a_ishl (pc := 47) dX12_who_47 ?_
      refine a_ior (pc := 48) dX12_who_48 ?_
      refine a_istore_n (pc := 49) dX12_who_49 (Nat.le_of_ble_eq_true rfl) ?_
      refine a_iinc (pc := 50) dX12_who_50 rfl h.1 (Nat.le_of_ble_eq_true rfl) ?_
      replace h := h.2
      refine a_goto (pc := 53) 16 dX12_who_53 rfl ?_
      exact h
    · replace h := h.2 hc
      refine a_aload_n (pc := 34) dX12_who_34 rfl ?_
      refine a_getr (pc := 35) dX12_who_35 f_X12_25 rfl ?_
      refine a_iload_n (pc := 38) dX12_who_38 rfl ?_
      refine a_iald (pc := 39) dX12_who_39 rfl h.1.1 h.1.2  ?_
      replace h := h.2
      refine a_iload_n (pc := 40) dX12_who_40 rfl ?_
      refine a_icmp_ne (pc := 41) 50 dX12_who_41 rfl ⟨fun hc => ?_, fun hc => ?_⟩
      · replace h := h.1 hc
        refine a_iinc (pc := 50) dX12_who_50 rfl h.1 (Nat.le_of_ble_eq_true rfl) ?_
        replace h := h.2
        refine a_goto (pc := 53) 16 dX12_who_53 rfl ?_
        exact h
      · replace h := h.2 hc
        refine a_iload_n (pc := 44) dX12_who_44 rfl ?_
        refine a_iconst (pc := 45) dX12_who_45 (cnb rfl) ?_
        refine a_iload_n (pc := 46) dX12_who_46 rfl ?_
        refine a_ishl (pc := 47) dX12_who_47 ?_
        refine a_ior (pc := 48) dX12_who_48 ?_
        refine a_istore_n (pc := 49) dX12_who_49 (Nat.le_of_ble_eq_true rfl) ?_
        refine a_iinc (pc := 50) dX12_who_50 rfl h.1 (Nat.le_of_ble_eq_true rfl) ?_
        replace h := h.2
        refine a_goto (pc := 53) 16 dX12_who_53 rfl ?_
        exact h
