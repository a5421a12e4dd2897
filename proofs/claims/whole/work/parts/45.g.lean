set_option maxRecDepth 20000 in
theorem s_X1_dwellersAt_0 {Q : Int → Me → Prop} {o : Nat} (ho : isX1 o) (a : Int) (M : Me) (h :
    Go (km 0 mX1_dwellersAt Q) 4 [some (.inr o), some (.inl a), some (.inl 0), some (.inl 0)] [] M) :
    Go (km 0 mX1_dwellersAt Q) 0 [some (.inr o), some (.inl a), none, none] [] M := by
  obtain ⟨ss_o, hs_o⟩ := ob_X1 ho
  refine a_iconst (pc := 0) dX1_dwellersAt_0 (cnb rfl) ?_
  refine a_istore_n (pc := 1) dX1_dwellersAt_1 (Nat.le_of_ble_eq_true rfl) ?_
  refine a_iconst (pc := 2) dX1_dwellersAt_2 (cnb rfl) ?_
  refine a_istore_n (pc := 3) dX1_dwellersAt_3 (Nat.le_of_ble_eq_true rfl) ?_
  exact h
set_option maxRecDepth 20000 in
theorem e_X1_dwellersAt {Q : Int → Me → Prop} {o : Nat} (ho : isX1 o) {a : Int} {M : Me} (h :
    Go (km 0 mX1_dwellersAt Q) 4 [some (.inr o), some (.inl a), some (.inl 0), some (.inl 0)] [] M) : Calls 0 mX1_dwellersAt [.inr o, .inl a] M Q := Calls.of (by decide) (Nat.le_of_ble_eq_true rfl) (s_X1_dwellersAt_0 ho a M h)
set_option maxRecDepth 20000 in
theorem s_X1_dwellersAt_4 {Q : Int → Me → Prop} {o : Nat} (ho : isX1 o) (x1 x2 x3 : Int) (M : Me) (h :
    ((M o 8 ≤ x3 →
    Q x2 M) ∧ (x3 < M o 8 →
    (0 ≤ x3 ∧ x3 < 16) ∧
    ((M (o + 8) x3 ≠ x1 →
    cn (x3 + 1) ∧
    Go (km 0 mX1_dwellersAt Q) 4 [some (.inr o), some (.inl x1), some (.inl x2), some (.inl (x3 + 1))] [] M) ∧ (M (o + 8) x3 = x1 →
    cn (x2 + 1) ∧
    cn (x3 + 1) ∧
    Go (km 0 mX1_dwellersAt Q) 4 [some (.inr o), some (.inl x1), some (.inl (x2 + 1)), some (.inl (x3 + 1))] [] M))))) :
    Go (km 0 mX1_dwellersAt Q) 4 [some (.inr o), some (.inl x1), some (.inl x2), some (.inl x3)] [] M := by
  obtain ⟨ss_o, hs_o⟩ := ob_X1 ho
  refine a_iload_n (pc := 4) dX1_dwellersAt_4 rfl ?_
  refine a_aload_n (pc := 5) dX1_dwellersAt_5 rfl ?_
  refine a_geti (pc := 6) 8 dX1_dwellersAt_6 f_X1_36 (fi_X1_8 ho) rfl ?_
  refine a_icmp_ge (pc := 9) 31 dX1_dwellersAt_9 rfl ⟨fun hc => ?_, fun hc => ?_⟩
  · replace h := h.1 hc
    refine a_iload_n (pc := 31) dX1_dwellersAt_31 rfl ?_
    exact a_iretI (pc := 32) dX1_dwellersAt_32 rfl h
  · replace h := h.2 hc
    refine a_aload_n (pc := 12) dX1_dwellersAt_12 rfl ?_
    refine a_getr (pc := 13) dX1_dwellersAt_13 f_X1_33 (fr_X1_7 ho) ?_
    refine a_iload_n (pc := 16) dX1_dwellersAt_16 rfl ?_
    refine a_iald (pc := 17) dX1_dwellersAt_17 (ar_X1_7 ho) h.1.1 h.1.2  ?_
    replace h := h.2
    refine a_iload_n (pc := 18) dX1_dwellersAt_18 rfl ?_
    refine a_icmp_ne (pc := 19) 25 dX1_dwellersAt_19 rfl ⟨fun hc => ?_, fun hc => ?_⟩
    · replace h := h.1 hc
      refine a_iinc (pc := 25) dX1_dwellersAt_25 rfl h.1 (Nat.le_of_ble_eq_true rfl) ?_
      replace h := h.2
      refine a_goto (pc := 28) 4 dX1_dwellersAt_28 rfl ?_
      exact h
    · replace h := h.2 hc
      refine a_iinc (pc := 22) dX1_dwellersAt_22 rfl h.1 (Nat.le_of_ble_eq_true rfl) ?_
      replace h := h.2
      refine a_iinc (pc := 25) dX1_dwellersAt_25 rfl h.1 (Nat.le_of_ble_eq_true rfl) ?_
      replace h := h.2
      refine a_goto (pc := 28) 4 dX1_dwellersAt_28 rfl ?_
      exact h
set_option maxRecDepth 20000 in
theorem s_X12_homesAt_0 {Q : Int → Me → Prop}  (a : Int) (M : Me) (h :
    Go (km 0 mX12_homesAt Q) 4 [some (.inr 76), some (.inl a), some (.inl 0), some (.inl 0)] [] M) :
    Go (km 0 mX12_homesAt Q) 0 [some (.inr 76), some (.inl a), none, none] [] M := by
  refine a_iconst (pc := 0) dX12_homesAt_0 (cnb rfl) ?_
  refine a_istore_n (pc := 1) dX12_homesAt_1 (Nat.le_of_ble_eq_true rfl) ?_
  refine a_iconst (pc := 2) dX12_homesAt_2 (cnb rfl) ?_
  refine a_istore_n (pc := 3) dX12_homesAt_3 (Nat.le_of_ble_eq_true rfl) ?_
  exact h
set_option maxRecDepth 20000 in
theorem e_X12_homesAt {Q : Int → Me → Prop}  {a : Int} {M : Me} (h :
    Go (km 0 mX12_homesAt Q) 4 [some (.inr 76), some (.inl a), some (.inl 0), some (.inl 0)] [] M) : Calls 0 mX12_homesAt [.inr 76, .inl a] M Q := Calls.of (by decide) (Nat.le_of_ble_eq_true rfl) (s_X12_homesAt_0  a M h)
set_option maxRecDepth 20000 in
theorem s_X12_homesAt_4 {Q : Int → Me → Prop}  (x1 x2 x3 : Int) (M : Me) (h :
    ((M 76 11 ≤ x3 →
    Q x2 M) ∧ (x3 < M 76 11 →
    (0 ≤ x3 ∧ x3 < 16) ∧
    ((M 87 x3 ≠ x1 →
    cn (x3 + 1) ∧
    Go (km 0 mX12_homesAt Q) 4 [some (.inr 76), some (.inl x1), some (.inl x2), some (.inl (x3 + 1))] [] M) ∧ (M 87 x3 = x1 →
    cn (x2 + 1) ∧
    cn (x3 + 1) ∧
    Go (km 0 mX12_homesAt Q) 4 [some (.inr 76), some (.inl x1), some (.inl (x2 + 1)), some (.inl (x3 + 1))] [] M))))) :
    Go (km 0 mX12_homesAt Q) 4 [some (.inr 76), some (.inl x1), some (.inl x2), some (.inl x3)] [] M := by
  refine a_iload_n (pc := 4) dX12_homesAt_4 rfl ?_
  refine a_aload_n (pc := 5) dX12_homesAt_5 rfl ?_
  refine a_geti (pc := 6) 11 dX12_homesAt_6 f_X12_152 rfl rfl ?_
  refine a_icmp_ge (pc := 9) 32 dX12_homesAt_9 rfl ⟨fun hc => ?_, fun hc => ?_⟩
  · replace h := h.1 hc
    refine a_iload_n (pc := 32) dX12_homesAt_32 rfl ?_
    exact a_iretI (pc := 33) dX12_homesAt_33 rfl h
  · replace h := h.2 hc
    refine a_aload_n (pc := 12) dX12_homesAt_12 rfl ?_
    refine a_getr (pc := 13) dX12_homesAt_13 f_X12_40 rfl ?_
    refine a_iload_n (pc := 16) dX12_homesAt_16 rfl ?_
    refine a_iald (pc := 17) dX12_homesAt_17 rfl h.1.1 h.1.2  ?_
    replace h := h.2
    refine a_iload_n (pc := 18) dX12_homesAt_18 rfl ?_
    refine a_icmp_ne (pc := 19) 26 dX12_homesAt_19 rfl ⟨fun hc => ?_, fun hc => ?_⟩
    · replace h := h.1 hc
      refine a_iinc (pc := 26) dX12_homesAt_26 rfl h.1 (Nat.le_of_ble_eq_true rfl) ?_
      replace h := h.2
      refine a_goto (pc := 29) 4 dX12_homesAt_29 rfl ?_
      exact h
    · replace h := h.2 hc
      refine a_iload_n (pc := 22) dX12_homesAt_22 rfl ?_
      refine a_iconst (pc := 23) dX12_homesAt_23 (cnb rfl) ?_
      refine a_iadd (pc := 24) dX12_homesAt_24 h.1 ?_
      replace h := h.2
      refine a_istore_n (pc := 25) dX12_homesAt_25 (Nat.le_of_ble_eq_true rfl) ?_
      refine a_iinc (pc := 26) dX12_homesAt_26 rfl h.1 (Nat.le_of_ble_eq_true rfl) ?_
      replace h := h.2
      refine a_goto (pc := 29) 4 dX12_homesAt_29 rfl ?_
      exact h
set_option maxRecDepth 20000 in
theorem s_X11_busiest_0 {Q : Int → Me → Prop}  (a : Int) (M : Me) (h :
    ((a = 0 →
    Go (km 1 mX11_busiest Q) 19 [some (.inr 0), some (.inl a), some (.inl (-2)), some (.inl 0), some (.inl 0), none, none] [] M) ∧ (a ≠ 0 →
    ((a = 1 →
    Go (km 1 mX11_busiest Q) 19 [some (.inr 0), some (.inl a), some (.inl (-2)), some (.inl 0), some (.inl 0), none, none] [] M) ∧ (a ≠ 1 →
    Q (-1) M))))) :
    Go (km 1 mX11_busiest Q) 0 [some (.inr 0), some (.inl a), none, none, none, none, none] [] M := by
  refine a_iload_n (pc := 0) dX11_busiest_0 rfl ?_
  refine a_if_eq (pc := 1) 11 dX11_busiest_1 rfl ⟨fun hc => ?_, fun hc => ?_⟩
  · replace h := h.1 hc
    refine a_bipush (pc := 11) dX11_busiest_11 (by decide) (cnb rfl) ?_
    refine a_istore_n (pc := 13) dX11_busiest_13 (Nat.le_of_ble_eq_true rfl) ?_
    refine a_iconst (pc := 14) dX11_busiest_14 (cnb rfl) ?_
    refine a_istore_n (pc := 15) dX11_busiest_15 (Nat.le_of_ble_eq_true rfl) ?_
    refine a_iconst (pc := 16) dX11_busiest_16 (cnb rfl) ?_
    refine a_istore (pc := 17) dX11_busiest_17 (Nat.le_of_ble_eq_true rfl) ?_
    exact h
  · replace h := h.2 hc
    refine a_iload_n (pc := 4) dX11_busiest_4 rfl ?_
    refine a_iconst (pc := 5) dX11_busiest_5 (cnb rfl) ?_
    refine a_icmp_eq (pc := 6) 11 dX11_busiest_6 rfl ⟨fun hc => ?_, fun hc => ?_⟩
    · replace h := h.1 hc
      refine a_bipush (pc := 11) dX11_busiest_11 (by decide) (cnb rfl) ?_
      refine a_istore_n (pc := 13) dX11_busiest_13 (Nat.le_of_ble_eq_true rfl) ?_
      refine a_iconst (pc := 14) dX11_busiest_14 (cnb rfl) ?_
      refine a_istore_n (pc := 15) dX11_busiest_15 (Nat.le_of_ble_eq_true rfl) ?_
      refine a_iconst (pc := 16) dX11_busiest_16 (cnb rfl) ?_
      refine a_istore (pc := 17) dX11_busiest_17 (Nat.le_of_ble_eq_true rfl) ?_
      exact h
    · replace h := h.2 hc
      refine a_iconst (pc := 9) dX11_busiest_9 (cnb rfl) ?_
      exact a_iretI (pc := 10) dX11_busiest_10 rfl h
set_option maxRecDepth 20000 in
theorem e_X11_busiest {Q : Int → Me → Prop}  {a : Int} {M : Me} (h :
    ((a = 0 →
    Go (km 1 mX11_busiest Q) 19 [some (.inr 0), some (.inl a), some (.inl (-2)), some (.inl 0), some (.inl 0), none, none] [] M) ∧ (a ≠ 0 →
    ((a = 1 →
    Go (km 1 mX11_busiest Q) 19 [some (.inr 0), some (.inl a), some (.inl (-2)), some (.inl 0), some (.inl 0), none, none] [] M) ∧ (a ≠ 1 →
    Q (-1) M))))) : Calls 1 mX11_busiest [.inr 0, .inl a] M Q := Calls.of (by decide) (Nat.le_of_ble_eq_true rfl) (s_X11_busiest_0  a M h)
set_option maxRecDepth 20000 in
theorem s_X11_busiest_19 {Q : Int → Me → Prop}  (x1 x2 x3 x4 : Int) (M : Me) (h :
    ((M 3 8 ≤ x4 →
    ((x1 ≠ 0 →
    Q x3 M) ∧ (x1 = 0 →
    Q x2 M))) ∧ (x4 < M 3 8 →
    (0 ≤ x4 ∧ x4 < 16) ∧
    Calls 0 mX1_dwellersAt [.inr 3, .inl (M 11 x4)] M (fun r49 M49 =>
    ((x3 < r49 →
    cn (x4 + 1) ∧
    Go (km 1 mX11_busiest Q) 19 [some (.inr 0), some (.inl x1), some (.inl (M 11 x4)), some (.inl r49), some (.inl (x4 + 1)), none, none] [] M49) ∧ (r49 ≤ x3 →
    ((r49 ≠ x3 →
    cn (x4 + 1) ∧
    Go (km 1 mX11_busiest Q) 19 [some (.inr 0), some (.inl x1), some (.inl x2), some (.inl x3), some (.inl (x4 + 1)), none, none] [] M49) ∧ (r49 = x3 →
    ((x2 ≤ M 11 x4 →
    cn (x4 + 1) ∧
    Go (km 1 mX11_busiest Q) 19 [some (.inr 0), some (.inl x1), some (.inl x2), some (.inl x3), some (.inl (x4 + 1)), none, none] [] M49) ∧ (M 11 x4 < x2 →
    cn (x4 + 1) ∧
    Go (km 1 mX11_busiest Q) 19 [some (.inr 0), some (.inl x1), some (.inl (M 11 x4)), some (.inl r49), some (.inl (x4 + 1)), none, none] [] M49)))))))))) :
    Go (km 1 mX11_busiest Q) 19 [some (.inr 0), some (.inl x1), some (.inl x2), some (.inl x3), some (.inl x4), none, none] [] M := by
  refine a_iload (pc := 19) dX11_busiest_19 rfl ?_
  refine a_aload_n (pc := 21) dX11_busiest_21 rfl ?_
  refine a_getr (pc := 22) dX11_busiest_22 f_X11_19 rfl ?_
  refine a_geti (pc := 25) 8 dX11_busiest_25 f_X11_155 rfl rfl ?_
  refine a_icmp_ge (pc := 28) 84 dX11_busiest_28 rfl ⟨fun hc => ?_, fun hc => ?_⟩
  · replace h := h.1 hc
    refine a_iload_n (pc := 84) dX11_busiest_84 rfl ?_
    refine a_if_ne (pc := 85) 92 dX11_busiest_85 rfl ⟨fun hc => ?_, fun hc => ?_⟩
    · replace h := h.1 hc
      refine a_iload_n (pc := 92) dX11_busiest_92 rfl ?_
      exact a_iretI (pc := 93) dX11_busiest_93 rfl h
    · replace h := h.2 hc
      refine a_iload_n (pc := 88) dX11_busiest_88 rfl ?_
      refine a_goto (pc := 89) 93 dX11_busiest_89 rfl ?_
      exact a_iretI (pc := 93) dX11_busiest_93 rfl h
  · replace h := h.2 hc
    refine a_aload_n (pc := 31) dX11_busiest_31 rfl ?_
    refine a_getr (pc := 32) dX11_busiest_32 f_X11_19 rfl ?_
    refine a_getr (pc := 35) dX11_busiest_35 f_X11_114 rfl ?_
    refine a_iload (pc := 38) dX11_busiest_38 rfl ?_
    refine a_iald (pc := 40) dX11_busiest_40 rfl h.1.1 h.1.2  ?_
    replace h := h.2
    refine a_istore (pc := 41) dX11_busiest_41 (Nat.le_of_ble_eq_true rfl) ?_
    refine a_aload_n (pc := 43) dX11_busiest_43 rfl ?_
    refine a_getr (pc := 44) dX11_busiest_44 f_X11_19 rfl ?_
    refine a_iload (pc := 47) dX11_busiest_47 rfl ?_
    refine a_callVi (pc := 49) (d := 0) (st := []) (o := 3) [.inl (M 11 x4)] dX11_busiest_49 l_X11_223 in_X1_dwellersAt se_X1_dwellersAt rfl rfl rfl ⟨Nat.le_of_ble_eq_true rfl, Nat.le_of_ble_eq_true rfl⟩ ⟨Nat.le_of_ble_eq_true rfl, Nat.le_of_ble_eq_true rfl⟩ (Nat.le_of_ble_eq_true rfl) ?_
    refine Calls.mono (fun r49 M49 hr49 hM49 h => ?_) h
    refine a_istore (pc := 52) dX11_busiest_52 (Nat.le_of_ble_eq_true rfl) ?_
    refine a_iload (pc := 54) dX11_busiest_54 rfl ?_
    refine a_iload_n (pc := 56) dX11_busiest_56 rfl ?_
    refine a_icmp_gt (pc := 57) 72 dX11_busiest_57 rfl ⟨fun hc => ?_, fun hc => ?_⟩
    · replace h := h.1 hc
      refine a_iload (pc := 72) dX11_busiest_72 rfl ?_
      refine a_istore_n (pc := 74) dX11_busiest_74 (Nat.le_of_ble_eq_true rfl) ?_
      refine a_iload (pc := 75) dX11_busiest_75 rfl ?_
      refine a_istore_n (pc := 77) dX11_busiest_77 (Nat.le_of_ble_eq_true rfl) ?_
      refine a_iinc (pc := 78) dX11_busiest_78 rfl h.1 (Nat.le_of_ble_eq_true rfl) ?_
      replace h := h.2
      refine a_goto (pc := 81) 19 dX11_busiest_81 rfl ?_
      exact Go.weak h (And.intro rfl (And.intro rfl (And.intro rfl (And.intro rfl (And.intro rfl True.intro)))))
    · replace h := h.2 hc
      refine a_iload (pc := 60) dX11_busiest_60 rfl ?_
      refine a_iload_n (pc := 62) dX11_busiest_62 rfl ?_
      refine a_icmp_ne (pc := 63) 78 dX11_busiest_63 rfl ⟨fun hc => ?_, fun hc => ?_⟩
      · replace h := h.1 hc
        refine a_iinc (pc := 78) dX11_busiest_78 rfl h.1 (Nat.le_of_ble_eq_true rfl) ?_
        replace h := h.2
        refine a_goto (pc := 81) 19 dX11_busiest_81 rfl ?_
        exact Go.weak h (And.intro rfl (And.intro rfl (And.intro rfl (And.intro rfl (And.intro rfl True.intro)))))
      · replace h := h.2 hc
        refine a_iload (pc := 66) dX11_busiest_66 rfl ?_
        refine a_iload_n (pc := 68) dX11_busiest_68 rfl ?_
        refine a_icmp_ge (pc := 69) 78 dX11_busiest_69 rfl ⟨fun hc => ?_, fun hc => ?_⟩
        · replace h := h.1 hc
          refine a_iinc (pc := 78) dX11_busiest_78 rfl h.1 (Nat.le_of_ble_eq_true rfl) ?_
          replace h := h.2
          refine a_goto (pc := 81) 19 dX11_busiest_81 rfl ?_
          exact Go.weak h (And.intro rfl (And.intro rfl (And.intro rfl (And.intro rfl (And.intro rfl True.intro)))))
        · replace h := h.2 hc
          refine a_iload (pc := 72) dX11_busiest_72 rfl ?_
          refine a_istore_n (pc := 74) dX11_busiest_74 (Nat.le_of_ble_eq_true rfl) ?_
          refine a_iload (pc := 75) dX11_busiest_75 rfl ?_
          refine a_istore_n (pc := 77) dX11_busiest_77 (Nat.le_of_ble_eq_true rfl) ?_
          refine a_iinc (pc := 78) dX11_busiest_78 rfl h.1 (Nat.le_of_ble_eq_true rfl) ?_
          replace h := h.2
          refine a_goto (pc := 81) 19 dX11_busiest_81 rfl ?_
          exact Go.weak h (And.intro rfl (And.intro rfl (And.intro rfl (And.intro rfl (And.intro rfl True.intro)))))
set_option maxRecDepth 20000 in
theorem s_X12_busiest_0 {Q : Int → Me → Prop}  (a : Int) (M : Me) (h :
    ((0 ≤ a ∧ a ≤ 1 →
    Go (km 1 mX12_busiest Q) 19 [some (.inr 76), some (.inl a), some (.inl (-2)), some (.inl 0), some (.inl 0)] [] M) ∧ (¬ (0 ≤ a ∧ a ≤ 1) →
    Q (-1) M))) :
    Go (km 1 mX12_busiest Q) 0 [some (.inr 76), some (.inl a), none, none, none] [] M := by
  refine a_iload_n (pc := 0) dX12_busiest_0 rfl ?_
  refine a_iconst (pc := 1) dX12_busiest_1 (cnb rfl) ?_
  refine a_iconst (pc := 2) dX12_busiest_2 (cnb rfl) ?_
  refine a_callSi (pc := 3) (d := 0) (st := []) [.inl a, .inl 0, .inl 1] dX12_busiest_3 l_X12_156 st_X12_in rfl ⟨Nat.le_of_ble_eq_true rfl, Nat.le_of_ble_eq_true rfl⟩ ⟨Nat.le_of_ble_eq_true rfl, Nat.le_of_ble_eq_true rfl⟩ (Nat.le_of_ble_eq_true rfl) ?_
  refine p_X12_in ⟨fun hc => ?_, fun hc => ?_⟩
  · replace h := h.1 hc
    refine a_if_ne (pc := 6) 11 dX12_busiest_6 rfl ⟨fun _ => ?_, fun hc => absurd hc (by decide)⟩
    refine a_bipush (pc := 11) dX12_busiest_11 (by decide) (cnb rfl) ?_
    refine a_istore_n (pc := 13) dX12_busiest_13 (Nat.le_of_ble_eq_true rfl) ?_
    refine a_iconst (pc := 14) dX12_busiest_14 (cnb rfl) ?_
    refine a_istore_n (pc := 15) dX12_busiest_15 (Nat.le_of_ble_eq_true rfl) ?_
    refine a_iconst (pc := 16) dX12_busiest_16 (cnb rfl) ?_
    refine a_istore (pc := 17) dX12_busiest_17 (Nat.le_of_ble_eq_true rfl) ?_
    exact h
  · replace h := h.2 hc
    refine a_if_ne (pc := 6) 11 dX12_busiest_6 rfl ⟨fun hc => absurd hc (by decide), fun _ => ?_⟩
    refine a_iconst (pc := 9) dX12_busiest_9 (cnb rfl) ?_
    exact a_iretI (pc := 10) dX12_busiest_10 rfl h
set_option maxRecDepth 20000 in
theorem e_X12_busiest {Q : Int → Me → Prop}  {a : Int} {M : Me} (h :
    ((0 ≤ a ∧ a ≤ 1 →
    Go (km 1 mX12_busiest Q) 19 [some (.inr 76), some (.inl a), some (.inl (-2)), some (.inl 0), some (.inl 0)] [] M) ∧ (¬ (0 ≤ a ∧ a ≤ 1) →
    Q (-1) M))) : Calls 1 mX12_busiest [.inr 76, .inl a] M Q := Calls.of (by decide) (Nat.le_of_ble_eq_true rfl) (s_X12_busiest_0  a M h)
set_option maxRecDepth 20000 in
theorem s_X12_busiest_19 {Q : Int → Me → Prop}  (x1 x2 x3 x4 : Int) (M : Me) (h :
    ((384 ≤ x4 →
    ((x1 ≠ 0 →
    Q x3 M) ∧ (x1 = 0 →
    Q x2 M))) ∧ (x4 < 384 →
    Calls 0 mX12_homesAt [.inr 76, .inl x4] M (fun r30 M30 =>
    ((x3 < r30 →
    Calls 0 mX12_homesAt [.inr 76, .inl x4] M30 (fun r43 M43 =>
    cn (x4 + 1) ∧
    Go (km 1 mX12_busiest Q) 19 [some (.inr 76), some (.inl x1), some (.inl x4), some (.inl r43), some (.inl (x4 + 1))] [] M43)) ∧ (r30 ≤ x3 →
    cn (x4 + 1) ∧
    Go (km 1 mX12_busiest Q) 19 [some (.inr 76), some (.inl x1), some (.inl x2), some (.inl x3), some (.inl (x4 + 1))] [] M30)))))) :
    Go (km 1 mX12_busiest Q) 19 [some (.inr 76), some (.inl x1), some (.inl x2), some (.inl x3), some (.inl x4)] [] M := by
  refine a_iload (pc := 19) dX12_busiest_19 rfl ?_
  refine a_sipush (pc := 21) dX12_busiest_21 (by decide) (cnb rfl) ?_
  refine a_icmp_ge (pc := 24) 56 dX12_busiest_24 rfl ⟨fun hc => ?_, fun hc => ?_⟩
  · replace h := h.1 hc
    refine a_iload_n (pc := 56) dX12_busiest_56 rfl ?_
    refine a_if_ne (pc := 57) 64 dX12_busiest_57 rfl ⟨fun hc => ?_, fun hc => ?_⟩
    · replace h := h.1 hc
      refine a_iload_n (pc := 64) dX12_busiest_64 rfl ?_
      exact a_iretI (pc := 65) dX12_busiest_65 rfl h
    · replace h := h.2 hc
      refine a_iload_n (pc := 60) dX12_busiest_60 rfl ?_
      refine a_goto (pc := 61) 65 dX12_busiest_61 rfl ?_
      exact a_iretI (pc := 65) dX12_busiest_65 rfl h
  · replace h := h.2 hc
    refine a_aload_n (pc := 27) dX12_busiest_27 rfl ?_
    refine a_iload (pc := 28) dX12_busiest_28 rfl ?_
    refine a_callVi (pc := 30) (d := 0) (st := []) (o := 76) [.inl x4] dX12_busiest_30 l_X12_356 in_X12_homesAt se_X12_homesAt rfl rfl rfl ⟨Nat.le_of_ble_eq_true rfl, Nat.le_of_ble_eq_true rfl⟩ ⟨Nat.le_of_ble_eq_true rfl, Nat.le_of_ble_eq_true rfl⟩ (Nat.le_of_ble_eq_true rfl) ?_
    refine Calls.mono (fun r30 M30 hr30 hM30 h => ?_) h
    refine a_iload_n (pc := 33) dX12_busiest_33 rfl ?_
    refine a_icmp_gt (pc := 34) 40 dX12_busiest_34 rfl ⟨fun hc => ?_, fun hc => ?_⟩
    · replace h := h.1 hc
      refine a_aload_n (pc := 40) dX12_busiest_40 rfl ?_
      refine a_iload (pc := 41) dX12_busiest_41 rfl ?_
      refine a_callVi (pc := 43) (d := 0) (st := []) (o := 76) [.inl x4] dX12_busiest_43 l_X12_356 in_X12_homesAt se_X12_homesAt rfl rfl rfl ⟨Nat.le_of_ble_eq_true rfl, Nat.le_of_ble_eq_true rfl⟩ ⟨Nat.le_of_ble_eq_true rfl, Nat.le_of_ble_eq_true rfl⟩ (Nat.le_of_ble_eq_true rfl) ?_
      refine Calls.mono (fun r43 M43 hr43 hM43 h => ?_) h
      refine a_istore_n (pc := 46) dX12_busiest_46 (Nat.le_of_ble_eq_true rfl) ?_
      refine a_iload (pc := 47) dX12_busiest_47 rfl ?_
      refine a_istore_n (pc := 49) dX12_busiest_49 (Nat.le_of_ble_eq_true rfl) ?_
      refine a_iinc (pc := 50) dX12_busiest_50 rfl h.1 (Nat.le_of_ble_eq_true rfl) ?_
      replace h := h.2
      refine a_goto (pc := 53) 19 dX12_busiest_53 rfl ?_
      exact h
    · replace h := h.2 hc
      refine a_goto (pc := 37) 50 dX12_busiest_37 rfl ?_
      refine a_iinc (pc := 50) dX12_busiest_50 rfl h.1 (Nat.le_of_ble_eq_true rfl) ?_
      replace h := h.2
      refine a_goto (pc := 53) 19 dX12_busiest_53 rfl ?_
      exact h
