set_option maxRecDepth 20000 in
theorem s_X11_count_0 {Q : Int → Me → Prop}  (a : Int) (M : Me) (h :
    ((a < 0 ∨ 7 < a →
    Q (-1) M) ∧
    ((a = 0 →
    Q (M 37 5) M) ∧
    ((a = 1 →
    Q (M 3 8) M) ∧
    ((a = 2 →
    Calls 0 mX8_bitsOf [.inr 37, .inl 2, .inl (M 3 8)] M (fun r76 M76 =>
    Q r76 M76)) ∧
    ((a = 3 →
    Calls 0 mX8_bitsOf [.inr 37, .inl 3, .inl (M 3 8)] M (fun r92 M92 =>
    Q r92 M92)) ∧
    ((a = 4 →
    Calls 0 mX8_calledByAll [.inr 37, .inl (M 3 8)] M (fun r107 M107 =>
    Q r107 M107)) ∧
    ((a = 5 →
    Q (M 22 6) M) ∧
    ((a = 6 →
    Q (M 1 1) M) ∧
    (a = 7 →
    Q (M 37 6) M)))))))))) :
    Go (km 1 mX11_count Q) 0 [some (.inr 0), some (.inl a)] [] M := by
  refine a_iload_n (pc := 0) dX11_count_0 rfl ?_
  by_cases ho_1 : a < 0 ∨ 7 < a
  · replace h := h.1 ho_1
    refine a_tableOut 135 dX11_count_1 ho_1 rfl ?_
    refine a_iconst (pc := 135) dX11_count_135 (cnb rfl) ?_
    exact a_iretI (pc := 136) dX11_count_136 rfl h
  · replace h := h.2
    by_cases he_1_0 : a = 0
    · replace h := h.1 he_1_0
      refine a_tableIn 48 dX11_count_1 (by omega) (by omega) (off := 47) (by rw [he_1_0]; rfl) rfl ?_
      refine a_aload_n (pc := 48) dX11_count_48 rfl ?_
      refine a_getr (pc := 49) dX11_count_49 f_X11_49 rfl ?_
      refine a_geti (pc := 52) 5 dX11_count_52 f_X11_213 rfl rfl ?_
      exact a_iretI (pc := 55) dX11_count_55 rfl h
    replace h := h.2
    by_cases he_1_1 : a = 1
    · replace h := h.1 he_1_1
      refine a_tableIn 56 dX11_count_1 (by omega) (by omega) (off := 55) (by rw [he_1_1]; rfl) rfl ?_
      refine a_aload_n (pc := 56) dX11_count_56 rfl ?_
      refine a_getr (pc := 57) dX11_count_57 f_X11_19 rfl ?_
      refine a_geti (pc := 60) 8 dX11_count_60 f_X11_155 rfl rfl ?_
      exact a_iretI (pc := 63) dX11_count_63 rfl h
    replace h := h.2
    by_cases he_1_2 : a = 2
    · replace h := h.1 he_1_2
      refine a_tableIn 64 dX11_count_1 (by omega) (by omega) (off := 63) (by rw [he_1_2]; rfl) rfl ?_
      refine a_aload_n (pc := 64) dX11_count_64 rfl ?_
      refine a_getr (pc := 65) dX11_count_65 f_X11_49 rfl ?_
      refine a_iconst (pc := 68) dX11_count_68 (cnb rfl) ?_
      refine a_aload_n (pc := 69) dX11_count_69 rfl ?_
      refine a_getr (pc := 70) dX11_count_70 f_X11_19 rfl ?_
      refine a_geti (pc := 73) 8 dX11_count_73 f_X11_155 rfl rfl ?_
      refine a_callVi (pc := 76) (d := 0) (st := []) (o := 37) [.inl 2, .inl (M 3 8)] dX11_count_76 l_X11_159 in_X8_bitsOf se_X8_bitsOf rfl rfl rfl ⟨Nat.le_of_ble_eq_true rfl, Nat.le_of_ble_eq_true rfl⟩ ⟨Nat.le_of_ble_eq_true rfl, Nat.le_of_ble_eq_true rfl⟩ (Nat.le_of_ble_eq_true rfl) ?_
      refine Calls.mono (fun r76 M76 hr76 hM76 h => ?_) h
      exact a_iretI (pc := 79) dX11_count_79 rfl h
    replace h := h.2
    by_cases he_1_3 : a = 3
    · replace h := h.1 he_1_3
      refine a_tableIn 80 dX11_count_1 (by omega) (by omega) (off := 79) (by rw [he_1_3]; rfl) rfl ?_
      refine a_aload_n (pc := 80) dX11_count_80 rfl ?_
      refine a_getr (pc := 81) dX11_count_81 f_X11_49 rfl ?_
      refine a_iconst (pc := 84) dX11_count_84 (cnb rfl) ?_
      refine a_aload_n (pc := 85) dX11_count_85 rfl ?_
      refine a_getr (pc := 86) dX11_count_86 f_X11_19 rfl ?_
      refine a_geti (pc := 89) 8 dX11_count_89 f_X11_155 rfl rfl ?_
      refine a_callVi (pc := 92) (d := 0) (st := []) (o := 37) [.inl 3, .inl (M 3 8)] dX11_count_92 l_X11_159 in_X8_bitsOf se_X8_bitsOf rfl rfl rfl ⟨Nat.le_of_ble_eq_true rfl, Nat.le_of_ble_eq_true rfl⟩ ⟨Nat.le_of_ble_eq_true rfl, Nat.le_of_ble_eq_true rfl⟩ (Nat.le_of_ble_eq_true rfl) ?_
      refine Calls.mono (fun r92 M92 hr92 hM92 h => ?_) h
      exact a_iretI (pc := 95) dX11_count_95 rfl h
    replace h := h.2
    by_cases he_1_4 : a = 4
    · replace h := h.1 he_1_4
      refine a_tableIn 96 dX11_count_1 (by omega) (by omega) (off := 95) (by rw [he_1_4]; rfl) rfl ?_
      refine a_aload_n (pc := 96) dX11_count_96 rfl ?_
      refine a_getr (pc := 97) dX11_count_97 f_X11_49 rfl ?_
      refine a_aload_n (pc := 100) dX11_count_100 rfl ?_
      refine a_getr (pc := 101) dX11_count_101 f_X11_19 rfl ?_
      refine a_geti (pc := 104) 8 dX11_count_104 f_X11_155 rfl rfl ?_
      refine a_callVi (pc := 107) (d := 0) (st := []) (o := 37) [.inl (M 3 8)] dX11_count_107 l_X11_303 in_X8_calledByAll se_X8_calledByAll rfl rfl rfl ⟨Nat.le_of_ble_eq_true rfl, Nat.le_of_ble_eq_true rfl⟩ ⟨Nat.le_of_ble_eq_true rfl, Nat.le_of_ble_eq_true rfl⟩ (Nat.le_of_ble_eq_true rfl) ?_
      refine Calls.mono (fun r107 M107 hr107 hM107 h => ?_) h
      exact a_iretI (pc := 110) dX11_count_110 rfl h
    replace h := h.2
    by_cases he_1_5 : a = 5
    · replace h := h.1 he_1_5
      refine a_tableIn 111 dX11_count_1 (by omega) (by omega) (off := 110) (by rw [he_1_5]; rfl) rfl ?_
      refine a_aload_n (pc := 111) dX11_count_111 rfl ?_
      refine a_getr (pc := 112) dX11_count_112 f_X11_35 rfl ?_
      refine a_geti (pc := 115) 6 dX11_count_115 f_X11_306 rfl rfl ?_
      exact a_iretI (pc := 118) dX11_count_118 rfl h
    replace h := h.2
    by_cases he_1_6 : a = 6
    · replace h := h.1 he_1_6
      refine a_tableIn 119 dX11_count_1 (by omega) (by omega) (off := 118) (by rw [he_1_6]; rfl) rfl ?_
      refine a_aload_n (pc := 119) dX11_count_119 rfl ?_
      refine a_getr (pc := 120) dX11_count_120 f_X11_10 rfl ?_
      refine a_geti (pc := 123) 1 dX11_count_123 f_X11_118 rfl rfl ?_
      exact a_iretI (pc := 126) dX11_count_126 rfl h
    replace h := h.2
    by_cases he_1_7 : a = 7
    · replace h := h he_1_7
      refine a_tableIn 127 dX11_count_1 (by omega) (by omega) (off := 126) (by rw [he_1_7]; rfl) rfl ?_
      refine a_aload_n (pc := 127) dX11_count_127 rfl ?_
      refine a_getr (pc := 128) dX11_count_128 f_X11_49 rfl ?_
      refine a_geti (pc := 131) 6 dX11_count_131 f_X11_297 rfl rfl ?_
      exact a_iretI (pc := 134) dX11_count_134 rfl h
    exfalso; omega
set_option maxRecDepth 20000 in
theorem e_X11_count {Q : Int → Me → Prop}  {a : Int} {M : Me} (h :
    ((a < 0 ∨ 7 < a →
    Q (-1) M) ∧
    ((a = 0 →
    Q (M 37 5) M) ∧
    ((a = 1 →
    Q (M 3 8) M) ∧
    ((a = 2 →
    Calls 0 mX8_bitsOf [.inr 37, .inl 2, .inl (M 3 8)] M (fun r76 M76 =>
    Q r76 M76)) ∧
    ((a = 3 →
    Calls 0 mX8_bitsOf [.inr 37, .inl 3, .inl (M 3 8)] M (fun r92 M92 =>
    Q r92 M92)) ∧
    ((a = 4 →
    Calls 0 mX8_calledByAll [.inr 37, .inl (M 3 8)] M (fun r107 M107 =>
    Q r107 M107)) ∧
    ((a = 5 →
    Q (M 22 6) M) ∧
    ((a = 6 →
    Q (M 1 1) M) ∧
    (a = 7 →
    Q (M 37 6) M)))))))))) : Calls 1 mX11_count [.inr 0, .inl a] M Q := Calls.of (by decide) (Nat.le_of_ble_eq_true rfl) (s_X11_count_0  a M h)
set_option maxRecDepth 20000 in
theorem s_X12_count_0 {Q : Int → Me → Prop}  (a : Int) (M : Me) (h :
    ((a < 0 ∨ 7 < a →
    Q (-1) M) ∧
    ((a = 0 →
    Q (M 77 80) M) ∧
    ((a = 1 →
    Q (M 76 11) M) ∧
    ((a = 2 →
    Calls 0 mX12_setOf [.inr 76, .inl 2] M (fun r63 M63 =>
    Q r63 M63)) ∧
    ((a = 3 →
    Calls 0 mX12_setOf [.inr 76, .inl 3] M (fun r69 M69 =>
    Q r69 M69)) ∧
    ((a = 4 →
    Calls 0 mX12_callsOfAll [.inr 76] M (fun r74 M74 =>
    Q r74 M74)) ∧
    ((a = 5 →
    Q (M 76 22) M) ∧
    ((a = 6 →
    Q (M 76 13) M) ∧
    (a = 7 →
    Q (M 77 81) M)))))))))) :
    Go (km 1 mX12_count Q) 0 [some (.inr 76), some (.inl a)] [] M := by
  refine a_iload_n (pc := 0) dX12_count_0 rfl ?_
  by_cases ho_1 : a < 0 ∨ 7 < a
  · replace h := h.1 ho_1
    refine a_tableOut 96 dX12_count_1 ho_1 rfl ?_
    refine a_iconst (pc := 96) dX12_count_96 (cnb rfl) ?_
    exact a_iretI (pc := 97) dX12_count_97 rfl h
  · replace h := h.2
    by_cases he_1_0 : a = 0
    · replace h := h.1 he_1_0
      refine a_tableIn 48 dX12_count_1 (by omega) (by omega) (off := 47) (by rw [he_1_0]; rfl) rfl ?_
      refine a_aload_n (pc := 48) dX12_count_48 rfl ?_
      refine a_getr (pc := 49) dX12_count_49 f_X12_7 rfl ?_
      refine a_bipush (pc := 52) dX12_count_52 (by decide) (cnb rfl) ?_
      refine a_iald (pc := 54) dX12_count_54 rfl (by decide) (by decide)  ?_
      exact a_iretI (pc := 55) dX12_count_55 rfl h
    replace h := h.2
    by_cases he_1_1 : a = 1
    · replace h := h.1 he_1_1
      refine a_tableIn 56 dX12_count_1 (by omega) (by omega) (off := 55) (by rw [he_1_1]; rfl) rfl ?_
      refine a_aload_n (pc := 56) dX12_count_56 rfl ?_
      refine a_geti (pc := 57) 11 dX12_count_57 f_X12_152 rfl rfl ?_
      exact a_iretI (pc := 60) dX12_count_60 rfl h
    replace h := h.2
    by_cases he_1_2 : a = 2
    · replace h := h.1 he_1_2
      refine a_tableIn 61 dX12_count_1 (by omega) (by omega) (off := 60) (by rw [he_1_2]; rfl) rfl ?_
      refine a_aload_n (pc := 61) dX12_count_61 rfl ?_
      refine a_iconst (pc := 62) dX12_count_62 (cnb rfl) ?_
      refine a_callVi (pc := 63) (d := 0) (st := []) (o := 76) [.inl 2] dX12_count_63 l_X12_350 in_X12_setOf se_X12_setOf rfl rfl rfl ⟨Nat.le_of_ble_eq_true rfl, Nat.le_of_ble_eq_true rfl⟩ ⟨Nat.le_of_ble_eq_true rfl, Nat.le_of_ble_eq_true rfl⟩ (Nat.le_of_ble_eq_true rfl) ?_
      refine Calls.mono (fun r63 M63 hr63 hM63 h => ?_) h
      exact a_iretI (pc := 66) dX12_count_66 rfl h
    replace h := h.2
    by_cases he_1_3 : a = 3
    · replace h := h.1 he_1_3
      refine a_tableIn 67 dX12_count_1 (by omega) (by omega) (off := 66) (by rw [he_1_3]; rfl) rfl ?_
      refine a_aload_n (pc := 67) dX12_count_67 rfl ?_
      refine a_iconst (pc := 68) dX12_count_68 (cnb rfl) ?_
      refine a_callVi (pc := 69) (d := 0) (st := []) (o := 76) [.inl 3] dX12_count_69 l_X12_350 in_X12_setOf se_X12_setOf rfl rfl rfl ⟨Nat.le_of_ble_eq_true rfl, Nat.le_of_ble_eq_true rfl⟩ ⟨Nat.le_of_ble_eq_true rfl, Nat.le_of_ble_eq_true rfl⟩ (Nat.le_of_ble_eq_true rfl) ?_
      refine Calls.mono (fun r69 M69 hr69 hM69 h => ?_) h
      exact a_iretI (pc := 72) dX12_count_72 rfl h
    replace h := h.2
    by_cases he_1_4 : a = 4
    · replace h := h.1 he_1_4
      refine a_tableIn 73 dX12_count_1 (by omega) (by omega) (off := 72) (by rw [he_1_4]; rfl) rfl ?_
      refine a_aload_n (pc := 73) dX12_count_73 rfl ?_
      refine a_callVi (pc := 74) (d := 0) (st := []) (o := 76) [] dX12_count_74 l_X12_447 in_X12_callsOfAll se_X12_callsOfAll rfl rfl rfl ⟨Nat.le_of_ble_eq_true rfl, Nat.le_of_ble_eq_true rfl⟩ ⟨Nat.le_of_ble_eq_true rfl, Nat.le_of_ble_eq_true rfl⟩ (Nat.le_of_ble_eq_true rfl) ?_
      refine Calls.mono (fun r74 M74 hr74 hM74 h => ?_) h
      exact a_iretI (pc := 77) dX12_count_77 rfl h
    replace h := h.2
    by_cases he_1_5 : a = 5
    · replace h := h.1 he_1_5
      refine a_tableIn 78 dX12_count_1 (by omega) (by omega) (off := 77) (by rw [he_1_5]; rfl) rfl ?_
      refine a_aload_n (pc := 78) dX12_count_78 rfl ?_
      refine a_geti (pc := 79) 22 dX12_count_79 f_X12_268 rfl rfl ?_
      exact a_iretI (pc := 82) dX12_count_82 rfl h
    replace h := h.2
    by_cases he_1_6 : a = 6
    · replace h := h.1 he_1_6
      refine a_tableIn 83 dX12_count_1 (by omega) (by omega) (off := 82) (by rw [he_1_6]; rfl) rfl ?_
      refine a_aload_n (pc := 83) dX12_count_83 rfl ?_
      refine a_geti (pc := 84) 13 dX12_count_84 f_X12_168 rfl rfl ?_
      exact a_iretI (pc := 87) dX12_count_87 rfl h
    replace h := h.2
    by_cases he_1_7 : a = 7
    · replace h := h he_1_7
      refine a_tableIn 88 dX12_count_1 (by omega) (by omega) (off := 87) (by rw [he_1_7]; rfl) rfl ?_
      refine a_aload_n (pc := 88) dX12_count_88 rfl ?_
      refine a_getr (pc := 89) dX12_count_89 f_X12_7 rfl ?_
      refine a_bipush (pc := 92) dX12_count_92 (by decide) (cnb rfl) ?_
      refine a_iald (pc := 94) dX12_count_94 rfl (by decide) (by decide)  ?_
      exact a_iretI (pc := 95) dX12_count_95 rfl h
    exfalso; omega
set_option maxRecDepth 20000 in
theorem e_X12_count {Q : Int → Me → Prop}  {a : Int} {M : Me} (h :
    ((a < 0 ∨ 7 < a →
    Q (-1) M) ∧
    ((a = 0 →
    Q (M 77 80) M) ∧
    ((a = 1 →
    Q (M 76 11) M) ∧
    ((a = 2 →
    Calls 0 mX12_setOf [.inr 76, .inl 2] M (fun r63 M63 =>
    Q r63 M63)) ∧
    ((a = 3 →
    Calls 0 mX12_setOf [.inr 76, .inl 3] M (fun r69 M69 =>
    Q r69 M69)) ∧
    ((a = 4 →
    Calls 0 mX12_callsOfAll [.inr 76] M (fun r74 M74 =>
    Q r74 M74)) ∧
    ((a = 5 →
    Q (M 76 22) M) ∧
    ((a = 6 →
    Q (M 76 13) M) ∧
    (a = 7 →
    Q (M 77 81) M)))))))))) : Calls 1 mX12_count [.inr 76, .inl a] M Q := Calls.of (by decide) (Nat.le_of_ble_eq_true rfl) (s_X12_count_0  a M h)
set_option maxRecDepth 20000 in
theorem s_X11_seed_0 {Q : Int → Me → Prop}  (a : Int) (M : Me) (h :
    ((a < 0 →
    Q 0 M) ∧ (0 ≤ a →
    ((a ≤ 65535 →
    Q 1 (mput M 37 6 a)) ∧ (65535 < a →
    Q 0 M))))) :
    Go (km 0 mX11_seed Q) 0 [some (.inr 0), some (.inl a)] [] M := by
  refine a_iload_n (pc := 0) dX11_seed_0 rfl ?_
  refine a_if_lt (pc := 1) 11 dX11_seed_1 rfl ⟨fun hc => ?_, fun hc => ?_⟩
  · replace h := h.1 hc
    refine a_iconst (pc := 11) dX11_seed_11 (cnb rfl) ?_
    exact a_iretZ (pc := 12) dX11_seed_12 rfl (by decide) h
  · replace h := h.2 hc
    refine a_iload_n (pc := 4) dX11_seed_4 rfl ?_
    refine a_ldc_w (pc := 5) (n := 65535) dX11_seed_5 k_X11_296 (by decide) (cnb rfl) ?_
    refine a_icmp_le (pc := 8) 13 dX11_seed_8 rfl ⟨fun hc => ?_, fun hc => ?_⟩
    · replace h := h.1 hc
      refine a_aload_n (pc := 13) dX11_seed_13 rfl ?_
      refine a_getr (pc := 14) dX11_seed_14 f_X11_49 rfl ?_
      refine a_iload_n (pc := 17) dX11_seed_17 rfl ?_
      refine a_puti (pc := 18) 6 dX11_seed_18 f_X11_297 rfl rfl (Or.inl rfl) ?_
      refine a_iconst (pc := 21) dX11_seed_21 (cnb rfl) ?_
      exact a_iretZ (pc := 22) dX11_seed_22 rfl (by decide) h
    · replace h := h.2 hc
      refine a_iconst (pc := 11) dX11_seed_11 (cnb rfl) ?_
      exact a_iretZ (pc := 12) dX11_seed_12 rfl (by decide) h
set_option maxRecDepth 20000 in
theorem e_X11_seed {Q : Int → Me → Prop}  {a : Int} {M : Me} (h :
    ((a < 0 →
    Q 0 M) ∧ (0 ≤ a →
    ((a ≤ 65535 →
    Q 1 (mput M 37 6 a)) ∧ (65535 < a →
    Q 0 M))))) : Calls 0 mX11_seed [.inr 0, .inl a] M Q := Calls.of (by decide) (Nat.le_of_ble_eq_true rfl) (s_X11_seed_0  a M h)
set_option maxRecDepth 20000 in
theorem s_X12_seed_0 {Q : Int → Me → Prop}  (a : Int) (M : Me) (h :
    ((0 ≤ a ∧ a ≤ 65535 →
    Q 1 (mput M 77 81 a)) ∧ (¬ (0 ≤ a ∧ a ≤ 65535) →
    Q 0 M))) :
    Go (km 1 mX12_seed Q) 0 [some (.inr 76), some (.inl a)] [] M := by
  refine a_iload_n (pc := 0) dX12_seed_0 rfl ?_
  refine a_iconst (pc := 1) dX12_seed_1 (cnb rfl) ?_
  refine a_ldc_w (pc := 2) (n := 65535) dX12_seed_2 k_X12_397 (by decide) (cnb rfl) ?_
  refine a_callSi (pc := 5) (d := 0) (st := []) [.inl a, .inl 0, .inl 65535] dX12_seed_5 l_X12_156 st_X12_in rfl ⟨Nat.le_of_ble_eq_true rfl, Nat.le_of_ble_eq_true rfl⟩ ⟨Nat.le_of_ble_eq_true rfl, Nat.le_of_ble_eq_true rfl⟩ (Nat.le_of_ble_eq_true rfl) ?_
  refine p_X12_in ⟨fun hc => ?_, fun hc => ?_⟩
  · replace h := h.1 hc
    refine a_if_ne (pc := 8) 13 dX12_seed_8 rfl ⟨fun _ => ?_, fun hc => absurd hc (by decide)⟩
    refine a_aload_n (pc := 13) dX12_seed_13 rfl ?_
    refine a_getr (pc := 14) dX12_seed_14 f_X12_7 rfl ?_
    refine a_bipush (pc := 17) dX12_seed_17 (by decide) (cnb rfl) ?_
    refine a_iload_n (pc := 19) dX12_seed_19 rfl ?_
    refine a_iast (pc := 20) dX12_seed_20 rfl (by decide) (by decide) ?_
    refine a_iconst (pc := 21) dX12_seed_21 (cnb rfl) ?_
    exact a_iretZ (pc := 22) dX12_seed_22 rfl (by decide) h
  · replace h := h.2 hc
    refine a_if_ne (pc := 8) 13 dX12_seed_8 rfl ⟨fun hc => absurd hc (by decide), fun _ => ?_⟩
    refine a_iconst (pc := 11) dX12_seed_11 (cnb rfl) ?_
    exact a_iretZ (pc := 12) dX12_seed_12 rfl (by decide) h
set_option maxRecDepth 20000 in
theorem e_X12_seed {Q : Int → Me → Prop}  {a : Int} {M : Me} (h :
    ((0 ≤ a ∧ a ≤ 65535 →
    Q 1 (mput M 77 81 a)) ∧ (¬ (0 ≤ a ∧ a ≤ 65535) →
    Q 0 M))) : Calls 1 mX12_seed [.inr 76, .inl a] M Q := Calls.of (by decide) (Nat.le_of_ble_eq_true rfl) (s_X12_seed_0  a M h)
set_option maxRecDepth 20000 in
theorem s_X11_home_0 {Q : Int → Me → Prop}  (a b c : Int) (M : Me) (h :
    ((0 ≤ a ∧ a < M 3 8 →
    ((0 ≤ b ∧ b < 24 →
    ((0 ≤ c ∧ c < 16 →
    cn (24 * c) ∧
    cn ((24 * c) + b) ∧
    (0 ≤ a ∧ a < 16) ∧
    Q 1 (mput M 11 a ((24 * c) + b))) ∧ (¬ (0 ≤ c ∧ c < 16) →
    Q 0 M))) ∧ (¬ (0 ≤ b ∧ b < 24) →
    Q 0 M))) ∧ (¬ (0 ≤ a ∧ a < M 3 8) →
    Q 0 M))) :
    Go (km 1 mX11_home Q) 0 [some (.inr 0), some (.inl a), some (.inl b), some (.inl c)] [] M := by
  refine a_aload_n (pc := 0) dX11_home_0 rfl ?_
  refine a_iload_n (pc := 1) dX11_home_1 rfl ?_
  refine a_callVi (pc := 2) (d := 0) (st := []) (o := 0) [.inl a] dX11_home_2 l_X11_104 in_X11_isCut se_X11_isCut rfl rfl rfl ⟨Nat.le_of_ble_eq_true rfl, Nat.le_of_ble_eq_true rfl⟩ ⟨Nat.le_of_ble_eq_true rfl, Nat.le_of_ble_eq_true rfl⟩ (Nat.le_of_ble_eq_true rfl) ?_
  refine p_X11_isCut ⟨fun hc => ?_, fun hc => ?_⟩
  · replace h := h.1 hc
    refine a_if_eq (pc := 5) 22 dX11_home_5 rfl ⟨fun hc => absurd hc (by decide), fun _ => ?_⟩
    refine a_iload_n (pc := 8) dX11_home_8 rfl ?_
    refine a_callSi (pc := 9) (d := 0) (st := []) [.inl b] dX11_home_9 l_X11_108 st_X11_isAcross rfl ⟨Nat.le_of_ble_eq_true rfl, Nat.le_of_ble_eq_true rfl⟩ ⟨Nat.le_of_ble_eq_true rfl, Nat.le_of_ble_eq_true rfl⟩ (Nat.le_of_ble_eq_true rfl) ?_
    refine p_X11_isAcross ⟨fun hc => ?_, fun hc => ?_⟩
    · replace h := h.1 hc
      refine a_if_eq (pc := 12) 22 dX11_home_12 rfl ⟨fun hc => absurd hc (by decide), fun _ => ?_⟩
      refine a_iload_n (pc := 15) dX11_home_15 rfl ?_
      refine a_callSi (pc := 16) (d := 0) (st := []) [.inl c] dX11_home_16 l_X11_111 st_X11_isAlong rfl ⟨Nat.le_of_ble_eq_true rfl, Nat.le_of_ble_eq_true rfl⟩ ⟨Nat.le_of_ble_eq_true rfl, Nat.le_of_ble_eq_true rfl⟩ (Nat.le_of_ble_eq_true rfl) ?_
      refine p_X11_isAlong ⟨fun hc => ?_, fun hc => ?_⟩
      · replace h := h.1 hc
        refine a_if_ne (pc := 19) 24 dX11_home_19 rfl ⟨fun _ => ?_, fun hc => absurd hc (by decide)⟩
        refine a_aload_n (pc := 24) dX11_home_24 rfl ?_
        refine a_getr (pc := 25) dX11_home_25 f_X11_19 rfl ?_
        refine a_getr (pc := 28) dX11_home_28 f_X11_114 rfl ?_
        refine a_iload_n (pc := 31) dX11_home_31 rfl ?_
        refine a_bipush (pc := 32) dX11_home_32 (by decide) (cnb rfl) ?_
        refine a_iload_n (pc := 34) dX11_home_34 rfl ?_
        refine a_imul (pc := 35) dX11_home_35 h.1 ?_
        replace h := h.2
        refine a_iload_n (pc := 36) dX11_home_36 rfl ?_
        refine a_iadd (pc := 37) dX11_home_37 h.1 ?_
        replace h := h.2
        refine a_iast (pc := 38) dX11_home_38 rfl h.1.1 h.1.2 ?_
        replace h := h.2
        refine a_iconst (pc := 39) dX11_home_39 (cnb rfl) ?_
        exact a_iretZ (pc := 40) dX11_home_40 rfl (by decide) h
      · replace h := h.2 hc
        refine a_if_ne (pc := 19) 24 dX11_home_19 rfl ⟨fun hc => absurd hc (by decide), fun _ => ?_⟩
        refine a_iconst (pc := 22) dX11_home_22 (cnb rfl) ?_
        exact a_iretZ (pc := 23) dX11_home_23 rfl (by decide) h
    · replace h := h.2 hc
      refine a_if_eq (pc := 12) 22 dX11_home_12 rfl ⟨fun _ => ?_, fun hc => absurd hc (by decide)⟩
      refine a_iconst (pc := 22) dX11_home_22 (cnb rfl) ?_
      exact a_iretZ (pc := 23) dX11_home_23 rfl (by decide) h
  · replace h := h.2 hc
    refine a_if_eq (pc := 5) 22 dX11_home_5 rfl ⟨fun _ => ?_, fun hc => absurd hc (by decide)⟩
    refine a_iconst (pc := 22) dX11_home_22 (cnb rfl) ?_
    exact a_iretZ (pc := 23) dX11_home_23 rfl (by decide) h
set_option maxRecDepth 20000 in
theorem e_X11_home {Q : Int → Me → Prop}  {a b c : Int} {M : Me} (h :
    ((0 ≤ a ∧ a < M 3 8 →
    ((0 ≤ b ∧ b < 24 →
    ((0 ≤ c ∧ c < 16 →
    cn (24 * c) ∧
    cn ((24 * c) + b) ∧
    (0 ≤ a ∧ a < 16) ∧
    Q 1 (mput M 11 a ((24 * c) + b))) ∧ (¬ (0 ≤ c ∧ c < 16) →
    Q 0 M))) ∧ (¬ (0 ≤ b ∧ b < 24) →
    Q 0 M))) ∧ (¬ (0 ≤ a ∧ a < M 3 8) →
    Q 0 M))) : Calls 1 mX11_home [.inr 0, .inl a, .inl b, .inl c] M Q := Calls.of (by decide) (Nat.le_of_ble_eq_true rfl) (s_X11_home_0  a b c M h)
set_option maxRecDepth 20000 in
theorem s_X12_home_0 {Q : Int → Me → Prop}  (a b c : Int) (M : Me) (h :
    0 ≤ M 76 11 ∧
    ((0 ≤ a ∧ a < M 76 11 →
    ((0 ≤ b ∧ b ≤ 23 →
    ((0 ≤ c ∧ c ≤ 15 →
    cn (24 * c) ∧
    cn ((24 * c) + b) ∧
    (0 ≤ a ∧ a < 16) ∧
    Q 1 (mput M 87 a ((24 * c) + b))) ∧ (¬ (0 ≤ c ∧ c ≤ 15) →
    Q 0 M))) ∧ (¬ (0 ≤ b ∧ b ≤ 23) →
    Q 0 M))) ∧ (¬ (0 ≤ a ∧ a < M 76 11) →
    Q 0 M))) :
    Go (km 2 mX12_home Q) 0 [some (.inr 76), some (.inl a), some (.inl b), some (.inl c)] [] M := by
  refine a_aload_n (pc := 0) dX12_home_0 rfl ?_
  refine a_iload_n (pc := 1) dX12_home_1 rfl ?_
  refine a_callVi (pc := 2) (d := 1) (st := []) (o := 76) [.inl a] dX12_home_2 l_X12_164 in_X12_isCut se_X12_isCut rfl rfl rfl ⟨Nat.le_of_ble_eq_true rfl, Nat.le_of_ble_eq_true rfl⟩ ⟨Nat.le_of_ble_eq_true rfl, Nat.le_of_ble_eq_true rfl⟩ (Nat.le_of_ble_eq_true rfl) ?_
  have hp2_1 := h.1
  replace h := h.2
  refine p_X12_isCut hp2_1 ⟨fun hc => ?_, fun hc => ?_⟩
  · replace h := h.1 hc
    refine a_if_eq (pc := 5) 28 dX12_home_5 rfl ⟨fun hc => absurd hc (by decide), fun _ => ?_⟩
    refine a_iload_n (pc := 8) dX12_home_8 rfl ?_
    refine a_iconst (pc := 9) dX12_home_9 (cnb rfl) ?_
    refine a_bipush (pc := 10) dX12_home_10 (by decide) (cnb rfl) ?_
    refine a_callSi (pc := 12) (d := 0) (st := []) [.inl b, .inl 0, .inl 23] dX12_home_12 l_X12_156 st_X12_in rfl ⟨Nat.le_of_ble_eq_true rfl, Nat.le_of_ble_eq_true rfl⟩ ⟨Nat.le_of_ble_eq_true rfl, Nat.le_of_ble_eq_true rfl⟩ (Nat.le_of_ble_eq_true rfl) ?_
    refine p_X12_in ⟨fun hc => ?_, fun hc => ?_⟩
    · replace h := h.1 hc
      refine a_if_eq (pc := 15) 28 dX12_home_15 rfl ⟨fun hc => absurd hc (by decide), fun _ => ?_⟩
      refine a_iload_n (pc := 18) dX12_home_18 rfl ?_
      refine a_iconst (pc := 19) dX12_home_19 (cnb rfl) ?_
      refine a_bipush (pc := 20) dX12_home_20 (by decide) (cnb rfl) ?_
      refine a_callSi (pc := 22) (d := 0) (st := []) [.inl c, .inl 0, .inl 15] dX12_home_22 l_X12_156 st_X12_in rfl ⟨Nat.le_of_ble_eq_true rfl, Nat.le_of_ble_eq_true rfl⟩ ⟨Nat.le_of_ble_eq_true rfl, Nat.le_of_ble_eq_true rfl⟩ (Nat.le_of_ble_eq_true rfl) ?_
      refine p_X12_in ⟨fun hc => ?_, fun hc => ?_⟩
      · replace h := h.1 hc
        refine a_if_ne (pc := 25) 30 dX12_home_25 rfl ⟨fun _ => ?_, fun hc => absurd hc (by decide)⟩
        refine a_aload_n (pc := 30) dX12_home_30 rfl ?_
        refine a_getr (pc := 31) dX12_home_31 f_X12_40 rfl ?_
        refine a_iload_n (pc := 34) dX12_home_34 rfl ?_
        refine a_bipush (pc := 35) dX12_home_35 (by decide) (cnb rfl) ?_
        refine a_iload_n (pc := 37) dX12_home_37 rfl ?_
        refine a_imul (pc := 38) dX12_home_38 h.1 ?_
        replace h := h.2
        refine a_iload_n (pc := 39) dX12_home_39 rfl ?_
        refine a_iadd (pc := 40) dX12_home_40 h.1 ?_
        replace h := h.2
        refine a_iast (pc := 41) dX12_home_41 rfl h.1.1 h.1.2 ?_
        replace h := h.2
        refine a_iconst (pc := 42) dX12_home_42 (cnb rfl) ?_
        exact a_iretZ (pc := 43) dX12_home_43 rfl (by decide) h
      · replace h := h.2 hc
        refine a_if_ne (pc := 25) 30 dX12_home_25 rfl ⟨fun hc => absurd hc (by decide), fun _ => ?_⟩
        refine a_iconst (pc := 28) dX12_home_28 (cnb rfl) ?_
        exact a_iretZ (pc := 29) dX12_home_29 rfl (by decide) h
    · replace h := h.2 hc
      refine a_if_eq (pc := 15) 28 dX12_home_15 rfl ⟨fun _ => ?_, fun hc => absurd hc (by decide)⟩
      refine a_iconst (pc := 28) dX12_home_28 (cnb rfl) ?_
      exact a_iretZ (pc := 29) dX12_home_29 rfl (by decide) h
  · replace h := h.2 hc
    refine a_if_eq (pc := 5) 28 dX12_home_5 rfl ⟨fun _ => ?_, fun hc => absurd hc (by decide)⟩
    refine a_iconst (pc := 28) dX12_home_28 (cnb rfl) ?_
    exact a_iretZ (pc := 29) dX12_home_29 rfl (by decide) h
set_option maxRecDepth 20000 in
theorem e_X12_home {Q : Int → Me → Prop}  {a b c : Int} {M : Me} (h :
    0 ≤ M 76 11 ∧
    ((0 ≤ a ∧ a < M 76 11 →
    ((0 ≤ b ∧ b ≤ 23 →
    ((0 ≤ c ∧ c ≤ 15 →
    cn (24 * c) ∧
    cn ((24 * c) + b) ∧
    (0 ≤ a ∧ a < 16) ∧
    Q 1 (mput M 87 a ((24 * c) + b))) ∧ (¬ (0 ≤ c ∧ c ≤ 15) →
    Q 0 M))) ∧ (¬ (0 ≤ b ∧ b ≤ 23) →
    Q 0 M))) ∧ (¬ (0 ≤ a ∧ a < M 76 11) →
    Q 0 M))) : Calls 2 mX12_home [.inr 76, .inl a, .inl b, .inl c] M Q := Calls.of (by decide) (Nat.le_of_ble_eq_true rfl) (s_X12_home_0  a b c M h)
set_option maxRecDepth 20000 in
theorem s_X11_cutIs_0 {Q : Int → Me → Prop}  (a b : Int) (M : Me) (h :
    ((0 ≤ a ∧ a < M 3 8 →
    ((b < 0 ∨ 12 < b →
    Q (-1) M) ∧
    ((b = 0 →
    (0 ≤ a ∧ a < 16) ∧
    Q (M 4 a) M) ∧
    ((b = 1 →
    (0 ≤ a ∧ a < 16) ∧
    Q (M 5 a) M) ∧
    ((b = 2 →
    (0 ≤ a ∧ a < 16) ∧
    Q (M 6 a) M) ∧
    ((b = 3 →
    (0 ≤ a ∧ a < 16) ∧
    Q (M 7 a) M) ∧
    ((b = 4 →
    (0 ≤ a ∧ a < 16) ∧
    Q (M 8 a) M) ∧
    ((b = 5 →
    (0 ≤ a ∧ a < 16) ∧
    Q (M 9 a) M) ∧
    ((b = 6 →
    (0 ≤ a ∧ a < 16) ∧
    Q (M 10 a) M) ∧
    ((b = 7 →
    (0 ≤ a ∧ a < 16) ∧
    Q (M 11 a) M) ∧
    ((b = 8 →
    (0 ≤ a ∧ a < 16) ∧
    Q (M 39 a) M) ∧
    ((b = 9 →
    (0 ≤ a ∧ a < 16) ∧
    Q (M 40 a) M) ∧
    ((b = 10 →
    (0 ≤ a ∧ a < 16) ∧
    Q (M 41 a) M) ∧
    ((b = 11 →
    (0 ≤ a ∧ a < 16) ∧
    Q (M 38 a) M) ∧
    (b = 12 →
    (0 ≤ a ∧ a < 16) ∧
    Q (M 42 a) M))))))))))))))) ∧ (¬ (0 ≤ a ∧ a < M 3 8) →
    Q (-1) M))) :
    Go (km 1 mX11_cutIs Q) 0 [some (.inr 0), some (.inl a), some (.inl b)] [] M := by
  refine a_aload_n (pc := 0) dX11_cutIs_0 rfl ?_
  refine a_iload_n (pc := 1) dX11_cutIs_1 rfl ?_
  refine a_callVi (pc := 2) (d := 0) (st := []) (o := 0) [.inl a] dX11_cutIs_2 l_X11_104 in_X11_isCut se_X11_isCut rfl rfl rfl ⟨Nat.le_of_ble_eq_true rfl, Nat.le_of_ble_eq_true rfl⟩ ⟨Nat.le_of_ble_eq_true rfl, Nat.le_of_ble_eq_true rfl⟩ (Nat.le_of_ble_eq_true rfl) ?_
  refine p_X11_isCut ⟨fun hc => ?_, fun hc => ?_⟩
  · replace h := h.1 hc
    refine a_if_ne (pc := 5) 10 dX11_cutIs_5 rfl ⟨fun _ => ?_, fun hc => absurd hc (by decide)⟩
    refine a_iload_n (pc := 10) dX11_cutIs_10 rfl ?_
    by_cases ho_11 : b < 0 ∨ 12 < b
    · replace h := h.1 ho_11
      refine a_tableOut 206 dX11_cutIs_11 ho_11 rfl ?_
      refine a_iconst (pc := 206) dX11_cutIs_206 (cnb rfl) ?_
      exact a_iretI (pc := 207) dX11_cutIs_207 rfl h
    · replace h := h.2
      by_cases he_11_0 : b = 0
      · replace h := h.1 he_11_0
        refine a_tableIn 76 dX11_cutIs_11 (by omega) (by omega) (off := 65) (by rw [he_11_0]; rfl) rfl ?_
        refine a_aload_n (pc := 76) dX11_cutIs_76 rfl ?_
        refine a_getr (pc := 77) dX11_cutIs_77 f_X11_19 rfl ?_
        refine a_getr (pc := 80) dX11_cutIs_80 f_X11_172 rfl ?_
        refine a_iload_n (pc := 83) dX11_cutIs_83 rfl ?_
        refine a_iald (pc := 84) dX11_cutIs_84 rfl h.1.1 h.1.2  ?_
        replace h := h.2
        exact a_iretI (pc := 85) dX11_cutIs_85 rfl h
      replace h := h.2
      by_cases he_11_1 : b = 1
      · replace h := h.1 he_11_1
        refine a_tableIn 86 dX11_cutIs_11 (by omega) (by omega) (off := 75) (by rw [he_11_1]; rfl) rfl ?_
        refine a_aload_n (pc := 86) dX11_cutIs_86 rfl ?_
        refine a_getr (pc := 87) dX11_cutIs_87 f_X11_19 rfl ?_
        refine a_getr (pc := 90) dX11_cutIs_90 f_X11_175 rfl ?_
        refine a_iload_n (pc := 93) dX11_cutIs_93 rfl ?_
        refine a_iald (pc := 94) dX11_cutIs_94 rfl h.1.1 h.1.2  ?_
        replace h := h.2
        exact a_iretI (pc := 95) dX11_cutIs_95 rfl h
      replace h := h.2
      by_cases he_11_2 : b = 2
      · replace h := h.1 he_11_2
        refine a_tableIn 96 dX11_cutIs_11 (by omega) (by omega) (off := 85) (by rw [he_11_2]; rfl) rfl ?_
        refine a_aload_n (pc := 96) dX11_cutIs_96 rfl ?_
        refine a_getr (pc := 97) dX11_cutIs_97 f_X11_19 rfl ?_
        refine a_getr (pc := 100) dX11_cutIs_100 f_X11_178 rfl ?_
        refine a_iload_n (pc := 103) dX11_cutIs_103 rfl ?_
        refine a_iald (pc := 104) dX11_cutIs_104 rfl h.1.1 h.1.2  ?_
        replace h := h.2
        exact a_iretI (pc := 105) dX11_cutIs_105 rfl h
      replace h := h.2
      by_cases he_11_3 : b = 3
      · replace h := h.1 he_11_3
        refine a_tableIn 106 dX11_cutIs_11 (by omega) (by omega) (off := 95) (by rw [he_11_3]; rfl) rfl ?_
        refine a_aload_n (pc := 106) dX11_cutIs_106 rfl ?_
        refine a_getr (pc := 107) dX11_cutIs_107 f_X11_19 rfl ?_
        refine a_getr (pc := 110) dX11_cutIs_110 f_X11_181 rfl ?_
        refine a_iload_n (pc := 113) dX11_cutIs_113 rfl ?_
        refine a_iald (pc := 114) dX11_cutIs_114 rfl h.1.1 h.1.2  ?_
        replace h := h.2
        exact a_iretI (pc := 115) dX11_cutIs_115 rfl h
      replace h := h.2
      by_cases he_11_4 : b = 4
      · replace h := h.1 he_11_4
        refine a_tableIn 116 dX11_cutIs_11 (by omega) (by omega) (off := 105) (by rw [he_11_4]; rfl) rfl ?_
        refine a_aload_n (pc := 116) dX11_cutIs_116 rfl ?_
        refine a_getr (pc := 117) dX11_cutIs_117 f_X11_19 rfl ?_
        refine a_getr (pc := 120) dX11_cutIs_120 f_X11_184 rfl ?_
        refine a_iload_n (pc := 123) dX11_cutIs_123 rfl ?_
        refine a_iald (pc := 124) dX11_cutIs_124 rfl h.1.1 h.1.2  ?_
        replace h := h.2
        exact a_iretI (pc := 125) dX11_cutIs_125 rfl h
      replace h := h.2
      by_cases he_11_5 : b = 5
      · replace h := h.1 he_11_5
        refine a_tableIn 126 dX11_cutIs_11 (by omega) (by omega) (off := 115) (by rw [he_11_5]; rfl) rfl ?_
        refine a_aload_n (pc := 126) dX11_cutIs_126 rfl ?_
        refine a_getr (pc := 127) dX11_cutIs_127 f_X11_19 rfl ?_
        refine a_getr (pc := 130) dX11_cutIs_130 f_X11_187 rfl ?_
        refine a_iload_n (pc := 133) dX11_cutIs_133 rfl ?_
        refine a_iald (pc := 134) dX11_cutIs_134 rfl h.1.1 h.1.2  ?_
        replace h := h.2
        exact a_iretI (pc := 135) dX11_cutIs_135 rfl h
      replace h := h.2
      by_cases he_11_6 : b = 6
      · replace h := h.1 he_11_6
        refine a_tableIn 136 dX11_cutIs_11 (by omega) (by omega) (off := 125) (by rw [he_11_6]; rfl) rfl ?_
        refine a_aload_n (pc := 136) dX11_cutIs_136 rfl ?_
        refine a_getr (pc := 137) dX11_cutIs_137 f_X11_19 rfl ?_
        refine a_getr (pc := 140) dX11_cutIs_140 f_X11_190 rfl ?_
        refine a_iload_n (pc := 143) dX11_cutIs_143 rfl ?_
        refine a_iald (pc := 144) dX11_cutIs_144 rfl h.1.1 h.1.2  ?_
        replace h := h.2
        exact a_iretI (pc := 145) dX11_cutIs_145 rfl h
      replace h := h.2
      by_cases he_11_7 : b = 7
      · replace h := h.1 he_11_7
        refine a_tableIn 146 dX11_cutIs_11 (by omega) (by omega) (off := 135) (by rw [he_11_7]; rfl) rfl ?_
        refine a_aload_n (pc := 146) dX11_cutIs_146 rfl ?_
        refine a_getr (pc := 147) dX11_cutIs_147 f_X11_19 rfl ?_
        refine a_getr (pc := 150) dX11_cutIs_150 f_X11_114 rfl ?_
        refine a_iload_n (pc := 153) dX11_cutIs_153 rfl ?_
        refine a_iald (pc := 154) dX11_cutIs_154 rfl h.1.1 h.1.2  ?_
        replace h := h.2
        exact a_iretI (pc := 155) dX11_cutIs_155 rfl h
      replace h := h.2
      by_cases he_11_8 : b = 8
      · replace h := h.1 he_11_8
        refine a_tableIn 156 dX11_cutIs_11 (by omega) (by omega) (off := 145) (by rw [he_11_8]; rfl) rfl ?_
        refine a_aload_n (pc := 156) dX11_cutIs_156 rfl ?_
        refine a_getr (pc := 157) dX11_cutIs_157 f_X11_49 rfl ?_
        refine a_getr (pc := 160) dX11_cutIs_160 f_X11_163 rfl ?_
        refine a_iload_n (pc := 163) dX11_cutIs_163 rfl ?_
        refine a_iald (pc := 164) dX11_cutIs_164 rfl h.1.1 h.1.2  ?_
        replace h := h.2
        exact a_iretI (pc := 165) dX11_cutIs_165 rfl h
      replace h := h.2
      by_cases he_11_9 : b = 9
      · replace h := h.1 he_11_9
        refine a_tableIn 166 dX11_cutIs_11 (by omega) (by omega) (off := 155) (by rw [he_11_9]; rfl) rfl ?_
        refine a_aload_n (pc := 166) dX11_cutIs_166 rfl ?_
        refine a_getr (pc := 167) dX11_cutIs_167 f_X11_49 rfl ?_
        refine a_getr (pc := 170) dX11_cutIs_170 f_X11_166 rfl ?_
        refine a_iload_n (pc := 173) dX11_cutIs_173 rfl ?_
        refine a_iald (pc := 174) dX11_cutIs_174 rfl h.1.1 h.1.2  ?_
        replace h := h.2
        exact a_iretI (pc := 175) dX11_cutIs_175 rfl h
      replace h := h.2
      by_cases he_11_10 : b = 10
      · replace h := h.1 he_11_10
        refine a_tableIn 176 dX11_cutIs_11 (by omega) (by omega) (off := 165) (by rw [he_11_10]; rfl) rfl ?_
        refine a_aload_n (pc := 176) dX11_cutIs_176 rfl ?_
        refine a_getr (pc := 177) dX11_cutIs_177 f_X11_49 rfl ?_
        refine a_getr (pc := 180) dX11_cutIs_180 f_X11_193 rfl ?_
        refine a_iload_n (pc := 183) dX11_cutIs_183 rfl ?_
        refine a_iald (pc := 184) dX11_cutIs_184 rfl h.1.1 h.1.2  ?_
        replace h := h.2
        exact a_iretI (pc := 185) dX11_cutIs_185 rfl h
      replace h := h.2
      by_cases he_11_11 : b = 11
      · replace h := h.1 he_11_11
        refine a_tableIn 186 dX11_cutIs_11 (by omega) (by omega) (off := 175) (by rw [he_11_11]; rfl) rfl ?_
        refine a_aload_n (pc := 186) dX11_cutIs_186 rfl ?_
        refine a_getr (pc := 187) dX11_cutIs_187 f_X11_49 rfl ?_
        refine a_getr (pc := 190) dX11_cutIs_190 f_X11_169 rfl ?_
        refine a_iload_n (pc := 193) dX11_cutIs_193 rfl ?_
        refine a_iald (pc := 194) dX11_cutIs_194 rfl h.1.1 h.1.2  ?_
        replace h := h.2
        exact a_iretI (pc := 195) dX11_cutIs_195 rfl h
      replace h := h.2
      by_cases he_11_12 : b = 12
      · replace h := h he_11_12
        refine a_tableIn 196 dX11_cutIs_11 (by omega) (by omega) (off := 185) (by rw [he_11_12]; rfl) rfl ?_
        refine a_aload_n (pc := 196) dX11_cutIs_196 rfl ?_
        refine a_getr (pc := 197) dX11_cutIs_197 f_X11_49 rfl ?_
        refine a_getr (pc := 200) dX11_cutIs_200 f_X11_196 rfl ?_
        refine a_iload_n (pc := 203) dX11_cutIs_203 rfl ?_
        refine a_iald (pc := 204) dX11_cutIs_204 rfl h.1.1 h.1.2  ?_
        replace h := h.2
        exact a_iretI (pc := 205) dX11_cutIs_205 rfl h
      exfalso; omega
  · replace h := h.2 hc
    refine a_if_ne (pc := 5) 10 dX11_cutIs_5 rfl ⟨fun hc => absurd hc (by decide), fun _ => ?_⟩
    refine a_iconst (pc := 8) dX11_cutIs_8 (cnb rfl) ?_
    exact a_iretI (pc := 9) dX11_cutIs_9 rfl h
set_option maxRecDepth 20000 in
theorem e_X11_cutIs {Q : Int → Me → Prop}  {a b : Int} {M : Me} (h :
    ((0 ≤ a ∧ a < M 3 8 →
    ((b < 0 ∨ 12 < b →
    Q (-1) M) ∧
    ((b = 0 →
    (0 ≤ a ∧ a < 16) ∧
    Q (M 4 a) M) ∧
    ((b = 1 →
    (0 ≤ a ∧ a < 16) ∧
    Q (M 5 a) M) ∧
    ((b = 2 →
    (0 ≤ a ∧ a < 16) ∧
    Q (M 6 a) M) ∧
    ((b = 3 →
    (0 ≤ a ∧ a < 16) ∧
    Q (M 7 a) M) ∧
    ((b = 4 →
    (0 ≤ a ∧ a < 16) ∧
    Q (M 8 a) M) ∧
    ((b = 5 →
    (0 ≤ a ∧ a < 16) ∧
    Q (M 9 a) M) ∧
    ((b = 6 →
    (0 ≤ a ∧ a < 16) ∧
    Q (M 10 a) M) ∧
    ((b = 7 →
    (0 ≤ a ∧ a < 16) ∧
    Q (M 11 a) M) ∧
    ((b = 8 →
    (0 ≤ a ∧ a < 16) ∧
    Q (M 39 a) M) ∧
    ((b = 9 →
    (0 ≤ a ∧ a < 16) ∧
    Q (M 40 a) M) ∧
    ((b = 10 →
    (0 ≤ a ∧ a < 16) ∧
    Q (M 41 a) M) ∧
    ((b = 11 →
    (0 ≤ a ∧ a < 16) ∧
    Q (M 38 a) M) ∧
    (b = 12 →
    (0 ≤ a ∧ a < 16) ∧
    Q (M 42 a) M))))))))))))))) ∧ (¬ (0 ≤ a ∧ a < M 3 8) →
    Q (-1) M))) : Calls 1 mX11_cutIs [.inr 0, .inl a, .inl b] M Q := Calls.of (by decide) (Nat.le_of_ble_eq_true rfl) (s_X11_cutIs_0  a b M h)
set_option maxRecDepth 20000 in
theorem s_X12_cutIs_0 {Q : Int → Me → Prop}  (a b : Int) (M : Me) (h :
    0 ≤ M 76 11 ∧
    ((0 ≤ a ∧ a < M 76 11 →
    ((b < 0 ∨ 12 < b →
    Q (-1) M) ∧
    ((b = 0 →
    (0 ≤ a ∧ a < 16) ∧
    Q (M 80 a) M) ∧
    ((b = 1 →
    (0 ≤ a ∧ a < 16) ∧
    Q (M 81 a) M) ∧
    ((b = 2 →
    (0 ≤ a ∧ a < 16) ∧
    Q (M 82 a) M) ∧
    ((b = 3 →
    (0 ≤ a ∧ a < 16) ∧
    Q (M 83 a) M) ∧
    ((b = 4 →
    (0 ≤ a ∧ a < 16) ∧
    Q (M 84 a) M) ∧
    ((b = 5 →
    (0 ≤ a ∧ a < 16) ∧
    Q (M 85 a) M) ∧
    ((b = 6 →
    (0 ≤ a ∧ a < 16) ∧
    Q (M 86 a) M) ∧
    ((b = 7 →
    (0 ≤ a ∧ a < 16) ∧
    Q (M 87 a) M) ∧
    ((b = 8 →
    cn (16 + a) ∧
    (0 ≤ 16 + a ∧ 16 + a < 82) ∧
    Q (M 77 (16 + a)) M) ∧
    ((b = 9 →
    cn (32 + a) ∧
    (0 ≤ 32 + a ∧ 32 + a < 82) ∧
    Q (M 77 (32 + a)) M) ∧
    ((b = 10 →
    cn (48 + a) ∧
    (0 ≤ 48 + a ∧ 48 + a < 82) ∧
    Q (M 77 (48 + a)) M) ∧
    ((b = 11 →
    cn (0 + a) ∧
    (0 ≤ 0 + a ∧ 0 + a < 82) ∧
    Q (M 77 (0 + a)) M) ∧
    (b = 12 →
    cn (64 + a) ∧
    (0 ≤ 64 + a ∧ 64 + a < 82) ∧
    Q (M 77 (64 + a)) M))))))))))))))) ∧ (¬ (0 ≤ a ∧ a < M 76 11) →
    Q (-1) M))) :
    Go (km 2 mX12_cutIs Q) 0 [some (.inr 76), some (.inl a), some (.inl b)] [] M := by
  refine a_aload_n (pc := 0) dX12_cutIs_0 rfl ?_
  refine a_iload_n (pc := 1) dX12_cutIs_1 rfl ?_
  refine a_callVi (pc := 2) (d := 1) (st := []) (o := 76) [.inl a] dX12_cutIs_2 l_X12_164 in_X12_isCut se_X12_isCut rfl rfl rfl ⟨Nat.le_of_ble_eq_true rfl, Nat.le_of_ble_eq_true rfl⟩ ⟨Nat.le_of_ble_eq_true rfl, Nat.le_of_ble_eq_true rfl⟩ (Nat.le_of_ble_eq_true rfl) ?_
  have hp2_1 := h.1
  replace h := h.2
  refine p_X12_isCut hp2_1 ⟨fun hc => ?_, fun hc => ?_⟩
  · replace h := h.1 hc
    refine a_if_ne (pc := 5) 10 dX12_cutIs_5 rfl ⟨fun _ => ?_, fun hc => absurd hc (by decide)⟩
    refine a_iload_n (pc := 10) dX12_cutIs_10 rfl ?_
    by_cases ho_11 : b < 0 ∨ 12 < b
    · replace h := h.1 ho_11
      refine a_tableOut 181 dX12_cutIs_11 ho_11 rfl ?_
      refine a_iconst (pc := 181) dX12_cutIs_181 (cnb rfl) ?_
      exact a_iretI (pc := 182) dX12_cutIs_182 rfl h
    · replace h := h.2
      by_cases he_11_0 : b = 0
      · replace h := h.1 he_11_0
        refine a_tableIn 76 dX12_cutIs_11 (by omega) (by omega) (off := 65) (by rw [he_11_0]; rfl) rfl ?_
        refine a_aload_n (pc := 76) dX12_cutIs_76 rfl ?_
        refine a_getr (pc := 77) dX12_cutIs_77 f_X12_19 rfl ?_
        refine a_iload_n (pc := 80) dX12_cutIs_80 rfl ?_
        refine a_iald (pc := 81) dX12_cutIs_81 rfl h.1.1 h.1.2  ?_
        replace h := h.2
        exact a_iretI (pc := 82) dX12_cutIs_82 rfl h
      replace h := h.2
      by_cases he_11_1 : b = 1
      · replace h := h.1 he_11_1
        refine a_tableIn 83 dX12_cutIs_11 (by omega) (by omega) (off := 72) (by rw [he_11_1]; rfl) rfl ?_
        refine a_aload_n (pc := 83) dX12_cutIs_83 rfl ?_
        refine a_getr (pc := 84) dX12_cutIs_84 f_X12_22 rfl ?_
        refine a_iload_n (pc := 87) dX12_cutIs_87 rfl ?_
        refine a_iald (pc := 88) dX12_cutIs_88 rfl h.1.1 h.1.2  ?_
        replace h := h.2
        exact a_iretI (pc := 89) dX12_cutIs_89 rfl h
      replace h := h.2
      by_cases he_11_2 : b = 2
      · replace h := h.1 he_11_2
        refine a_tableIn 90 dX12_cutIs_11 (by omega) (by omega) (off := 79) (by rw [he_11_2]; rfl) rfl ?_
        refine a_aload_n (pc := 90) dX12_cutIs_90 rfl ?_
        refine a_getr (pc := 91) dX12_cutIs_91 f_X12_25 rfl ?_
        refine a_iload_n (pc := 94) dX12_cutIs_94 rfl ?_
        refine a_iald (pc := 95) dX12_cutIs_95 rfl h.1.1 h.1.2  ?_
        replace h := h.2
        exact a_iretI (pc := 96) dX12_cutIs_96 rfl h
      replace h := h.2
      by_cases he_11_3 : b = 3
      · replace h := h.1 he_11_3
        refine a_tableIn 97 dX12_cutIs_11 (by omega) (by omega) (off := 86) (by rw [he_11_3]; rfl) rfl ?_
        refine a_aload_n (pc := 97) dX12_cutIs_97 rfl ?_
        refine a_getr (pc := 98) dX12_cutIs_98 f_X12_28 rfl ?_
        refine a_iload_n (pc := 101) dX12_cutIs_101 rfl ?_
        refine a_iald (pc := 102) dX12_cutIs_102 rfl h.1.1 h.1.2  ?_
        replace h := h.2
        exact a_iretI (pc := 103) dX12_cutIs_103 rfl h
      replace h := h.2
      by_cases he_11_4 : b = 4
      · replace h := h.1 he_11_4
        refine a_tableIn 104 dX12_cutIs_11 (by omega) (by omega) (off := 93) (by rw [he_11_4]; rfl) rfl ?_
        refine a_aload_n (pc := 104) dX12_cutIs_104 rfl ?_
        refine a_getr (pc := 105) dX12_cutIs_105 f_X12_31 rfl ?_
        refine a_iload_n (pc := 108) dX12_cutIs_108 rfl ?_
        refine a_iald (pc := 109) dX12_cutIs_109 rfl h.1.1 h.1.2  ?_
        replace h := h.2
        exact a_iretI (pc := 110) dX12_cutIs_110 rfl h
      replace h := h.2
      by_cases he_11_5 : b = 5
      · replace h := h.1 he_11_5
        refine a_tableIn 111 dX12_cutIs_11 (by omega) (by omega) (off := 100) (by rw [he_11_5]; rfl) rfl ?_
        refine a_aload_n (pc := 111) dX12_cutIs_111 rfl ?_
        refine a_getr (pc := 112) dX12_cutIs_112 f_X12_34 rfl ?_
        refine a_iload_n (pc := 115) dX12_cutIs_115 rfl ?_
        refine a_iald (pc := 116) dX12_cutIs_116 rfl h.1.1 h.1.2  ?_
        replace h := h.2
        exact a_iretI (pc := 117) dX12_cutIs_117 rfl h
      replace h := h.2
      by_cases he_11_6 : b = 6
      · replace h := h.1 he_11_6
        refine a_tableIn 118 dX12_cutIs_11 (by omega) (by omega) (off := 107) (by rw [he_11_6]; rfl) rfl ?_
        refine a_aload_n (pc := 118) dX12_cutIs_118 rfl ?_
        refine a_getr (pc := 119) dX12_cutIs_119 f_X12_37 rfl ?_
        refine a_iload_n (pc := 122) dX12_cutIs_122 rfl ?_
        refine a_iald (pc := 123) dX12_cutIs_123 rfl h.1.1 h.1.2  ?_
        replace h := h.2
        exact a_iretI (pc := 124) dX12_cutIs_124 rfl h
      replace h := h.2
      by_cases he_11_7 : b = 7
      · replace h := h.1 he_11_7
        refine a_tableIn 125 dX12_cutIs_11 (by omega) (by omega) (off := 114) (by rw [he_11_7]; rfl) rfl ?_
        refine a_aload_n (pc := 125) dX12_cutIs_125 rfl ?_
        refine a_getr (pc := 126) dX12_cutIs_126 f_X12_40 rfl ?_
        refine a_iload_n (pc := 129) dX12_cutIs_129 rfl ?_
        refine a_iald (pc := 130) dX12_cutIs_130 rfl h.1.1 h.1.2  ?_
        replace h := h.2
        exact a_iretI (pc := 131) dX12_cutIs_131 rfl h
      replace h := h.2
      by_cases he_11_8 : b = 8
      · replace h := h.1 he_11_8
        refine a_tableIn 132 dX12_cutIs_11 (by omega) (by omega) (off := 121) (by rw [he_11_8]; rfl) rfl ?_
        refine a_aload_n (pc := 132) dX12_cutIs_132 rfl ?_
        refine a_getr (pc := 133) dX12_cutIs_133 f_X12_7 rfl ?_
        refine a_bipush (pc := 136) dX12_cutIs_136 (by decide) (cnb rfl) ?_
        refine a_iload_n (pc := 138) dX12_cutIs_138 rfl ?_
        refine a_iadd (pc := 139) dX12_cutIs_139 h.1 ?_
        replace h := h.2
        refine a_iald (pc := 140) dX12_cutIs_140 rfl h.1.1 h.1.2  ?_
        replace h := h.2
        exact a_iretI (pc := 141) dX12_cutIs_141 rfl h
      replace h := h.2
      by_cases he_11_9 : b = 9
      · replace h := h.1 he_11_9
        refine a_tableIn 142 dX12_cutIs_11 (by omega) (by omega) (off := 131) (by rw [he_11_9]; rfl) rfl ?_
        refine a_aload_n (pc := 142) dX12_cutIs_142 rfl ?_
        refine a_getr (pc := 143) dX12_cutIs_143 f_X12_7 rfl ?_
        refine a_bipush (pc := 146) dX12_cutIs_146 (by decide) (cnb rfl) ?_
        refine a_iload_n (pc := 148) dX12_cutIs_148 rfl ?_
        refine a_iadd (pc := 149) dX12_cutIs_149 h.1 ?_
        replace h := h.2
        refine a_iald (pc := 150) dX12_cutIs_150 rfl h.1.1 h.1.2  ?_
        replace h := h.2
        exact a_iretI (pc := 151) dX12_cutIs_151 rfl h
      replace h := h.2
      by_cases he_11_10 : b = 10
      · replace h := h.1 he_11_10
        refine a_tableIn 152 dX12_cutIs_11 (by omega) (by omega) (off := 141) (by rw [he_11_10]; rfl) rfl ?_
        refine a_aload_n (pc := 152) dX12_cutIs_152 rfl ?_
        refine a_getr (pc := 153) dX12_cutIs_153 f_X12_7 rfl ?_
        refine a_bipush (pc := 156) dX12_cutIs_156 (by decide) (cnb rfl) ?_
        refine a_iload_n (pc := 158) dX12_cutIs_158 rfl ?_
        refine a_iadd (pc := 159) dX12_cutIs_159 h.1 ?_
        replace h := h.2
        refine a_iald (pc := 160) dX12_cutIs_160 rfl h.1.1 h.1.2  ?_
        replace h := h.2
        exact a_iretI (pc := 161) dX12_cutIs_161 rfl h
      replace h := h.2
      by_cases he_11_11 : b = 11
      · replace h := h.1 he_11_11
        refine a_tableIn 162 dX12_cutIs_11 (by omega) (by omega) (off := 151) (by rw [he_11_11]; rfl) rfl ?_
        refine a_aload_n (pc := 162) dX12_cutIs_162 rfl ?_
        refine a_getr (pc := 163) dX12_cutIs_163 f_X12_7 rfl ?_
        refine a_iconst (pc := 166) dX12_cutIs_166 (cnb rfl) ?_
        refine a_iload_n (pc := 167) dX12_cutIs_167 rfl ?_
        refine a_iadd (pc := 168) dX12_cutIs_168 h.1 ?_
        replace h := h.2
        refine a_iald (pc := 169) dX12_cutIs_169 rfl h.1.1 h.1.2  ?_
        replace h := h.2
        exact a_iretI (pc := 170) dX12_cutIs_170 rfl h
      replace h := h.2
      by_cases he_11_12 : b = 12
      · replace h := h he_11_12
        refine a_tableIn 171 dX12_cutIs_11 (by omega) (by omega) (off := 160) (by rw [he_11_12]; rfl) rfl ?_
        refine a_aload_n (pc := 171) dX12_cutIs_171 rfl ?_
        refine a_getr (pc := 172) dX12_cutIs_172 f_X12_7 rfl ?_
        refine a_bipush (pc := 175) dX12_cutIs_175 (by decide) (cnb rfl) ?_
        refine a_iload_n (pc := 177) dX12_cutIs_177 rfl ?_
        refine a_iadd (pc := 178) dX12_cutIs_178 h.1 ?_
        replace h := h.2
        refine a_iald (pc := 179) dX12_cutIs_179 rfl h.1.1 h.1.2  ?_
        replace h := h.2
        exact a_iretI (pc := 180) dX12_cutIs_180 rfl h
      exfalso; omega
  · replace h := h.2 hc
    refine a_if_ne (pc := 5) 10 dX12_cutIs_5 rfl ⟨fun hc => absurd hc (by decide), fun _ => ?_⟩
    refine a_iconst (pc := 8) dX12_cutIs_8 (cnb rfl) ?_
    exact a_iretI (pc := 9) dX12_cutIs_9 rfl h
set_option maxRecDepth 20000 in
theorem e_X12_cutIs {Q : Int → Me → Prop}  {a b : Int} {M : Me} (h :
    0 ≤ M 76 11 ∧
    ((0 ≤ a ∧ a < M 76 11 →
    ((b < 0 ∨ 12 < b →
    Q (-1) M) ∧
    ((b = 0 →
    (0 ≤ a ∧ a < 16) ∧
    Q (M 80 a) M) ∧
    ((b = 1 →
    (0 ≤ a ∧ a < 16) ∧
    Q (M 81 a) M) ∧
    ((b = 2 →
    (0 ≤ a ∧ a < 16) ∧
    Q (M 82 a) M) ∧
    ((b = 3 →
    (0 ≤ a ∧ a < 16) ∧
    Q (M 83 a) M) ∧
    ((b = 4 →
    (0 ≤ a ∧ a < 16) ∧
    Q (M 84 a) M) ∧
    ((b = 5 →
    (0 ≤ a ∧ a < 16) ∧
    Q (M 85 a) M) ∧
    ((b = 6 →
    (0 ≤ a ∧ a < 16) ∧
    Q (M 86 a) M) ∧
    ((b = 7 →
    (0 ≤ a ∧ a < 16) ∧
    Q (M 87 a) M) ∧
    ((b = 8 →
    cn (16 + a) ∧
    (0 ≤ 16 + a ∧ 16 + a < 82) ∧
    Q (M 77 (16 + a)) M) ∧
    ((b = 9 →
    cn (32 + a) ∧
    (0 ≤ 32 + a ∧ 32 + a < 82) ∧
    Q (M 77 (32 + a)) M) ∧
    ((b = 10 →
    cn (48 + a) ∧
    (0 ≤ 48 + a ∧ 48 + a < 82) ∧
    Q (M 77 (48 + a)) M) ∧
    ((b = 11 →
    cn (0 + a) ∧
    (0 ≤ 0 + a ∧ 0 + a < 82) ∧
    Q (M 77 (0 + a)) M) ∧
    (b = 12 →
    cn (64 + a) ∧
    (0 ≤ 64 + a ∧ 64 + a < 82) ∧
    Q (M 77 (64 + a)) M))))))))))))))) ∧ (¬ (0 ≤ a ∧ a < M 76 11) →
    Q (-1) M))) : Calls 2 mX12_cutIs [.inr 76, .inl a, .inl b] M Q := Calls.of (by decide) (Nat.le_of_ble_eq_true rfl) (s_X12_cutIs_0  a b M h)
