set_option maxRecDepth 20000 in
theorem s_J1_indexOf_4cfef_0 {Q : Int → Me → Prop}  (a b c : Int) (M : Me) (h :
    ((0 ≤ a ∧ a ≤ 255 →
    ((max b 0 < min c 11 →
    Calls 0 mJ1_indexOfChar_4cfef [.inr 1002, .inl a, .inl (max b 0), .inl (min c 11)] M (fun r33 M33 =>
    Q r33 M33)) ∧ (min c 11 ≤ max b 0 →
    Q (-1) M))) ∧ (¬ (0 ≤ a ∧ a ≤ 255) →
    Q (-1) M))) :
    Go (km 1 mJ1_indexOf_4cfef Q) 0 [some (.inr 1002), some (.inl a), some (.inl b), some (.inl c)] [] M := by
  refine a_iload_n (pc := 0) dJ1_indexOf_4cfef_0 rfl ?_
  refine a_callSi (pc := 1) (d := 0) (st := []) [.inl a] dJ1_indexOf_4cfef_1 l_J1_88 st_J1_canEncode_9a6ad rfl ⟨Nat.le_of_ble_eq_true rfl, Nat.le_of_ble_eq_true rfl⟩ ⟨Nat.le_of_ble_eq_true rfl, Nat.le_of_ble_eq_true rfl⟩ (Nat.le_of_ble_eq_true rfl) ?_
  refine p_canEncode ⟨fun hc => ?_, fun hc => ?_⟩
  · replace h := h.1 hc
    refine a_if_ne (pc := 4) 9 dJ1_indexOf_4cfef_4 rfl ⟨fun _ => ?_, fun hc => absurd hc (by decide)⟩
    refine a_iload_n (pc := 9) dJ1_indexOf_4cfef_9 rfl ?_
    refine a_iconst (pc := 10) dJ1_indexOf_4cfef_10 (cnb rfl) ?_
    refine a_mmax (pc := 11) dJ1_indexOf_4cfef_11 ml_J1_92 mt_st_max mt_ini mt_cd_max ⟨Nat.le_of_ble_eq_true rfl, Nat.le_of_ble_eq_true rfl⟩ ⟨Nat.le_of_ble_eq_true rfl, Nat.le_of_ble_eq_true rfl⟩ (Nat.le_of_ble_eq_true rfl) ?_
    refine a_istore_n (pc := 14) dJ1_indexOf_4cfef_14 (Nat.le_of_ble_eq_true rfl) ?_
    refine a_iload_n (pc := 15) dJ1_indexOf_4cfef_15 rfl ?_
    refine a_aload_n (pc := 16) dJ1_indexOf_4cfef_16 rfl ?_
    refine a_alenS (pc := 17) dJ1_indexOf_4cfef_17 ?_
    refine a_mmin (pc := 18) dJ1_indexOf_4cfef_18 ml_J1_38 mt_st_min mt_ini mt_cd_min ⟨Nat.le_of_ble_eq_true rfl, Nat.le_of_ble_eq_true rfl⟩ ⟨Nat.le_of_ble_eq_true rfl, Nat.le_of_ble_eq_true rfl⟩ (Nat.le_of_ble_eq_true rfl) ?_
    refine a_istore_n (pc := 21) dJ1_indexOf_4cfef_21 (Nat.le_of_ble_eq_true rfl) ?_
    refine a_iload_n (pc := 22) dJ1_indexOf_4cfef_22 rfl ?_
    refine a_iload_n (pc := 23) dJ1_indexOf_4cfef_23 rfl ?_
    refine a_icmp_lt (pc := 24) 29 dJ1_indexOf_4cfef_24 rfl ⟨fun hc => ?_, fun hc => ?_⟩
    · replace h := h.1 hc
      refine a_aload_n (pc := 29) dJ1_indexOf_4cfef_29 rfl ?_
      refine a_iload_n (pc := 30) dJ1_indexOf_4cfef_30 rfl ?_
      refine a_iload_n (pc := 31) dJ1_indexOf_4cfef_31 rfl ?_
      refine a_iload_n (pc := 32) dJ1_indexOf_4cfef_32 rfl ?_
      refine a_callSi (pc := 33) (d := 0) (st := []) [.inr 1002, .inl a, .inl (max b 0), .inl (min c 11)] dJ1_indexOf_4cfef_33 l_J1_95 st_J1_indexOfChar_4cfef rfl ⟨Nat.le_of_ble_eq_true rfl, Nat.le_of_ble_eq_true rfl⟩ ⟨Nat.le_of_ble_eq_true rfl, Nat.le_of_ble_eq_true rfl⟩ (Nat.le_of_ble_eq_true rfl) ?_
      refine Calls.mono (fun r33 M33 hr33 hM33 h => ?_) h
      exact a_iretI (pc := 36) dJ1_indexOf_4cfef_36 rfl h
    · replace h := h.2 hc
      refine a_iconst (pc := 27) dJ1_indexOf_4cfef_27 (cnb rfl) ?_
      exact a_iretI (pc := 28) dJ1_indexOf_4cfef_28 rfl h
  · replace h := h.2 hc
    refine a_if_ne (pc := 4) 9 dJ1_indexOf_4cfef_4 rfl ⟨fun hc => absurd hc (by decide), fun _ => ?_⟩
    refine a_iconst (pc := 7) dJ1_indexOf_4cfef_7 (cnb rfl) ?_
    exact a_iretI (pc := 8) dJ1_indexOf_4cfef_8 rfl h
set_option maxRecDepth 20000 in
theorem e_J1_indexOf_4cfef {Q : Int → Me → Prop}  {a b c : Int} {M : Me} (h :
    ((0 ≤ a ∧ a ≤ 255 →
    ((max b 0 < min c 11 →
    Calls 0 mJ1_indexOfChar_4cfef [.inr 1002, .inl a, .inl (max b 0), .inl (min c 11)] M (fun r33 M33 =>
    Q r33 M33)) ∧ (min c 11 ≤ max b 0 →
    Q (-1) M))) ∧ (¬ (0 ≤ a ∧ a ≤ 255) →
    Q (-1) M))) : Calls 1 mJ1_indexOf_4cfef [.inr 1002, .inl a, .inl b, .inl c] M Q := Calls.of (by decide) (Nat.le_of_ble_eq_true rfl) (s_J1_indexOf_4cfef_0  a b c M h)
set_option maxRecDepth 20000 in
theorem s_J0_indexOf_7cf53_0 {Q : Int → Me → Prop}  (a b : Int) (M : Me) (h :
    Calls 1 mJ1_indexOf_4cfef [.inr 1002, .inl a, .inl b, .inl 11] M (fun r17 M17 =>
    Q r17 M17)) :
    Go (km 7 mJ0_indexOf_7cf53 Q) 0 [some (.inr 1001), some (.inl a), some (.inl b)] [] M := by
  refine a_aload_n (pc := 0) dJ0_indexOf_7cf53_0 rfl ?_
  refine a_callVs (pc := 1) (d := 0) (st := []) [] dJ0_indexOf_7cf53_1 l_J0_492 in_J0_isLatin1_aae02 se_J0_isLatin1_aae02 rfl rfl ⟨Nat.le_of_ble_eq_true rfl, Nat.le_of_ble_eq_true rfl⟩ ⟨Nat.le_of_ble_eq_true rfl, Nat.le_of_ble_eq_true rfl⟩ (Nat.le_of_ble_eq_true rfl) ?_
  refine p_isLatin1 ?_
  refine a_if_eq (pc := 4) 23 dJ0_indexOf_7cf53_4 rfl ⟨fun hc => absurd hc (by decide), fun _ => ?_⟩
  refine a_aload_n (pc := 7) dJ0_indexOf_7cf53_7 rfl ?_
  refine a_getSv (pc := 8) dJ0_indexOf_7cf53_8 rfl ?_
  refine a_iload_n (pc := 11) dJ0_indexOf_7cf53_11 rfl ?_
  refine a_iload_n (pc := 12) dJ0_indexOf_7cf53_12 rfl ?_
  refine a_aload_n (pc := 13) dJ0_indexOf_7cf53_13 rfl ?_
  refine a_callVs (pc := 14) (d := 1) (st := [.inl b, .inl a, .inr 1002]) [] dJ0_indexOf_7cf53_14 l_J0_505 in_J0_length_8abf5 se_J0_length_8abf5 rfl rfl ⟨Nat.le_of_ble_eq_true rfl, Nat.le_of_ble_eq_true rfl⟩ ⟨Nat.le_of_ble_eq_true rfl, Nat.le_of_ble_eq_true rfl⟩ (Nat.le_of_ble_eq_true rfl) ?_
  refine p_lengthS ?_
  refine a_callSi (pc := 17) (d := 1) (st := []) [.inr 1002, .inl a, .inl b, .inl 11] dJ0_indexOf_7cf53_17 l_J0_637 st_J1_indexOf_4cfef rfl ⟨Nat.le_of_ble_eq_true rfl, Nat.le_of_ble_eq_true rfl⟩ ⟨Nat.le_of_ble_eq_true rfl, Nat.le_of_ble_eq_true rfl⟩ (Nat.le_of_ble_eq_true rfl) ?_
  refine Calls.mono (fun r17 M17 hr17 hM17 h => ?_) h
  refine a_goto (pc := 20) 36 dJ0_indexOf_7cf53_20 rfl ?_
  exact a_iretI (pc := 36) dJ0_indexOf_7cf53_36 rfl h
set_option maxRecDepth 20000 in
theorem e_J0_indexOf_7cf53 {Q : Int → Me → Prop}  {a b : Int} {M : Me} (h :
    Calls 1 mJ1_indexOf_4cfef [.inr 1002, .inl a, .inl b, .inl 11] M (fun r17 M17 =>
    Q r17 M17)) : Calls 7 mJ0_indexOf_7cf53 [.inr 1001, .inl a, .inl b] M Q := Calls.of (by decide) (Nat.le_of_ble_eq_true rfl) (s_J0_indexOf_7cf53_0  a b M h)
set_option maxRecDepth 20000 in
theorem s_J0_indexOf_0f7a4_0 {Q : Int → Me → Prop}  (a : Int) (M : Me) (h :
    Calls 7 mJ0_indexOf_7cf53 [.inr 1001, .inl a, .inl 0] M (fun r3 M3 =>
    Q r3 M3)) :
    Go (km 8 mJ0_indexOf_0f7a4 Q) 0 [some (.inr 1001), some (.inl a)] [] M := by
  refine a_aload_n (pc := 0) dJ0_indexOf_0f7a4_0 rfl ?_
  refine a_iload_n (pc := 1) dJ0_indexOf_0f7a4_1 rfl ?_
  refine a_iconst (pc := 2) dJ0_indexOf_0f7a4_2 (cnb rfl) ?_
  refine a_callVs (pc := 3) (d := 7) (st := []) [.inl a, .inl 0] dJ0_indexOf_0f7a4_3 l_J0_633 in_J0_indexOf_7cf53 se_J0_indexOf_7cf53 rfl rfl ⟨Nat.le_of_ble_eq_true rfl, Nat.le_of_ble_eq_true rfl⟩ ⟨Nat.le_of_ble_eq_true rfl, Nat.le_of_ble_eq_true rfl⟩ (Nat.le_of_ble_eq_true rfl) ?_
  refine Calls.mono (fun r3 M3 hr3 hM3 h => ?_) h
  exact a_iretI (pc := 6) dJ0_indexOf_0f7a4_6 rfl h
set_option maxRecDepth 20000 in
theorem e_J0_indexOf_0f7a4 {Q : Int → Me → Prop}  {a : Int} {M : Me} (h :
    Calls 7 mJ0_indexOf_7cf53 [.inr 1001, .inl a, .inl 0] M (fun r3 M3 =>
    Q r3 M3)) : Calls 8 mJ0_indexOf_0f7a4 [.inr 1001, .inl a] M Q := Calls.of (by decide) (Nat.le_of_ble_eq_true rfl) (s_J0_indexOf_0f7a4_0  a M h)
