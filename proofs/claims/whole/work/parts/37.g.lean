set_option maxRecDepth 20000 in
theorem s_J6_compare_7cf53_0 {Q : Int → Me → Prop}  (a b : Int) (M : Me) (h :
    ((b ≤ a →
    ((a ≠ b →
    Q 1 M) ∧ (a = b →
    Q 0 M))) ∧ (a < b →
    Q (-1) M))) :
    Go (km 0 mJ6_compare_7cf53 Q) 0 [some (.inl a), some (.inl b)] [] M := by
  refine a_iload_n (pc := 0) dJ6_compare_7cf53_0 rfl ?_
  refine a_iload_n (pc := 1) dJ6_compare_7cf53_1 rfl ?_
  refine a_icmp_ge (pc := 2) 9 dJ6_compare_7cf53_2 rfl ⟨fun hc => ?_, fun hc => ?_⟩
  · replace h := h.1 hc
    refine a_iload_n (pc := 9) dJ6_compare_7cf53_9 rfl ?_
    refine a_iload_n (pc := 10) dJ6_compare_7cf53_10 rfl ?_
    refine a_icmp_ne (pc := 11) 18 dJ6_compare_7cf53_11 rfl ⟨fun hc => ?_, fun hc => ?_⟩
    · replace h := h.1 hc
      refine a_iconst (pc := 18) dJ6_compare_7cf53_18 (cnb rfl) ?_
      exact a_iretI (pc := 19) dJ6_compare_7cf53_19 rfl h
    · replace h := h.2 hc
      refine a_iconst (pc := 14) dJ6_compare_7cf53_14 (cnb rfl) ?_
      refine a_goto (pc := 15) 19 dJ6_compare_7cf53_15 rfl ?_
      exact a_iretI (pc := 19) dJ6_compare_7cf53_19 rfl h
  · replace h := h.2 hc
    refine a_iconst (pc := 5) dJ6_compare_7cf53_5 (cnb rfl) ?_
    refine a_goto (pc := 6) 19 dJ6_compare_7cf53_6 rfl ?_
    exact a_iretI (pc := 19) dJ6_compare_7cf53_19 rfl h
set_option maxRecDepth 20000 in
theorem e_J6_compare_7cf53 {Q : Int → Me → Prop}  {a b : Int} {M : Me} (h :
    ((b ≤ a →
    ((a ≠ b →
    Q 1 M) ∧ (a = b →
    Q 0 M))) ∧ (a < b →
    Q (-1) M))) : Calls 0 mJ6_compare_7cf53 [.inl a, .inl b] M Q := Calls.of (by decide) (Nat.le_of_ble_eq_true rfl) (s_J6_compare_7cf53_0  a b M h)
set_option maxRecDepth 20000 in
theorem s_J6_signum_0f7a4_0 {Q : Int → Me → Prop}  (a : Int) (M : Me) (h :
    cn (-a) ∧
    Q (bor (bshr a 31) (bushr (-a) 31)) M) :
    Go (km 0 mJ6_signum_0f7a4 Q) 0 [some (.inl a)] [] M := by
  refine a_iload_n (pc := 0) dJ6_signum_0f7a4_0 rfl ?_
  refine a_bipush (pc := 1) dJ6_signum_0f7a4_1 (by decide) (cnb rfl) ?_
  refine a_ishr (pc := 3) dJ6_signum_0f7a4_3 ?_
  refine a_iload_n (pc := 4) dJ6_signum_0f7a4_4 rfl ?_
  refine a_ineg (pc := 5) dJ6_signum_0f7a4_5 h.1 ?_
  replace h := h.2
  refine a_bipush (pc := 6) dJ6_signum_0f7a4_6 (by decide) (cnb rfl) ?_
  refine a_iushr (pc := 8) dJ6_signum_0f7a4_8 ?_
  refine a_ior (pc := 9) dJ6_signum_0f7a4_9 ?_
  exact a_iretI (pc := 10) dJ6_signum_0f7a4_10 rfl h
set_option maxRecDepth 20000 in
theorem e_J6_signum_0f7a4 {Q : Int → Me → Prop}  {a : Int} {M : Me} (h :
    cn (-a) ∧
    Q (bor (bshr a 31) (bushr (-a) 31)) M) : Calls 0 mJ6_signum_0f7a4 [.inl a] M Q := Calls.of (by decide) (Nat.le_of_ble_eq_true rfl) (s_J6_signum_0f7a4_0  a M h)
set_option maxRecDepth 20000 in
theorem s_J6_bitCount_0f7a4_0 {Q : Int → Me → Prop}  (a : Int) (M : Me) (h :
    cn (a - (band (bushr a 1) 1431655765)) ∧
    cn ((band (a - (band (bushr a 1) 1431655765)) 858993459) + (band (bushr (a - (band (bushr a 1) 1431655765)) 2) 858993459)) ∧
    cn (((band (a - (band (bushr a 1) 1431655765)) 858993459) + (band (bushr (a - (band (bushr a 1) 1431655765)) 2) 858993459)) + (bushr ((band (a - (band (bushr a 1) 1431655765)) 858993459) + (band (bushr (a - (band (bushr a 1) 1431655765)) 2) 858993459)) 4)) ∧
    cn ((band (((band (a - (band (bushr a 1) 1431655765)) 858993459) + (band (bushr (a - (band (bushr a 1) 1431655765)) 2) 858993459)) + (bushr ((band (a - (band (bushr a 1) 1431655765)) 858993459) + (band (bushr (a - (band (bushr a 1) 1431655765)) 2) 858993459)) 4)) 252645135) + (bushr (band (((band (a - (band (bushr a 1) 1431655765)) 858993459) + (band (bushr (a - (band (bushr a 1) 1431655765)) 2) 858993459)) + (bushr ((band (a - (band (bushr a 1) 1431655765)) 858993459) + (band (bushr (a - (band (bushr a 1) 1431655765)) 2) 858993459)) 4)) 252645135) 8)) ∧
    cn (((band (((band (a - (band (bushr a 1) 1431655765)) 858993459) + (band (bushr (a - (band (bushr a 1) 1431655765)) 2) 858993459)) + (bushr ((band (a - (band (bushr a 1) 1431655765)) 858993459) + (band (bushr (a - (band (bushr a 1) 1431655765)) 2) 858993459)) 4)) 252645135) + (bushr (band (((band (a - (band (bushr a 1) 1431655765)) 858993459) + (band (bushr (a - (band (bushr a 1) 1431655765)) 2) 858993459)) + (bushr ((band (a - (band (bushr a 1) 1431655765)) 858993459) + (band (bushr (a - (band (bushr a 1) 1431655765)) 2) 858993459)) 4)) 252645135) 8)) + (bushr ((band (((band (a - (band (bushr a 1) 1431655765)) 858993459) + (band (bushr (a - (band (bushr a 1) 1431655765)) 2) 858993459)) + (bushr ((band (a - (band (bushr a 1) 1431655765)) 858993459) + (band (bushr (a - (band (bushr a 1) 1431655765)) 2) 858993459)) 4)) 252645135) + (bushr (band (((band (a - (band (bushr a 1) 1431655765)) 858993459) + (band (bushr (a - (band (bushr a 1) 1431655765)) 2) 858993459)) + (bushr ((band (a - (band (bushr a 1) 1431655765)) 858993459) + (band (bushr (a - (band (bushr a 1) 1431655765)) 2) 858993459)) 4)) 252645135) 8)) 16)) ∧
    Q (band (((band (((band (a - (band (bushr a 1) 1431655765)) 858993459) + (band (bushr (a - (band (bushr a 1) 1431655765)) 2) 858993459)) + (bushr ((band (a - (band (bushr a 1) 1431655765)) 858993459) + (band (bushr (a - (band (bushr a 1) 1431655765)) 2) 858993459)) 4)) 252645135) + (bushr (band (((band (a - (band (bushr a 1) 1431655765)) 858993459) + (band (bushr (a - (band (bushr a 1) 1431655765)) 2) 858993459)) + (bushr ((band (a - (band (bushr a 1) 1431655765)) 858993459) + (band (bushr (a - (band (bushr a 1) 1431655765)) 2) 858993459)) 4)) 252645135) 8)) + (bushr ((band (((band (a - (band (bushr a 1) 1431655765)) 858993459) + (band (bushr (a - (band (bushr a 1) 1431655765)) 2) 858993459)) + (bushr ((band (a - (band (bushr a 1) 1431655765)) 858993459) + (band (bushr (a - (band (bushr a 1) 1431655765)) 2) 858993459)) 4)) 252645135) + (bushr (band (((band (a - (band (bushr a 1) 1431655765)) 858993459) + (band (bushr (a - (band (bushr a 1) 1431655765)) 2) 858993459)) + (bushr ((band (a - (band (bushr a 1) 1431655765)) 858993459) + (band (bushr (a - (band (bushr a 1) 1431655765)) 2) 858993459)) 4)) 252645135) 8)) 16)) 63) M) :
    Go (km 0 mJ6_bitCount_0f7a4 Q) 0 [some (.inl a)] [] M := by
  refine a_iload_n (pc := 0) dJ6_bitCount_0f7a4_0 rfl ?_
  refine a_iload_n (pc := 1) dJ6_bitCount_0f7a4_1 rfl ?_
  refine a_iconst (pc := 2) dJ6_bitCount_0f7a4_2 (cnb rfl) ?_
  refine a_iushr (pc := 3) dJ6_bitCount_0f7a4_3 ?_
  refine a_ldc_w (pc := 4) (n := 1431655765) dJ6_bitCount_0f7a4_4 k_J6_265 (by decide) (cnb rfl) ?_
  refine a_iand (pc := 7) dJ6_bitCount_0f7a4_7 ?_
  refine a_isub (pc := 8) dJ6_bitCount_0f7a4_8 h.1 ?_
  replace h := h.2
  refine a_istore_n (pc := 9) dJ6_bitCount_0f7a4_9 (Nat.le_of_ble_eq_true rfl) ?_
  refine a_iload_n (pc := 10) dJ6_bitCount_0f7a4_10 rfl ?_
  refine a_ldc_w (pc := 11) (n := 858993459) dJ6_bitCount_0f7a4_11 k_J6_266 (by decide) (cnb rfl) ?_
  refine a_iand (pc := 14) dJ6_bitCount_0f7a4_14 ?_
  refine a_iload_n (pc := 15) dJ6_bitCount_0f7a4_15 rfl ?_
  refine a_iconst (pc := 16) dJ6_bitCount_0f7a4_16 (cnb rfl) ?_
  refine a_iushr (pc := 17) dJ6_bitCount_0f7a4_17 ?_
  refine a_ldc_w (pc := 18) (n := 858993459) dJ6_bitCount_0f7a4_18 k_J6_266 (by decide) (cnb rfl) ?_
  refine a_iand (pc := 21) dJ6_bitCount_0f7a4_21 ?_
  refine a_iadd (pc := 22) dJ6_bitCount_0f7a4_22 h.1 ?_
  replace h := h.2
  refine a_istore_n (pc := 23) dJ6_bitCount_0f7a4_23 (Nat.le_of_ble_eq_true rfl) ?_
  refine a_iload_n (pc := 24) dJ6_bitCount_0f7a4_24 rfl ?_
  refine a_iload_n (pc := 25) dJ6_bitCount_0f7a4_25 rfl ?_
  refine a_iconst (pc := 26) dJ6_bitCount_0f7a4_26 (cnb rfl) ?_
  refine a_iushr (pc := 27) dJ6_bitCount_0f7a4_27 ?_
  refine a_iadd (pc := 28) dJ6_bitCount_0f7a4_28 h.1 ?_
  replace h := h.2
  refine a_ldc_w (pc := 29) (n := 252645135) dJ6_bitCount_0f7a4_29 k_J6_267 (by decide) (cnb rfl) ?_
  refine a_iand (pc := 32) dJ6_bitCount_0f7a4_32 ?_
  refine a_istore_n (pc := 33) dJ6_bitCount_0f7a4_33 (Nat.le_of_ble_eq_true rfl) ?_
  refine a_iload_n (pc := 34) dJ6_bitCount_0f7a4_34 rfl ?_
  refine a_iload_n (pc := 35) dJ6_bitCount_0f7a4_35 rfl ?_
  refine a_bipush (pc := 36) dJ6_bitCount_0f7a4_36 (by decide) (cnb rfl) ?_
  refine a_iushr (pc := 38) dJ6_bitCount_0f7a4_38 ?_
  refine a_iadd (pc := 39) dJ6_bitCount_0f7a4_39 h.1 ?_
  replace h := h.2
  refine a_istore_n (pc := 40) dJ6_bitCount_0f7a4_40 (Nat.le_of_ble_eq_true rfl) ?_
  refine a_iload_n (pc := 41) dJ6_bitCount_0f7a4_41 rfl ?_
  refine a_iload_n (pc := 42) dJ6_bitCount_0f7a4_42 rfl ?_
  refine a_bipush (pc := 43) dJ6_bitCount_0f7a4_43 (by decide) (cnb rfl) ?_
  refine a_iushr (pc := 45) dJ6_bitCount_0f7a4_45 ?_
  refine a_iadd (pc := 46) dJ6_bitCount_0f7a4_46 h.1 ?_
  replace h := h.2
  refine a_istore_n (pc := 47) dJ6_bitCount_0f7a4_47 (Nat.le_of_ble_eq_true rfl) ?_
  refine a_iload_n (pc := 48) dJ6_bitCount_0f7a4_48 rfl ?_
  refine a_bipush (pc := 49) dJ6_bitCount_0f7a4_49 (by decide) (cnb rfl) ?_
  refine a_iand (pc := 51) dJ6_bitCount_0f7a4_51 ?_
  exact a_iretI (pc := 52) dJ6_bitCount_0f7a4_52 rfl h
set_option maxRecDepth 20000 in
theorem e_J6_bitCount_0f7a4 {Q : Int → Me → Prop}  {a : Int} {M : Me} (h :
    cn (a - (band (bushr a 1) 1431655765)) ∧
    cn ((band (a - (band (bushr a 1) 1431655765)) 858993459) + (band (bushr (a - (band (bushr a 1) 1431655765)) 2) 858993459)) ∧
    cn (((band (a - (band (bushr a 1) 1431655765)) 858993459) + (band (bushr (a - (band (bushr a 1) 1431655765)) 2) 858993459)) + (bushr ((band (a - (band (bushr a 1) 1431655765)) 858993459) + (band (bushr (a - (band (bushr a 1) 1431655765)) 2) 858993459)) 4)) ∧
    cn ((band (((band (a - (band (bushr a 1) 1431655765)) 858993459) + (band (bushr (a - (band (bushr a 1) 1431655765)) 2) 858993459)) + (bushr ((band (a - (band (bushr a 1) 1431655765)) 858993459) + (band (bushr (a - (band (bushr a 1) 1431655765)) 2) 858993459)) 4)) 252645135) + (bushr (band (((band (a - (band (bushr a 1) 1431655765)) 858993459) + (band (bushr (a - (band (bushr a 1) 1431655765)) 2) 858993459)) + (bushr ((band (a - (band (bushr a 1) 1431655765)) 858993459) + (band (bushr (a - (band (bushr a 1) 1431655765)) 2) 858993459)) 4)) 252645135) 8)) ∧
    cn (((band (((band (a - (band (bushr a 1) 1431655765)) 858993459) + (band (bushr (a - (band (bushr a 1) 1431655765)) 2) 858993459)) + (bushr ((band (a - (band (bushr a 1) 1431655765)) 858993459) + (band (bushr (a - (band (bushr a 1) 1431655765)) 2) 858993459)) 4)) 252645135) + (bushr (band (((band (a - (band (bushr a 1) 1431655765)) 858993459) + (band (bushr (a - (band (bushr a 1) 1431655765)) 2) 858993459)) + (bushr ((band (a - (band (bushr a 1) 1431655765)) 858993459) + (band (bushr (a - (band (bushr a 1) 1431655765)) 2) 858993459)) 4)) 252645135) 8)) + (bushr ((band (((band (a - (band (bushr a 1) 1431655765)) 858993459) + (band (bushr (a - (band (bushr a 1) 1431655765)) 2) 858993459)) + (bushr ((band (a - (band (bushr a 1) 1431655765)) 858993459) + (band (bushr (a - (band (bushr a 1) 1431655765)) 2) 858993459)) 4)) 252645135) + (bushr (band (((band (a - (band (bushr a 1) 1431655765)) 858993459) + (band (bushr (a - (band (bushr a 1) 1431655765)) 2) 858993459)) + (bushr ((band (a - (band (bushr a 1) 1431655765)) 858993459) + (band (bushr (a - (band (bushr a 1) 1431655765)) 2) 858993459)) 4)) 252645135) 8)) 16)) ∧
    Q (band (((band (((band (a - (band (bushr a 1) 1431655765)) 858993459) + (band (bushr (a - (band (bushr a 1) 1431655765)) 2) 858993459)) + (bushr ((band (a - (band (bushr a 1) 1431655765)) 858993459) + (band (bushr (a - (band (bushr a 1) 1431655765)) 2) 858993459)) 4)) 252645135) + (bushr (band (((band (a - (band (bushr a 1) 1431655765)) 858993459) + (band (bushr (a - (band (bushr a 1) 1431655765)) 2) 858993459)) + (bushr ((band (a - (band (bushr a 1) 1431655765)) 858993459) + (band (bushr (a - (band (bushr a 1) 1431655765)) 2) 858993459)) 4)) 252645135) 8)) + (bushr ((band (((band (a - (band (bushr a 1) 1431655765)) 858993459) + (band (bushr (a - (band (bushr a 1) 1431655765)) 2) 858993459)) + (bushr ((band (a - (band (bushr a 1) 1431655765)) 858993459) + (band (bushr (a - (band (bushr a 1) 1431655765)) 2) 858993459)) 4)) 252645135) + (bushr (band (((band (a - (band (bushr a 1) 1431655765)) 858993459) + (band (bushr (a - (band (bushr a 1) 1431655765)) 2) 858993459)) + (bushr ((band (a - (band (bushr a 1) 1431655765)) 858993459) + (band (bushr (a - (band (bushr a 1) 1431655765)) 2) 858993459)) 4)) 252645135) 8)) 16)) 63) M) : Calls 0 mJ6_bitCount_0f7a4 [.inl a] M Q := Calls.of (by decide) (Nat.le_of_ble_eq_true rfl) (s_J6_bitCount_0f7a4_0  a M h)
set_option maxRecDepth 20000 in
theorem s_J6_numberOfTrailingZeros_0f7a4_0 {Q : Int → Me → Prop}  (a : Int) (M : Me) (h :
    cn (a - 1) ∧
    ((0 < band (bxor a (-1)) (a - 1) →
    ((band (bxor a (-1)) (a - 1) ≤ 65536 →
    ((band (bxor a (-1)) (a - 1) ≤ 256 →
    ((band (bxor a (-1)) (a - 1) ≤ 16 →
    ((band (bxor a (-1)) (a - 1) ≤ 4 →
    cn (1 + (bushr (band (bxor a (-1)) (a - 1)) 1)) ∧
    Q (1 + (bushr (band (bxor a (-1)) (a - 1)) 1)) M) ∧ (4 < band (bxor a (-1)) (a - 1) →
    cn (1 + 2) ∧
    cn ((1 + 2) + (bushr (bushr (band (bxor a (-1)) (a - 1)) 2) 1)) ∧
    Q ((1 + 2) + (bushr (bushr (band (bxor a (-1)) (a - 1)) 2) 1)) M))) ∧ (16 < band (bxor a (-1)) (a - 1) →
    cn (1 + 4) ∧
    ((bushr (band (bxor a (-1)) (a - 1)) 4 ≤ 4 →
    cn ((1 + 4) + (bushr (bushr (band (bxor a (-1)) (a - 1)) 4) 1)) ∧
    Q ((1 + 4) + (bushr (bushr (band (bxor a (-1)) (a - 1)) 4) 1)) M) ∧ (4 < bushr (band (bxor a (-1)) (a - 1)) 4 →
    cn ((1 + 4) + 2) ∧
    cn (((1 + 4) + 2) + (bushr (bushr (bushr (band (bxor a (-1)) (a - 1)) 4) 2) 1)) ∧
    Q (((1 + 4) + 2) + (bushr (bushr (bushr (band (bxor a (-1)) (a - 1)) 4) 2) 1)) M))))) ∧ (256 < band (bxor a (-1)) (a - 1) →
    cn (1 + 8) ∧
    ((bushr (band (bxor a (-1)) (a - 1)) 8 ≤ 16 →
    ((bushr (band (bxor a (-1)) (a - 1)) 8 ≤ 4 →
    cn ((1 + 8) + (bushr (bushr (band (bxor a (-1)) (a - 1)) 8) 1)) ∧
    Q ((1 + 8) + (bushr (bushr (band (bxor a (-1)) (a - 1)) 8) 1)) M) ∧ (4 < bushr (band (bxor a (-1)) (a - 1)) 8 →
    cn ((1 + 8) + 2) ∧
    cn (((1 + 8) + 2) + (bushr (bushr (bushr (band (bxor a (-1)) (a - 1)) 8) 2) 1)) ∧
    Q (((1 + 8) + 2) + (bushr (bushr (bushr (band (bxor a (-1)) (a - 1)) 8) 2) 1)) M))) ∧ (16 < bushr (band (bxor a (-1)) (a - 1)) 8 →
    cn ((1 + 8) + 4) ∧
    ((bushr (bushr (band (bxor a (-1)) (a - 1)) 8) 4 ≤ 4 →
    cn (((1 + 8) + 4) + (bushr (bushr (bushr (band (bxor a (-1)) (a - 1)) 8) 4) 1)) ∧
    Q (((1 + 8) + 4) + (bushr (bushr (bushr (band (bxor a (-1)) (a - 1)) 8) 4) 1)) M) ∧ (4 < bushr (bushr (band (bxor a (-1)) (a - 1)) 8) 4 →
    cn (((1 + 8) + 4) + 2) ∧
    cn ((((1 + 8) + 4) + 2) + (bushr (bushr (bushr (bushr (band (bxor a (-1)) (a - 1)) 8) 4) 2) 1)) ∧
    Q ((((1 + 8) + 4) + 2) + (bushr (bushr (bushr (bushr (band (bxor a (-1)) (a - 1)) 8) 4) 2) 1)) M))))))) ∧ (65536 < band (bxor a (-1)) (a - 1) →
    cn (1 + 16) ∧
    ((bushr (band (bxor a (-1)) (a - 1)) 16 ≤ 256 →
    ((bushr (band (bxor a (-1)) (a - 1)) 16 ≤ 16 →
    ((bushr (band (bxor a (-1)) (a - 1)) 16 ≤ 4 →
    cn ((1 + 16) + (bushr (bushr (band (bxor a (-1)) (a - 1)) 16) 1)) ∧
    Q ((1 + 16) + (bushr (bushr (band (bxor a (-1)) (a - 1)) 16) 1)) M) ∧ (4 < bushr (band (bxor a (-1)) (a - 1)) 16 →
    cn ((1 + 16) + 2) ∧
    cn (((1 + 16) + 2) + (bushr (bushr (bushr (band (bxor a (-1)) (a - 1)) 16) 2) 1)) ∧
    Q (((1 + 16) + 2) + (bushr (bushr (bushr (band (bxor a (-1)) (a - 1)) 16) 2) 1)) M))) ∧ (16 < bushr (band (bxor a (-1)) (a - 1)) 16 →
    cn ((1 + 16) + 4) ∧
    ((bushr (bushr (band (bxor a (-1)) (a - 1)) 16) 4 ≤ 4 →
    cn (((1 + 16) + 4) + (bushr (bushr (bushr (band (bxor a (-1)) (a - 1)) 16) 4) 1)) ∧
    Q (((1 + 16) + 4) + (bushr (bushr (bushr (band (bxor a (-1)) (a - 1)) 16) 4) 1)) M) ∧ (4 < bushr (bushr (band (bxor a (-1)) (a - 1)) 16) 4 →
    cn (((1 + 16) + 4) + 2) ∧
    cn ((((1 + 16) + 4) + 2) + (bushr (bushr (bushr (bushr (band (bxor a (-1)) (a - 1)) 16) 4) 2) 1)) ∧
    Q ((((1 + 16) + 4) + 2) + (bushr (bushr (bushr (bushr (band (bxor a (-1)) (a - 1)) 16) 4) 2) 1)) M))))) ∧ (256 < bushr (band (bxor a (-1)) (a - 1)) 16 →
    cn ((1 + 16) + 8) ∧
    ((bushr (bushr (band (bxor a (-1)) (a - 1)) 16) 8 ≤ 16 →
    ((bushr (bushr (band (bxor a (-1)) (a - 1)) 16) 8 ≤ 4 →
    cn (((1 + 16) + 8) + (bushr (bushr (bushr (band (bxor a (-1)) (a - 1)) 16) 8) 1)) ∧
    Q (((1 + 16) + 8) + (bushr (bushr (bushr (band (bxor a (-1)) (a - 1)) 16) 8) 1)) M) ∧ (4 < bushr (bushr (band (bxor a (-1)) (a - 1)) 16) 8 →
    cn (((1 + 16) + 8) + 2) ∧
    cn ((((1 + 16) + 8) + 2) + (bushr (bushr (bushr (bushr (band (bxor a (-1)) (a - 1)) 16) 8) 2) 1)) ∧
    Q ((((1 + 16) + 8) + 2) + (bushr (bushr (bushr (bushr (band (bxor a (-1)) (a - 1)) 16) 8) 2) 1)) M))) ∧ (16 < bushr (bushr (band (bxor a (-1)) (a - 1)) 16) 8 →
    cn (((1 + 16) + 8) + 4) ∧
    ((bushr (bushr (bushr (band (bxor a (-1)) (a - 1)) 16) 8) 4 ≤ 4 →
    cn ((((1 + 16) + 8) + 4) + (bushr (bushr (bushr (bushr (band (bxor a (-1)) (a - 1)) 16) 8) 4) 1)) ∧
    Q ((((1 + 16) + 8) + 4) + (bushr (bushr (bushr (bushr (band (bxor a (-1)) (a - 1)) 16) 8) 4) 1)) M) ∧ (4 < bushr (bushr (bushr (band (bxor a (-1)) (a - 1)) 16) 8) 4 →
    cn ((((1 + 16) + 8) + 4) + 2) ∧
    cn (((((1 + 16) + 8) + 4) + 2) + (bushr (bushr (bushr (bushr (bushr (band (bxor a (-1)) (a - 1)) 16) 8) 4) 2) 1)) ∧
    Q (((((1 + 16) + 8) + 4) + 2) + (bushr (bushr (bushr (bushr (bushr (band (bxor a (-1)) (a - 1)) 16) 8) 4) 2) 1)) M))))))))) ∧ (band (bxor a (-1)) (a - 1) ≤ 0 →
    Q (band (band (bxor a (-1)) (a - 1)) 32) M))) :
    Go (km 0 mJ6_numberOfTrailingZeros_0f7a4 Q) 0 [some (.inl a), none] [] M := by
  refine a_iload_n (pc := 0) dJ6_numberOfTrailingZeros_0f7a4_0 rfl ?_
  refine a_iconst (pc := 1) dJ6_numberOfTrailingZeros_0f7a4_1 (cnb rfl) ?_
  refine a_ixor (pc := 2) dJ6_numberOfTrailingZeros_0f7a4_2 ?_
  refine a_iload_n (pc := 3) dJ6_numberOfTrailingZeros_0f7a4_3 rfl ?_
  refine a_iconst (pc := 4) dJ6_numberOfTrailingZeros_0f7a4_4 (cnb rfl) ?_
  refine a_isub (pc := 5) dJ6_numberOfTrailingZeros_0f7a4_5 h.1 ?_
  replace h := h.2
  refine a_iand (pc := 6) dJ6_numberOfTrailingZeros_0f7a4_6 ?_
  refine a_istore_n (pc := 7) dJ6_numberOfTrailingZeros_0f7a4_7 (Nat.le_of_ble_eq_true rfl) ?_
  refine a_iload_n (pc := 8) dJ6_numberOfTrailingZeros_0f7a4_8 rfl ?_
  refine a_if_gt (pc := 9) 17 dJ6_numberOfTrailingZeros_0f7a4_9 rfl ⟨fun hc => ?_, fun hc => ?_⟩
  · replace h := h.1 hc
    refine a_iconst (pc := 17) dJ6_numberOfTrailingZeros_0f7a4_17 (cnb rfl) ?_
    refine a_istore_n (pc := 18) dJ6_numberOfTrailingZeros_0f7a4_18 (Nat.le_of_ble_eq_true rfl) ?_
    refine a_iload_n (pc := 19) dJ6_numberOfTrailingZeros_0f7a4_19 rfl ?_
    refine a_ldc_w (pc := 20) (n := 65536) dJ6_numberOfTrailingZeros_0f7a4_20 k_J6_264 (by decide) (cnb rfl) ?_
    refine a_icmp_le (pc := 23) 34 dJ6_numberOfTrailingZeros_0f7a4_23 rfl ⟨fun hc => ?_, fun hc => ?_⟩
    · replace h := h.1 hc
      refine a_iload_n (pc := 34) dJ6_numberOfTrailingZeros_0f7a4_34 rfl ?_
      refine a_sipush (pc := 35) dJ6_numberOfTrailingZeros_0f7a4_35 (by decide) (cnb rfl) ?_
      refine a_icmp_le (pc := 38) 49 dJ6_numberOfTrailingZeros_0f7a4_38 rfl ⟨fun hc => ?_, fun hc => ?_⟩
      · replace h := h.1 hc
        refine a_iload_n (pc := 49) dJ6_numberOfTrailingZeros_0f7a4_49 rfl ?_
        refine a_bipush (pc := 50) dJ6_numberOfTrailingZeros_0f7a4_50 (by decide) (cnb rfl) ?_
        refine a_icmp_le (pc := 52) 62 dJ6_numberOfTrailingZeros_0f7a4_52 rfl ⟨fun hc => ?_, fun hc => ?_⟩
        · replace h := h.1 hc
          refine a_iload_n (pc := 62) dJ6_numberOfTrailingZeros_0f7a4_62 rfl ?_
          refine a_iconst (pc := 63) dJ6_numberOfTrailingZeros_0f7a4_63 (cnb rfl) ?_
          refine a_icmp_le (pc := 64) 74 dJ6_numberOfTrailingZeros_0f7a4_64 rfl ⟨fun hc => ?_, fun hc => ?_⟩
          · replace h := h.1 hc
            refine a_iload_n (pc := 74) dJ6_numberOfTrailingZeros_0f7a4_74 rfl ?_
            refine a_iload_n (pc := 75) dJ6_numberOfTrailingZeros_0f7a4_75 rfl ?_
            refine a_iconst (pc := 76) dJ6_numberOfTrailingZeros_0f7a4_76 (cnb rfl) ?_
            refine a_iushr (pc := 77) dJ6_numberOfTrailingZeros_0f7a4_77 ?_
            refine a_iadd (pc := 78) dJ6_numberOfTrailingZeros_0f7a4_78 h.1 ?_
            replace h := h.2
            exact a_iretI (pc := 79) dJ6_numberOfTrailingZeros_0f7a4_79 rfl h
          · replace h := h.2 hc
            refine a_iinc (pc := 67) dJ6_numberOfTrailingZeros_0f7a4_67 rfl h.1 (Nat.le_of_ble_eq_true rfl) ?_
            replace h := h.2
            refine a_iload_n (pc := 70) dJ6_numberOfTrailingZeros_0f7a4_70 rfl ?_
            refine a_iconst (pc := 71) dJ6_numberOfTrailingZeros_0f7a4_71 (cnb rfl) ?_
            refine a_iushr (pc := 72) dJ6_numberOfTrailingZeros_0f7a4_72 ?_
            refine a_istore_n (pc := 73) dJ6_numberOfTrailingZeros_0f7a4_73 (Nat.le_of_ble_eq_true rfl) ?_
            refine a_iload_n (pc := 74) dJ6_numberOfTrailingZeros_0f7a4_74 rfl ?_
            refine a_iload_n (pc := 75) dJ6_numberOfTrailingZeros_0f7a4_75 rfl ?_
            refine a_iconst (pc := 76) dJ6_numberOfTrailingZeros_0f7a4_76 (cnb rfl) ?_
            refine a_iushr (pc := 77) dJ6_numberOfTrailingZeros_0f7a4_77 ?_
            refine a_iadd (pc := 78) dJ6_numberOfTrailingZeros_0f7a4_78 h.1 ?_
            replace h := h.2
            exact a_iretI (pc := 79) dJ6_numberOfTrailingZeros_0f7a4_79 rfl h
        · replace h := h.2 hc
          refine a_iinc (pc := 55) dJ6_numberOfTrailingZeros_0f7a4_55 rfl h.1 (Nat.le_of_ble_eq_true rfl) ?_
          replace h := h.2
          refine a_iload_n (pc := 58) dJ6_numberOfTrailingZeros_0f7a4_58 rfl ?_
          refine a_iconst (pc := 59) dJ6_numberOfTrailingZeros_0f7a4_59 (cnb rfl) ?_
          refine a_iushr (pc := 60) dJ6_numberOfTrailingZeros_0f7a4_60 ?_
          refine a_istore_n (pc := 61) dJ6_numberOfTrailingZeros_0f7a4_61 (Nat.le_of_ble_eq_true rfl) ?_
          refine a_iload_n (pc := 62) dJ6_numberOfTrailingZeros_0f7a4_62 rfl ?_
          refine a_iconst (pc := 63) dJ6_numberOfTrailingZeros_0f7a4_63 (cnb rfl) ?_
          refine a_icmp_le (pc := 64) 74 dJ6_numberOfTrailingZeros_0f7a4_64 rfl ⟨fun hc => ?_, fun hc => ?_⟩
          · replace h := h.1 hc
            refine a_iload_n (pc := 74) dJ6_numberOfTrailingZeros_0f7a4_74 rfl ?_
            refine a_iload_n (pc := 75) dJ6_numberOfTrailingZeros_0f7a4_75 rfl ?_
            refine a_iconst (pc := 76) dJ6_numberOfTrailingZeros_0f7a4_76 (cnb rfl) ?_
            refine a_iushr (pc := 77) dJ6_numberOfTrailingZeros_0f7a4_77 ?_
            refine a_iadd (pc := 78) dJ6_numberOfTrailingZeros_0f7a4_78 h.1 ?_
            replace h := h.2
            exact a_iretI (pc := 79) dJ6_numberOfTrailingZeros_0f7a4_79 rfl h
          · replace h := h.2 hc
            refine a_iinc (pc := 67) dJ6_numberOfTrailingZeros_0f7a4_67 rfl h.1 (Nat.le_of_ble_eq_true rfl) ?_
            replace h := h.2
            refine a_iload_n (pc := 70) dJ6_numberOfTrailingZeros_0f7a4_70 rfl ?_
            refine a_iconst (pc := 71) dJ6_numberOfTrailingZeros_0f7a4_71 (cnb rfl) ?_
            refine a_iushr (pc := 72) dJ6_numberOfTrailingZeros_0f7a4_72 ?_
            refine a_istore_n (pc := 73) dJ6_numberOfTrailingZeros_0f7a4_73 (Nat.le_of_ble_eq_true rfl) ?_
            refine a_iload_n (pc := 74) dJ6_numberOfTrailingZeros_0f7a4_74 rfl ?_
            refine a_iload_n (pc := 75) dJ6_numberOfTrailingZeros_0f7a4_75 rfl ?_
            refine a_iconst (pc := 76) dJ6_numberOfTrailingZeros_0f7a4_76 (cnb rfl) ?_
            refine a_iushr (pc := 77) dJ6_numberOfTrailingZeros_0f7a4_77 ?_
            refine a_iadd (pc := 78) dJ6_numberOfTrailingZeros_0f7a4_78 h.1 ?_
            replace h := h.2
            exact a_iretI (pc := 79) dJ6_numberOfTrailingZeros_0f7a4_79 rfl h
      · replace h := h.2 hc
        refine a_iinc (pc := 41) dJ6_numberOfTrailingZeros_0f7a4_41 rfl h.1 (Nat.le_of_ble_eq_true rfl) ?_
        replace h := h.2
        refine a_iload_n (pc := 44) dJ6_numberOfTrailingZeros_0f7a4_44 rfl ?_
        refine a_bipush (pc := 45) dJ6_numberOfTrailingZeros_0f7a4_45 (by decide) (cnb rfl) ?_
        refine a_iushr (pc := 47) dJ6_numberOfTrailingZeros_0f7a4_47 ?_
        refine a_istore_n (pc := 48) dJ6_numberOfTrailingZeros_0f7a4_48 (Nat.le_of_ble_eq_true rfl) ?_
        refine a_iload_n (pc := 49) dJ6_numberOfTrailingZeros_0f7a4_49 rfl ?_
        refine a_bipush (pc := 50) dJ6_numberOfTrailingZeros_0f7a4_50 (by decide) (cnb rfl) ?_
        refine a_icmp_le (pc := 52) 62 dJ6_numberOfTrailingZeros_0f7a4_52 rfl ⟨fun hc => ?_, fun hc => ?_⟩
        · replace h := h.1 hc
          refine a_iload_n (pc := 62) dJ6_numberOfTrailingZeros_0f7a4_62 rfl ?_
          refine a_iconst (pc := 63) dJ6_numberOfTrailingZeros_0f7a4_63 (cnb rfl) ?_
          refine a_icmp_le (pc := 64) 74 dJ6_numberOfTrailingZeros_0f7a4_64 rfl ⟨fun hc => ?_, fun hc => ?_⟩
          · replace h := h.1 hc
            refine a_iload_n (pc := 74) dJ6_numberOfTrailingZeros_0f7a4_74 rfl ?_
            refine a_iload_n (pc := 75) dJ6_numberOfTrailingZeros_0f7a4_75 rfl ?_
            refine a_iconst (pc := 76) dJ6_numberOfTrailingZeros_0f7a4_76 (cnb rfl) ?_
            refine a_iushr (pc := 77) dJ6_numberOfTrailingZeros_0f7a4_77 ?_
            refine a_iadd (pc := 78) dJ6_numberOfTrailingZeros_0f7a4_78 h.1 ?_
            replace h := h.2
            exact a_iretI (pc := 79) dJ6_numberOfTrailingZeros_0f7a4_79 rfl h
          · replace h := h.2 hc
            refine a_iinc (pc := 67) dJ6_numberOfTrailingZeros_0f7a4_67 rfl h.1 (Nat.le_of_ble_eq_true rfl) ?_
            replace h := h.2
            refine a_iload_n (pc := 70) dJ6_numberOfTrailingZeros_0f7a4_70 rfl ?_
            refine a_iconst (pc := 71) dJ6_numberOfTrailingZeros_0f7a4_71 (cnb rfl) ?_
            refine a_iushr (pc := 72) dJ6_numberOfTrailingZeros_0f7a4_72 ?_
            refine a_istore_n (pc := 73) dJ6_numberOfTrailingZeros_0f7a4_73 (Nat.le_of_ble_eq_true rfl) ?_
            refine a_iload_n (pc := 74) dJ6_numberOfTrailingZeros_0f7a4_74 rfl ?_
            refine a_iload_n (pc := 75) dJ6_numberOfTrailingZeros_0f7a4_75 rfl ?_
            refine a_iconst (pc := 76) dJ6_numberOfTrailingZeros_0f7a4_76 (cnb rfl) ?_
            refine a_iushr (pc := 77) dJ6_numberOfTrailingZeros_0f7a4_77 ?_
            refine a_iadd (pc := 78) dJ6_numberOfTrailingZeros_0f7a4_78 h.1 ?_
            replace h := h.2
            exact a_iretI (pc := 79) dJ6_numberOfTrailingZeros_0f7a4_79 rfl h
        · replace h := h.2 hc
          refine a_iinc (pc := 55) dJ6_numberOfTrailingZeros_0f7a4_55 rfl h.1 (Nat.le_of_ble_eq_true rfl) ?_
          replace h := h.2
          refine a_iload_n (pc := 58) dJ6_numberOfTrailingZeros_0f7a4_58 rfl ?_
          refine a_iconst (pc := 59) dJ6_numberOfTrailingZeros_0f7a4_59 (cnb rfl) ?_
          refine a_iushr (pc := 60) dJ6_numberOfTrailingZeros_0f7a4_60 ?_
          refine a_istore_n (pc := 61) dJ6_numberOfTrailingZeros_0f7a4_61 (Nat.le_of_ble_eq_true rfl) ?_
          refine a_iload_n (pc := 62) dJ6_numberOfTrailingZeros_0f7a4_62 rfl ?_
          refine a_iconst (pc := 63) dJ6_numberOfTrailingZeros_0f7a4_63 (cnb rfl) ?_
          refine a_icmp_le (pc := 64) 74 dJ6_numberOfTrailingZeros_0f7a4_64 rfl ⟨fun hc => ?_, fun hc => ?_⟩
          · replace h := h.1 hc
            refine a_iload_n (pc := 74) dJ6_numberOfTrailingZeros_0f7a4_74 rfl ?_
            refine a_iload_n (pc := 75) dJ6_numberOfTrailingZeros_0f7a4_75 rfl ?_
            refine a_iconst (pc := 76) dJ6_numberOfTrailingZeros_0f7a4_76 (cnb rfl) ?_
            refine a_iushr (pc := 77) dJ6_numberOfTrailingZeros_0f7a4_77 ?_
            refine a_iadd (pc := 78) dJ6_numberOfTrailingZeros_0f7a4_78 h.1 ?_
            replace h := h.2
            exact a_iretI (pc := 79) dJ6_numberOfTrailingZeros_0f7a4_79 rfl h
          · replace h := h.2 hc
            refine a_iinc (pc := 67) dJ6_numberOfTrailingZeros_0f7a4_67 rfl h.1 (Nat.le_of_ble_eq_true rfl) ?_
            replace h := h.2
            refine a_iload_n (pc := 70) dJ6_numberOfTrailingZeros_0f7a4_70 rfl ?_
            refine a_iconst (pc := 71) dJ6_numberOfTrailingZeros_0f7a4_71 (cnb rfl) ?_
            refine a_iushr (pc := 72) dJ6_numberOfTrailingZeros_0f7a4_72 ?_
            refine a_istore_n (pc := 73) dJ6_numberOfTrailingZeros_0f7a4_73 (Nat.le_of_ble_eq_true rfl) ?_
            refine a_iload_n (pc := 74) dJ6_numberOfTrailingZeros_0f7a4_74 rfl ?_
            refine a_iload_n (pc := 75) dJ6_numberOfTrailingZeros_0f7a4_75 rfl ?_
            refine a_iconst (pc := 76) dJ6_numberOfTrailingZeros_0f7a4_76 (cnb rfl) ?_
            refine a_iushr (pc := 77) dJ6_numberOfTrailingZeros_0f7a4_77 ?_
            refine a_iadd (pc := 78) dJ6_numberOfTrailingZeros_0f7a4_78 h.1 ?_
            replace h := h.2
            exact a_iretI (pc := 79) dJ6_numberOfTrailingZeros_0f7a4_79 rfl h
    · replace h := h.2 hc
      refine a_iinc (pc := 26) dJ6_numberOfTrailingZeros_0f7a4_26 rfl h.1 (Nat.le_of_ble_eq_true rfl) ?_
      replace h := h.2
      refine a_iload_n (pc := 29) dJ6_numberOfTrailingZeros_0f7a4_29 rfl ?_
      refine a_bipush (pc := 30) dJ6_numberOfTrailingZeros_0f7a4_30 (by decide) (cnb rfl) ?_
      refine a_iushr (pc := 32) dJ6_numberOfTrailingZeros_0f7a4_32 ?_
      refine a_istore_n (pc := 33) dJ6_numberOfTrailingZeros_0f7a4_33 (Nat.le_of_ble_eq_true rfl) ?_
      refine a_iload_n (pc := 34) dJ6_numberOfTrailingZeros_0f7a4_34 rfl ?_
      refine a_sipush (pc := 35) dJ6_numberOfTrailingZeros_0f7a4_35 (by decide) (cnb rfl) ?_
      refine a_icmp_le (pc := 38) 49 dJ6_numberOfTrailingZeros_0f7a4_38 rfl ⟨fun hc => ?_, fun hc => ?_⟩
      · replace h := h.1 hc
        refine a_iload_n (pc := 49) dJ6_numberOfTrailingZeros_0f7a4_49 rfl ?_
        refine a_bipush (pc := 50) dJ6_numberOfTrailingZeros_0f7a4_50 (by decide) (cnb rfl) ?_
        refine a_icmp_le (pc := 52) 62 dJ6_numberOfTrailingZeros_0f7a4_52 rfl ⟨fun hc => ?_, fun hc => ?_⟩
        · replace h := h.1 hc
          refine a_iload_n (pc := 62) dJ6_numberOfTrailingZeros_0f7a4_62 rfl ?_
          refine a_iconst (pc := 63) dJ6_numberOfTrailingZeros_0f7a4_63 (cnb rfl) ?_
          refine a_icmp_le (pc := 64) 74 dJ6_numberOfTrailingZeros_0f7a4_64 rfl ⟨fun hc => ?_, fun hc => ?_⟩
          · replace h := h.1 hc
            refine a_iload_n (pc := 74) dJ6_numberOfTrailingZeros_0f7a4_74 rfl ?_
            refine a_iload_n (pc := 75) dJ6_numberOfTrailingZeros_0f7a4_75 rfl ?_
            refine a_iconst (pc := 76) dJ6_numberOfTrailingZeros_0f7a4_76 (cnb rfl) ?_
            refine a_iushr (pc := 77) dJ6_numberOfTrailingZeros_0f7a4_77 ?_
            refine a_iadd (pc := 78) dJ6_numberOfTrailingZeros_0f7a4_78 h.1 ?_
            replace h := h.2
            exact a_iretI (pc := 79) dJ6_numberOfTrailingZeros_0f7a4_79 rfl h
          · replace h := h.2 hc
            refine a_iinc (pc := 67) dJ6_numberOfTrailingZeros_0f7a4_67 rfl h.1 (Nat.le_of_ble_eq_true rfl) ?_
            replace h := h.2
            refine a_iload_n (pc := 70) dJ6_numberOfTrailingZeros_0f7a4_70 rfl ?_
            refine a_iconst (pc := 71) dJ6_numberOfTrailingZeros_0f7a4_71 (cnb rfl) ?_
            refine a_iushr (pc := 72) dJ6_numberOfTrailingZeros_0f7a4_72 ?_
            refine a_istore_n (pc := 73) dJ6_numberOfTrailingZeros_0f7a4_73 (Nat.le_of_ble_eq_true rfl) ?_
            refine a_iload_n (pc := 74) dJ6_numberOfTrailingZeros_0f7a4_74 rfl ?_
            refine a_iload_n (pc := 75) dJ6_numberOfTrailingZeros_0f7a4_75 rfl ?_
            refine a_iconst (pc := 76) dJ6_numberOfTrailingZeros_0f7a4_76 (cnb rfl) ?_
            refine a_iushr (pc := 77) dJ6_numberOfTrailingZeros_0f7a4_77 ?_
            refine a_iadd (pc := 78) dJ6_numberOfTrailingZeros_0f7a4_78 h.1 ?_
            replace h := h.2
            exact a_iretI (pc := 79) dJ6_numberOfTrailingZeros_0f7a4_79 rfl h
        · replace h := h.2 hc
          refine a_iinc (pc := 55) dJ6_numberOfTrailingZeros_0f7a4_55 rfl h.1 (Nat.le_of_ble_eq_true rfl) ?_
          replace h := h.2
          refine a_iload_n (pc := 58) dJ6_numberOfTrailingZeros_0f7a4_58 rfl ?_
          refine a_iconst (pc := 59) dJ6_numberOfTrailingZeros_0f7a4_59 (cnb rfl) ?_
          refine a_iushr (pc := 60) dJ6_numberOfTrailingZeros_0f7a4_60 ?_
          refine a_istore_n (pc := 61) dJ6_numberOfTrailingZeros_0f7a4_61 (Nat.le_of_ble_eq_true rfl) ?_
          refine a_iload_n (pc := 62) dJ6_numberOfTrailingZeros_0f7a4_62 rfl ?_
          refine a_iconst (pc := 63) dJ6_numberOfTrailingZeros_0f7a4_63 (cnb rfl) ?_
          refine a_icmp_le (pc := 64) 74 dJ6_numberOfTrailingZeros_0f7a4_64 rfl ⟨fun hc => ?_, fun hc => ?_⟩
          · replace h := h.1 hc
            refine a_iload_n (pc := 74) dJ6_numberOfTrailingZeros_0f7a4_74 rfl ?_
            refine a_iload_n (pc := 75) dJ6_numberOfTrailingZeros_0f7a4_75 rfl ?_
            refine a_iconst (pc := 76) dJ6_numberOfTrailingZeros_0f7a4_76 (cnb rfl) ?_
            refine a_iushr (pc := 77) dJ6_numberOfTrailingZeros_0f7a4_77 ?_
            refine a_iadd (pc := 78) dJ6_numberOfTrailingZeros_0f7a4_78 h.1 ?_
            replace h := h.2
            exact a_iretI (pc := 79) dJ6_numberOfTrailingZeros_0f7a4_79 rfl h
          · replace h := h.2 hc
            refine a_iinc (pc := 67) dJ6_numberOfTrailingZeros_0f7a4_67 rfl h.1 (Nat.le_of_ble_eq_true rfl) ?_
            replace h := h.2
            refine a_iload_n (pc := 70) dJ6_numberOfTrailingZeros_0f7a4_70 rfl ?_
            refine a_iconst (pc := 71) dJ6_numberOfTrailingZeros_0f7a4_71 (cnb rfl) ?_
            refine a_iushr (pc := 72) dJ6_numberOfTrailingZeros_0f7a4_72 ?_
            refine a_istore_n (pc := 73) dJ6_numberOfTrailingZeros_0f7a4_73 (Nat.le_of_ble_eq_true rfl) ?_
            refine a_iload_n (pc := 74) dJ6_numberOfTrailingZeros_0f7a4_74 rfl ?_
            refine a_iload_n (pc := 75) dJ6_numberOfTrailingZeros_0f7a4_75 rfl ?_
            refine a_iconst (pc := 76) dJ6_numberOfTrailingZeros_0f7a4_76 (cnb rfl) ?_
            refine a_iushr (pc := 77) dJ6_numberOfTrailingZeros_0f7a4_77 ?_
            refine a_iadd (pc := 78) dJ6_numberOfTrailingZeros_0f7a4_78 h.1 ?_
            replace h := h.2
            exact a_iretI (pc := 79) dJ6_numberOfTrailingZeros_0f7a4_79 rfl h
      · replace h := h.2 hc
        refine a_iinc (pc := 41) dJ6_numberOfTrailingZeros_0f7a4_41 rfl h.1 (Nat.le_of_ble_eq_true rfl) ?_
        replace h := h.2
        refine a_iload_n (pc := 44) dJ6_numberOfTrailingZeros_0f7a4_44 rfl ?_
        refine a_bipush (pc := 45) dJ6_numberOfTrailingZeros_0f7a4_45 (by decide) (cnb rfl) ?_
        refine a_iushr (pc := 47) dJ6_numberOfTrailingZeros_0f7a4_47 ?_
        refine a_istore_n (pc := 48) dJ6_numberOfTrailingZeros_0f7a4_48 (Nat.le_of_ble_eq_true rfl) ?_
        refine a_iload_n (pc := 49) dJ6_numberOfTrailingZeros_0f7a4_49 rfl ?_
        refine a_bipush (pc := 50) dJ6_numberOfTrailingZeros_0f7a4_50 (by decide) (cnb rfl) ?_
        refine a_icmp_le (pc := 52) 62 dJ6_numberOfTrailingZeros_0f7a4_52 rfl ⟨fun hc => ?_, fun hc => ?_⟩
        · replace h := h.1 hc
          refine a_iload_n (pc := 62) dJ6_numberOfTrailingZeros_0f7a4_62 rfl ?_
          refine a_iconst (pc := 63) dJ6_numberOfTrailingZeros_0f7a4_63 (cnb rfl) ?_
          refine a_icmp_le (pc := 64) 74 dJ6_numberOfTrailingZeros_0f7a4_64 rfl ⟨fun hc => ?_, fun hc => ?_⟩
          · replace h := h.1 hc
            refine a_iload_n (pc := 74) dJ6_numberOfTrailingZeros_0f7a4_74 rfl ?_
            refine a_iload_n (pc := 75) dJ6_numberOfTrailingZeros_0f7a4_75 rfl ?_
            refine a_iconst (pc := 76) dJ6_numberOfTrailingZeros_0f7a4_76 (cnb rfl) ?_
            refine a_iushr (pc := 77) dJ6_numberOfTrailingZeros_0f7a4_77 ?_
            refine a_iadd (pc := 78) dJ6_numberOfTrailingZeros_0f7a4_78 h.1 ?_
            replace h := h.2
            exact a_iretI (pc := 79) dJ6_numberOfTrailingZeros_0f7a4_79 rfl h
          · replace h := h.2 hc
            refine a_iinc (pc := 67) dJ6_numberOfTrailingZeros_0f7a4_67 rfl h.1 (Nat.le_of_ble_eq_true rfl) ?_
            replace h := h.2
            refine a_iload_n (pc := 70) dJ6_numberOfTrailingZeros_0f7a4_70 rfl ?_
            refine a_iconst (pc := 71) dJ6_numberOfTrailingZeros_0f7a4_71 (cnb rfl) ?_
            refine a_iushr (pc := 72) dJ6_numberOfTrailingZeros_0f7a4_72 ?_
            refine a_istore_n (pc := 73) dJ6_numberOfTrailingZeros_0f7a4_73 (Nat.le_of_ble_eq_true rfl) ?_
            refine a_iload_n (pc := 74) dJ6_numberOfTrailingZeros_0f7a4_74 rfl ?_
            refine a_iload_n (pc := 75) dJ6_numberOfTrailingZeros_0f7a4_75 rfl ?_
            refine a_iconst (pc := 76) dJ6_numberOfTrailingZeros_0f7a4_76 (cnb rfl) ?_
            refine a_iushr (pc := 77) dJ6_numberOfTrailingZeros_0f7a4_77 ?_
            refine a_iadd (pc := 78) dJ6_numberOfTrailingZeros_0f7a4_78 h.1 ?_
            replace h := h.2
            exact a_iretI (pc := 79) dJ6_numberOfTrailingZeros_0f7a4_79 rfl h
        · replace h := h.2 hc
          refine a_iinc (pc := 55) dJ6_numberOfTrailingZeros_0f7a4_55 rfl h.1 (Nat.le_of_ble_eq_true rfl) ?_
          replace h := h.2
          refine a_iload_n (pc := 58) dJ6_numberOfTrailingZeros_0f7a4_58 rfl ?_
          refine a_iconst (pc := 59) dJ6_numberOfTrailingZeros_0f7a4_59 (cnb rfl) ?_
          refine a_iushr (pc := 60) dJ6_numberOfTrailingZeros_0f7a4_60 ?_
          refine a_istore_n (pc := 61) dJ6_numberOfTrailingZeros_0f7a4_61 (Nat.le_of_ble_eq_true rfl) ?_
          refine a_iload_n (pc := 62) dJ6_numberOfTrailingZeros_0f7a4_62 rfl ?_
          refine a_iconst (pc := 63) dJ6_numberOfTrailingZeros_0f7a4_63 (cnb rfl) ?_
          refine a_icmp_le (pc := 64) 74 dJ6_numberOfTrailingZeros_0f7a4_64 rfl ⟨fun hc => ?_, fun hc => ?_⟩
          · replace h := h.1 hc
            refine a_iload_n (pc := 74) dJ6_numberOfTrailingZeros_0f7a4_74 rfl ?_
            refine a_iload_n (pc := 75) dJ6_numberOfTrailingZeros_0f7a4_75 rfl ?_
            refine a_iconst (pc := 76) dJ6_numberOfTrailingZeros_0f7a4_76 (cnb rfl) ?_
            refine a_iushr (pc := 77) dJ6_numberOfTrailingZeros_0f7a4_77 ?_
            refine a_iadd (pc := 78) dJ6_numberOfTrailingZeros_0f7a4_78 h.1 ?_
            replace h := h.2
            exact a_iretI (pc := 79) dJ6_numberOfTrailingZeros_0f7a4_79 rfl h
          · replace h := h.2 hc
            refine a_iinc (pc := 67) dJ6_numberOfTrailingZeros_0f7a4_67 rfl h.1 (Nat.le_of_ble_eq_true rfl) ?_
            replace h := h.2
            refine a_iload_n (pc := 70) dJ6_numberOfTrailingZeros_0f7a4_70 rfl ?_
            refine a_iconst (pc := 71) dJ6_numberOfTrailingZeros_0f7a4_71 (cnb rfl) ?_
            refine a_iushr (pc := 72) dJ6_numberOfTrailingZeros_0f7a4_72 ?_
            refine a_istore_n (pc := 73) dJ6_numberOfTrailingZeros_0f7a4_73 (Nat.le_of_ble_eq_true rfl) ?_
            refine a_iload_n (pc := 74) dJ6_numberOfTrailingZeros_0f7a4_74 rfl ?_
            refine a_iload_n (pc := 75) dJ6_numberOfTrailingZeros_0f7a4_75 rfl ?_
            refine a_iconst (pc := 76) dJ6_numberOfTrailingZeros_0f7a4_76 (cnb rfl) ?_
            refine a_iushr (pc := 77) dJ6_numberOfTrailingZeros_0f7a4_77 ?_
            refine a_iadd (pc := 78) dJ6_numberOfTrailingZeros_0f7a4_78 h.1 ?_
            replace h := h.2
            exact a_iretI (pc := 79) dJ6_numberOfTrailingZeros_0f7a4_79 rfl h
  · replace h := h.2 hc
    refine a_iload_n (pc := 12) dJ6_numberOfTrailingZeros_0f7a4_12 rfl ?_
    refine a_bipush (pc := 13) dJ6_numberOfTrailingZeros_0f7a4_13 (by decide) (cnb rfl) ?_
    refine a_iand (pc := 15) dJ6_numberOfTrailingZeros_0f7a4_15 ?_
    exact a_iretI (pc := 16) dJ6_numberOfTrailingZeros_0f7a4_16 rfl h
set_option maxRecDepth 20000 in
theorem e_J6_numberOfTrailingZeros_0f7a4 {Q : Int → Me → Prop}  {a : Int} {M : Me} (h :
    cn (a - 1) ∧
    ((0 < band (bxor a (-1)) (a - 1) →
    ((band (bxor a (-1)) (a - 1) ≤ 65536 →
    ((band (bxor a (-1)) (a - 1) ≤ 256 →
    ((band (bxor a (-1)) (a - 1) ≤ 16 →
    ((band (bxor a (-1)) (a - 1) ≤ 4 →
    cn (1 + (bushr (band (bxor a (-1)) (a - 1)) 1)) ∧
    Q (1 + (bushr (band (bxor a (-1)) (a - 1)) 1)) M) ∧ (4 < band (bxor a (-1)) (a - 1) →
    cn (1 + 2) ∧
    cn ((1 + 2) + (bushr (bushr (band (bxor a (-1)) (a - 1)) 2) 1)) ∧
    Q ((1 + 2) + (bushr (bushr (band (bxor a (-1)) (a - 1)) 2) 1)) M))) ∧ (16 < band (bxor a (-1)) (a - 1) →
    cn (1 + 4) ∧
    ((bushr (band (bxor a (-1)) (a - 1)) 4 ≤ 4 →
    cn ((1 + 4) + (bushr (bushr (band (bxor a (-1)) (a - 1)) 4) 1)) ∧
    Q ((1 + 4) + (bushr (bushr (band (bxor a (-1)) (a - 1)) 4) 1)) M) ∧ (4 < bushr (band (bxor a (-1)) (a - 1)) 4 →
    cn ((1 + 4) + 2) ∧
    cn (((1 + 4) + 2) + (bushr (bushr (bushr (band (bxor a (-1)) (a - 1)) 4) 2) 1)) ∧
    Q (((1 + 4) + 2) + (bushr (bushr (bushr (band (bxor a (-1)) (a - 1)) 4) 2) 1)) M))))) ∧ (256 < band (bxor a (-1)) (a - 1) →
    cn (1 + 8) ∧
    ((bushr (band (bxor a (-1)) (a - 1)) 8 ≤ 16 →
    ((bushr (band (bxor a (-1)) (a - 1)) 8 ≤ 4 →
    cn ((1 + 8) + (bushr (bushr (band (bxor a (-1)) (a - 1)) 8) 1)) ∧
    Q ((1 + 8) + (bushr (bushr (band (bxor a (-1)) (a - 1)) 8) 1)) M) ∧ (4 < bushr (band (bxor a (-1)) (a - 1)) 8 →
    cn ((1 + 8) + 2) ∧
    cn (((1 + 8) + 2) + (bushr (bushr (bushr (band (bxor a (-1)) (a - 1)) 8) 2) 1)) ∧
    Q (((1 + 8) + 2) + (bushr (bushr (bushr (band (bxor a (-1)) (a - 1)) 8) 2) 1)) M))) ∧ (16 < bushr (band (bxor a (-1)) (a - 1)) 8 →
    cn ((1 + 8) + 4) ∧
    ((bushr (bushr (band (bxor a (-1)) (a - 1)) 8) 4 ≤ 4 →
    cn (((1 + 8) + 4) + (bushr (bushr (bushr (band (bxor a (-1)) (a - 1)) 8) 4) 1)) ∧
    Q (((1 + 8) + 4) + (bushr (bushr (bushr (band (bxor a (-1)) (a - 1)) 8) 4) 1)) M) ∧ (4 < bushr (bushr (band (bxor a (-1)) (a - 1)) 8) 4 →
    cn (((1 + 8) + 4) + 2) ∧
    cn ((((1 + 8) + 4) + 2) + (bushr (bushr (bushr (bushr (band (bxor a (-1)) (a - 1)) 8) 4) 2) 1)) ∧
    Q ((((1 + 8) + 4) + 2) + (bushr (bushr (bushr (bushr (band (bxor a (-1)) (a - 1)) 8) 4) 2) 1)) M))))))) ∧ (65536 < band (bxor a (-1)) (a - 1) →
    cn (1 + 16) ∧
    ((bushr (band (bxor a (-1)) (a - 1)) 16 ≤ 256 →
    ((bushr (band (bxor a (-1)) (a - 1)) 16 ≤ 16 →
    ((bushr (band (bxor a (-1)) (a - 1)) 16 ≤ 4 →
    cn ((1 + 16) + (bushr (bushr (band (bxor a (-1)) (a - 1)) 16) 1)) ∧
    Q ((1 + 16) + (bushr (bushr (band (bxor a (-1)) (a - 1)) 16) 1)) M) ∧ (4 < bushr (band (bxor a (-1)) (a - 1)) 16 →
    cn ((1 + 16) + 2) ∧
    cn (((1 + 16) + 2) + (bushr (bushr (bushr (band (bxor a (-1)) (a - 1)) 16) 2) 1)) ∧
    Q (((1 + 16) + 2) + (bushr (bushr (bushr (band (bxor a (-1)) (a - 1)) 16) 2) 1)) M))) ∧ (16 < bushr (band (bxor a (-1)) (a - 1)) 16 →
    cn ((1 + 16) + 4) ∧
    ((bushr (bushr (band (bxor a (-1)) (a - 1)) 16) 4 ≤ 4 →
    cn (((1 + 16) + 4) + (bushr (bushr (bushr (band (bxor a (-1)) (a - 1)) 16) 4) 1)) ∧
    Q (((1 + 16) + 4) + (bushr (bushr (bushr (band (bxor a (-1)) (a - 1)) 16) 4) 1)) M) ∧ (4 < bushr (bushr (band (bxor a (-1)) (a - 1)) 16) 4 →
    cn (((1 + 16) + 4) + 2) ∧
    cn ((((1 + 16) + 4) + 2) + (bushr (bushr (bushr (bushr (band (bxor a (-1)) (a - 1)) 16) 4) 2) 1)) ∧
    Q ((((1 + 16) + 4) + 2) + (bushr (bushr (bushr (bushr (band (bxor a (-1)) (a - 1)) 16) 4) 2) 1)) M))))) ∧ (256 < bushr (band (bxor a (-1)) (a - 1)) 16 →
    cn ((1 + 16) + 8) ∧
    ((bushr (bushr (band (bxor a (-1)) (a - 1)) 16) 8 ≤ 16 →
    ((bushr (bushr (band (bxor a (-1)) (a - 1)) 16) 8 ≤ 4 →
    cn (((1 + 16) + 8) + (bushr (bushr (bushr (band (bxor a (-1)) (a - 1)) 16) 8) 1)) ∧
    Q (((1 + 16) + 8) + (bushr (bushr (bushr (band (bxor a (-1)) (a - 1)) 16) 8) 1)) M) ∧ (4 < bushr (bushr (band (bxor a (-1)) (a - 1)) 16) 8 →
    cn (((1 + 16) + 8) + 2) ∧
    cn ((((1 + 16) + 8) + 2) + (bushr (bushr (bushr (bushr (band (bxor a (-1)) (a - 1)) 16) 8) 2) 1)) ∧
    Q ((((1 + 16) + 8) + 2) + (bushr (bushr (bushr (bushr (band (bxor a (-1)) (a - 1)) 16) 8) 2) 1)) M))) ∧ (16 < bushr (bushr (band (bxor a (-1)) (a - 1)) 16) 8 →
    cn (((1 + 16) + 8) + 4) ∧
    ((bushr (bushr (bushr (band (bxor a (-1)) (a - 1)) 16) 8) 4 ≤ 4 →
    cn ((((1 + 16) + 8) + 4) + (bushr (bushr (bushr (bushr (band (bxor a (-1)) (a - 1)) 16) 8) 4) 1)) ∧
    Q ((((1 + 16) + 8) + 4) + (bushr (bushr (bushr (bushr (band (bxor a (-1)) (a - 1)) 16) 8) 4) 1)) M) ∧ (4 < bushr (bushr (bushr (band (bxor a (-1)) (a - 1)) 16) 8) 4 →
    cn ((((1 + 16) + 8) + 4) + 2) ∧
    cn (((((1 + 16) + 8) + 4) + 2) + (bushr (bushr (bushr (bushr (bushr (band (bxor a (-1)) (a - 1)) 16) 8) 4) 2) 1)) ∧
    Q (((((1 + 16) + 8) + 4) + 2) + (bushr (bushr (bushr (bushr (bushr (band (bxor a (-1)) (a - 1)) 16) 8) 4) 2) 1)) M))))))))) ∧ (band (bxor a (-1)) (a - 1) ≤ 0 →
    Q (band (band (bxor a (-1)) (a - 1)) 32) M))) : Calls 0 mJ6_numberOfTrailingZeros_0f7a4 [.inl a] M Q := Calls.of (by decide) (Nat.le_of_ble_eq_true rfl) (s_J6_numberOfTrailingZeros_0f7a4_0  a M h)
set_option maxRecDepth 20000 in
theorem s_X12_bits_0 {Q : Int → Me → Prop}  (a : Int) (M : Me) (h :
    Go (km 0 mX12_bits Q) 4 [some (.inl a), some (.inl 0), some (.inl 0)] [] M) :
    Go (km 0 mX12_bits Q) 0 [some (.inl a), none, none] [] M := by
  refine a_iconst (pc := 0) dX12_bits_0 (cnb rfl) ?_
  refine a_istore_n (pc := 1) dX12_bits_1 (Nat.le_of_ble_eq_true rfl) ?_
  refine a_iconst (pc := 2) dX12_bits_2 (cnb rfl) ?_
  refine a_istore_n (pc := 3) dX12_bits_3 (Nat.le_of_ble_eq_true rfl) ?_
  exact h
set_option maxRecDepth 20000 in
theorem e_X12_bits {Q : Int → Me → Prop}  {a : Int} {M : Me} (h :
    Go (km 0 mX12_bits Q) 4 [some (.inl a), some (.inl 0), some (.inl 0)] [] M) : Calls 0 mX12_bits [.inl a] M Q := Calls.of (by decide) (Nat.le_of_ble_eq_true rfl) (s_X12_bits_0  a M h)
set_option maxRecDepth 20000 in
theorem s_X12_bits_4 {Q : Int → Me → Prop}  (x0 x1 x2 : Int) (M : Me) (h :
    ((16 ≤ x2 →
    Q x1 M) ∧ (x2 < 16 →
    cn (x1 + (band (bshr x0 x2) 1)) ∧
    cn (x2 + 1) ∧
    Go (km 0 mX12_bits Q) 4 [some (.inl x0), some (.inl (x1 + (band (bshr x0 x2) 1))), some (.inl (x2 + 1))] [] M))) :
    Go (km 0 mX12_bits Q) 4 [some (.inl x0), some (.inl x1), some (.inl x2)] [] M := by
  refine a_iload_n (pc := 4) dX12_bits_4 rfl ?_
  refine a_bipush (pc := 5) dX12_bits_5 (by decide) (cnb rfl) ?_
  refine a_icmp_ge (pc := 7) 24 dX12_bits_7 rfl ⟨fun hc => ?_, fun hc => ?_⟩
  · replace h := h.1 hc
    refine a_iload_n (pc := 24) dX12_bits_24 rfl ?_
    exact a_iretI (pc := 25) dX12_bits_25 rfl h
  · replace h := h.2 hc
    refine a_iload_n (pc := 10) dX12_bits_10 rfl ?_
    refine a_iload_n (pc := 11) dX12_bits_11 rfl ?_
    refine a_iload_n (pc := 12) dX12_bits_12 rfl ?_
    refine a_ishr (pc := 13) dX12_bits_13 ?_
    refine a_iconst (pc := 14) dX12_bits_14 (cnb rfl) ?_
    refine a_iand (pc := 15) dX12_bits_15 ?_
    refine a_iadd (pc := 16) dX12_bits_16 h.1 ?_
    replace h := h.2
    refine a_istore_n (pc := 17) dX12_bits_17 (Nat.le_of_ble_eq_true rfl) ?_
    refine a_iinc (pc := 18) dX12_bits_18 rfl h.1 (Nat.le_of_ble_eq_true rfl) ?_
    replace h := h.2
    refine a_goto (pc := 21) 4 dX12_bits_21 rfl ?_
    exact h
