set_option maxRecDepth 20000 in
theorem s_X9_addWord_0 {Q : Int → Me → Prop}  (a : Int) (M : Me) (h :
    Go (km 0 mX9_addWord Q) 3 [some (.inr 1), some (.inl a), some (.inl 24)] [] M) :
    Go (km 0 mX9_addWord Q) 0 [some (.inr 1), some (.inl a), none] [] M := by
  refine a_bipush (pc := 0) dX9_addWord_0 (by decide) (cnb rfl) ?_
  refine a_istore_n (pc := 2) dX9_addWord_2 (Nat.le_of_ble_eq_true rfl) ?_
  exact h
set_option maxRecDepth 20000 in
theorem e_X9_addWord {Q : Int → Me → Prop}  {a : Int} {M : Me} (h :
    Go (km 0 mX9_addWord Q) 3 [some (.inr 1), some (.inl a), some (.inl 24)] [] M) : Calls 0 mX9_addWord [.inr 1, .inl a] M Q := Calls.of (by decide) (Nat.le_of_ble_eq_true rfl) (s_X9_addWord_0  a M h)
set_option maxRecDepth 20000 in
theorem s_X9_addWord_3 {Q : Int → Me → Prop}  (x1 x2 : Int) (M : Me) (h :
    ((x2 < 0 →
    Q 0 M) ∧ (0 ≤ x2 →
    ((260 ≤ M 1 1 →
    Q 0 M) ∧ (M 1 1 < 260 →
    (0 ≤ M 1 1 ∧ M 1 1 < 260) ∧
    cn ((M 1 1) + 1) ∧
    cn (x2 + (-8)) ∧
    Go (km 0 mX9_addWord Q) 3 [some (.inr 1), some (.inl x1), some (.inl (x2 + (-8)))] [] (mput (mput M 2 (M 1 1) (band (bshr x1 x2) 255)) 1 1 ((M 1 1) + 1))))))) :
    Go (km 0 mX9_addWord Q) 3 [some (.inr 1), some (.inl x1), some (.inl x2)] [] M := by
  refine a_iload_n (pc := 3) dX9_addWord_3 rfl ?_
  refine a_if_lt (pc := 4) 51 dX9_addWord_4 rfl ⟨fun hc => ?_, fun hc => ?_⟩
  · replace h := h.1 hc
    exact a_ret (pc := 51) dX9_addWord_51 rfl h
  · replace h := h.2 hc
    refine a_aload_n (pc := 7) dX9_addWord_7 rfl ?_
    refine a_geti (pc := 8) 1 dX9_addWord_8 f_X9_15 rfl rfl ?_
    refine a_aload_n (pc := 11) dX9_addWord_11 rfl ?_
    refine a_getr (pc := 12) dX9_addWord_12 f_X9_11 rfl ?_
    refine a_alen (pc := 15) 260 dX9_addWord_15 rfl rfl (cnb rfl) ?_
    refine a_icmp_ge (pc := 16) 51 dX9_addWord_16 rfl ⟨fun hc => ?_, fun hc => ?_⟩
    · replace h := h.1 hc
      exact a_ret (pc := 51) dX9_addWord_51 rfl h
    · replace h := h.2 hc
      refine a_aload_n (pc := 19) dX9_addWord_19 rfl ?_
      refine a_getr (pc := 20) dX9_addWord_20 f_X9_11 rfl ?_
      refine a_aload_n (pc := 23) dX9_addWord_23 rfl ?_
      refine a_geti (pc := 24) 1 dX9_addWord_24 f_X9_15 rfl rfl ?_
      refine a_iload_n (pc := 27) dX9_addWord_27 rfl ?_
      refine a_iload_n (pc := 28) dX9_addWord_28 rfl ?_
      refine a_ishr (pc := 29) dX9_addWord_29 ?_
      refine a_sipush (pc := 30) dX9_addWord_30 (by decide) (cnb rfl) ?_
      refine a_iand (pc := 33) dX9_addWord_33 ?_
      refine a_iast (pc := 34) dX9_addWord_34 rfl h.1.1 h.1.2 ?_
      replace h := h.2
      refine a_aload_n (pc := 35) dX9_addWord_35 rfl ?_
      refine a_dup (pc := 36) dX9_addWord_36 ?_
      refine a_getiE (pc := 37) (M 1 1) 1 dX9_addWord_37 f_X9_15 rfl rfl (mput_ne _ _ _ _ (by decide)) ?_
      refine a_iconst (pc := 40) dX9_addWord_40 (cnb rfl) ?_
      refine a_iadd (pc := 41) dX9_addWord_41 h.1 ?_
      replace h := h.2
      refine a_puti (pc := 42) 1 dX9_addWord_42 f_X9_15 rfl rfl (Or.inl rfl) ?_
      refine a_iinc (pc := 45) dX9_addWord_45 rfl h.1 (Nat.le_of_ble_eq_true rfl) ?_
      replace h := h.2
      refine a_goto (pc := 48) 3 dX9_addWord_48 rfl ?_
      exact h
set_option maxRecDepth 20000 in
theorem s_X12_types_0 {Q : Int → Me → Prop}  (a : Int) (M : Me) (h :
    Go (km 0 mX12_types Q) 2 [some (.inr 76), some (.inl a), some (.inl 3)] [] M) :
    Go (km 0 mX12_types Q) 0 [some (.inr 76), some (.inl a), none] [] M := by
  refine a_iconst (pc := 0) dX12_types_0 (cnb rfl) ?_
  refine a_istore_n (pc := 1) dX12_types_1 (Nat.le_of_ble_eq_true rfl) ?_
  exact h
set_option maxRecDepth 20000 in
theorem e_X12_types {Q : Int → Me → Prop}  {a : Int} {M : Me} (h :
    Go (km 0 mX12_types Q) 2 [some (.inr 76), some (.inl a), some (.inl 3)] [] M) : Calls 0 mX12_types [.inr 76, .inl a] M Q := Calls.of (by decide) (Nat.le_of_ble_eq_true rfl) (s_X12_types_0  a M h)
set_option maxRecDepth 20000 in
theorem s_X12_types_2 {Q : Int → Me → Prop}  (x1 x2 : Int) (M : Me) (h :
    ((x2 < 0 →
    Q 0 M) ∧ (0 ≤ x2 →
    cn (8 * x2) ∧
    (0 ≤ M 76 13 ∧ M 76 13 < 260) ∧
    cn ((M 76 13) + 1) ∧
    cn (x2 + (-1)) ∧
    Go (km 0 mX12_types Q) 2 [some (.inr 76), some (.inl x1), some (.inl (x2 + (-1)))] [] (mput (mput M 88 (M 76 13) (bbyt (bbyt (bshr x1 (8 * x2))))) 76 13 ((M 76 13) + 1))))) :
    Go (km 0 mX12_types Q) 2 [some (.inr 76), some (.inl x1), some (.inl x2)] [] M := by
  refine a_iload_n (pc := 2) dX12_types_2 rfl ?_
  refine a_if_lt (pc := 3) 38 dX12_types_3 rfl ⟨fun hc => ?_, fun hc => ?_⟩
  · replace h := h.1 hc
    exact a_ret (pc := 38) dX12_types_38 rfl h
  · replace h := h.2 hc
    refine a_aload_n (pc := 6) dX12_types_6 rfl ?_
    refine a_getr (pc := 7) dX12_types_7 f_X12_43 rfl ?_
    refine a_aload_n (pc := 10) dX12_types_10 rfl ?_
    refine a_geti (pc := 11) 13 dX12_types_11 f_X12_168 rfl rfl ?_
    refine a_iload_n (pc := 14) dX12_types_14 rfl ?_
    refine a_bipush (pc := 15) dX12_types_15 (by decide) (cnb rfl) ?_
    refine a_iload_n (pc := 17) dX12_types_17 rfl ?_
    refine a_imul (pc := 18) dX12_types_18 h.1 ?_
    replace h := h.2
    refine a_ishr (pc := 19) dX12_types_19 ?_
    refine a_i2b (pc := 20) dX12_types_20 ?_
    refine a_bast (pc := 21) dX12_types_21 rfl h.1.1 h.1.2 ?_
    replace h := h.2
    refine a_aload_n (pc := 22) dX12_types_22 rfl ?_
    refine a_aload_n (pc := 23) dX12_types_23 rfl ?_
    refine a_getiE (pc := 24) (M 76 13) 13 dX12_types_24 f_X12_168 rfl rfl (mput_ne _ _ _ _ (by decide)) ?_
    refine a_iconst (pc := 27) dX12_types_27 (cnb rfl) ?_
    refine a_iadd (pc := 28) dX12_types_28 h.1 ?_
    replace h := h.2
    refine a_puti (pc := 29) 13 dX12_types_29 f_X12_168 rfl rfl (Or.inl rfl) ?_
    refine a_iinc (pc := 32) dX12_types_32 rfl h.1 (Nat.le_of_ble_eq_true rfl) ?_
    replace h := h.2
    refine a_goto (pc := 35) 2 dX12_types_35 rfl ?_
    exact h
set_option maxRecDepth 20000 in
theorem s_X11_feed_0 {Q : Int → Me → Prop}  (a b c d e : Int) (M : Me) (h :
    cn ((M 1 1) + 20) ∧
    (((M 1 1) + 20 ≤ 260 →
    Calls 0 mX9_addWord [.inr 1, .inl a] M (fun r23 M23 =>
    Calls 0 mX9_addWord [.inr 1, .inl b] M23 (fun r31 M31 =>
    Calls 0 mX9_addWord [.inr 1, .inl c] M31 (fun r39 M39 =>
    Calls 0 mX9_addWord [.inr 1, .inl d] M39 (fun r48 M48 =>
    Calls 0 mX9_addWord [.inr 1, .inl e] M48 (fun r57 M57 =>
    Q (M57 1 1) M57)))))) ∧ (260 < (M 1 1) + 20 →
    Q (-1) M))) :
    Go (km 1 mX11_feed Q) 0 [some (.inr 0), some (.inl a), some (.inl b), some (.inl c), some (.inl d), some (.inl e)] [] M := by
  refine a_aload_n (pc := 0) dX11_feed_0 rfl ?_
  refine a_getr (pc := 1) dX11_feed_1 f_X11_10 rfl ?_
  refine a_geti (pc := 4) 1 dX11_feed_4 f_X11_118 rfl rfl ?_
  refine a_bipush (pc := 7) dX11_feed_7 (by decide) (cnb rfl) ?_
  refine a_iadd (pc := 9) dX11_feed_9 h.1 ?_
  replace h := h.2
  refine a_sipush (pc := 10) dX11_feed_10 (by decide) (cnb rfl) ?_
  refine a_icmp_le (pc := 13) 18 dX11_feed_13 rfl ⟨fun hc => ?_, fun hc => ?_⟩
  · replace h := h.1 hc
    refine a_aload_n (pc := 18) dX11_feed_18 rfl ?_
    refine a_getr (pc := 19) dX11_feed_19 f_X11_10 rfl ?_
    refine a_iload_n (pc := 22) dX11_feed_22 rfl ?_
    refine a_callVv (pc := 23) (d := 0) (st := []) (o := 1) [.inl a] dX11_feed_23 l_X11_121 in_X9_addWord se_X9_addWord rfl rfl rfl ⟨Nat.le_of_ble_eq_true rfl, Nat.le_of_ble_eq_true rfl⟩ ⟨Nat.le_of_ble_eq_true rfl, Nat.le_of_ble_eq_true rfl⟩ (Nat.le_of_ble_eq_true rfl) ?_
    refine Calls.mono (fun r23 M23 hr23 hM23 h => ?_) h
    refine a_aload_n (pc := 26) dX11_feed_26 rfl ?_
    refine a_getr (pc := 27) dX11_feed_27 f_X11_10 rfl ?_
    refine a_iload_n (pc := 30) dX11_feed_30 rfl ?_
    refine a_callVv (pc := 31) (d := 0) (st := []) (o := 1) [.inl b] dX11_feed_31 l_X11_121 in_X9_addWord se_X9_addWord rfl rfl rfl ⟨Nat.le_of_ble_eq_true rfl, Nat.le_of_ble_eq_true rfl⟩ ⟨Nat.le_of_ble_eq_true rfl, Nat.le_of_ble_eq_true rfl⟩ (Nat.le_of_ble_eq_true rfl) ?_
    refine Calls.mono (fun r31 M31 hr31 hM31 h => ?_) h
    refine a_aload_n (pc := 34) dX11_feed_34 rfl ?_
    refine a_getr (pc := 35) dX11_feed_35 f_X11_10 rfl ?_
    refine a_iload_n (pc := 38) dX11_feed_38 rfl ?_
    refine a_callVv (pc := 39) (d := 0) (st := []) (o := 1) [.inl c] dX11_feed_39 l_X11_121 in_X9_addWord se_X9_addWord rfl rfl rfl ⟨Nat.le_of_ble_eq_true rfl, Nat.le_of_ble_eq_true rfl⟩ ⟨Nat.le_of_ble_eq_true rfl, Nat.le_of_ble_eq_true rfl⟩ (Nat.le_of_ble_eq_true rfl) ?_
    refine Calls.mono (fun r39 M39 hr39 hM39 h => ?_) h
    refine a_aload_n (pc := 42) dX11_feed_42 rfl ?_
    refine a_getr (pc := 43) dX11_feed_43 f_X11_10 rfl ?_
    refine a_iload (pc := 46) dX11_feed_46 rfl ?_
    refine a_callVv (pc := 48) (d := 0) (st := []) (o := 1) [.inl d] dX11_feed_48 l_X11_121 in_X9_addWord se_X9_addWord rfl rfl rfl ⟨Nat.le_of_ble_eq_true rfl, Nat.le_of_ble_eq_true rfl⟩ ⟨Nat.le_of_ble_eq_true rfl, Nat.le_of_ble_eq_true rfl⟩ (Nat.le_of_ble_eq_true rfl) ?_
    refine Calls.mono (fun r48 M48 hr48 hM48 h => ?_) h
    refine a_aload_n (pc := 51) dX11_feed_51 rfl ?_
    refine a_getr (pc := 52) dX11_feed_52 f_X11_10 rfl ?_
    refine a_iload (pc := 55) dX11_feed_55 rfl ?_
    refine a_callVv (pc := 57) (d := 0) (st := []) (o := 1) [.inl e] dX11_feed_57 l_X11_121 in_X9_addWord se_X9_addWord rfl rfl rfl ⟨Nat.le_of_ble_eq_true rfl, Nat.le_of_ble_eq_true rfl⟩ ⟨Nat.le_of_ble_eq_true rfl, Nat.le_of_ble_eq_true rfl⟩ (Nat.le_of_ble_eq_true rfl) ?_
    refine Calls.mono (fun r57 M57 hr57 hM57 h => ?_) h
    refine a_aload_n (pc := 60) dX11_feed_60 rfl ?_
    refine a_getr (pc := 61) dX11_feed_61 f_X11_10 rfl ?_
    refine a_geti (pc := 64) 1 dX11_feed_64 f_X11_118 rfl rfl ?_
    exact a_iretI (pc := 67) dX11_feed_67 rfl h
  · replace h := h.2 hc
    refine a_iconst (pc := 16) dX11_feed_16 (cnb rfl) ?_
    exact a_iretI (pc := 17) dX11_feed_17 rfl h
set_option maxRecDepth 20000 in
theorem e_X11_feed {Q : Int → Me → Prop}  {a b c d e : Int} {M : Me} (h :
    cn ((M 1 1) + 20) ∧
    (((M 1 1) + 20 ≤ 260 →
    Calls 0 mX9_addWord [.inr 1, .inl a] M (fun r23 M23 =>
    Calls 0 mX9_addWord [.inr 1, .inl b] M23 (fun r31 M31 =>
    Calls 0 mX9_addWord [.inr 1, .inl c] M31 (fun r39 M39 =>
    Calls 0 mX9_addWord [.inr 1, .inl d] M39 (fun r48 M48 =>
    Calls 0 mX9_addWord [.inr 1, .inl e] M48 (fun r57 M57 =>
    Q (M57 1 1) M57)))))) ∧ (260 < (M 1 1) + 20 →
    Q (-1) M))) : Calls 1 mX11_feed [.inr 0, .inl a, .inl b, .inl c, .inl d, .inl e] M Q := Calls.of (by decide) (Nat.le_of_ble_eq_true rfl) (s_X11_feed_0  a b c d e M h)
set_option maxRecDepth 20000 in
theorem s_X12_feed_0 {Q : Int → Me → Prop}  (a b c d e : Int) (M : Me) (h :
    cn ((M 76 13) + 20) ∧
    (((M 76 13) + 20 ≤ 260 →
    Calls 0 mX12_types [.inr 76, .inl a] M (fun r17 M17 =>
    Calls 0 mX12_types [.inr 76, .inl b] M17 (fun r22 M22 =>
    Calls 0 mX12_types [.inr 76, .inl c] M22 (fun r27 M27 =>
    Calls 0 mX12_types [.inr 76, .inl d] M27 (fun r33 M33 =>
    Calls 0 mX12_types [.inr 76, .inl e] M33 (fun r39 M39 =>
    Q (M39 76 13) M39)))))) ∧ (260 < (M 76 13) + 20 →
    Q (-1) M))) :
    Go (km 1 mX12_feed Q) 0 [some (.inr 76), some (.inl a), some (.inl b), some (.inl c), some (.inl d), some (.inl e)] [] M := by
  refine a_aload_n (pc := 0) dX12_feed_0 rfl ?_
  refine a_geti (pc := 1) 13 dX12_feed_1 f_X12_168 rfl rfl ?_
  refine a_bipush (pc := 4) dX12_feed_4 (by decide) (cnb rfl) ?_
  refine a_iadd (pc := 6) dX12_feed_6 h.1 ?_
  replace h := h.2
  refine a_sipush (pc := 7) dX12_feed_7 (by decide) (cnb rfl) ?_
  refine a_icmp_le (pc := 10) 15 dX12_feed_10 rfl ⟨fun hc => ?_, fun hc => ?_⟩
  · replace h := h.1 hc
    refine a_aload_n (pc := 15) dX12_feed_15 rfl ?_
    refine a_iload_n (pc := 16) dX12_feed_16 rfl ?_
    refine a_callVv (pc := 17) (d := 0) (st := []) (o := 76) [.inl a] dX12_feed_17 l_X12_171 in_X12_types se_X12_types rfl rfl rfl ⟨Nat.le_of_ble_eq_true rfl, Nat.le_of_ble_eq_true rfl⟩ ⟨Nat.le_of_ble_eq_true rfl, Nat.le_of_ble_eq_true rfl⟩ (Nat.le_of_ble_eq_true rfl) ?_
    refine Calls.mono (fun r17 M17 hr17 hM17 h => ?_) h
    refine a_aload_n (pc := 20) dX12_feed_20 rfl ?_
    refine a_iload_n (pc := 21) dX12_feed_21 rfl ?_
    refine a_callVv (pc := 22) (d := 0) (st := []) (o := 76) [.inl b] dX12_feed_22 l_X12_171 in_X12_types se_X12_types rfl rfl rfl ⟨Nat.le_of_ble_eq_true rfl, Nat.le_of_ble_eq_true rfl⟩ ⟨Nat.le_of_ble_eq_true rfl, Nat.le_of_ble_eq_true rfl⟩ (Nat.le_of_ble_eq_true rfl) ?_
    refine Calls.mono (fun r22 M22 hr22 hM22 h => ?_) h
    refine a_aload_n (pc := 25) dX12_feed_25 rfl ?_
    refine a_iload_n (pc := 26) dX12_feed_26 rfl ?_
    refine a_callVv (pc := 27) (d := 0) (st := []) (o := 76) [.inl c] dX12_feed_27 l_X12_171 in_X12_types se_X12_types rfl rfl rfl ⟨Nat.le_of_ble_eq_true rfl, Nat.le_of_ble_eq_true rfl⟩ ⟨Nat.le_of_ble_eq_true rfl, Nat.le_of_ble_eq_true rfl⟩ (Nat.le_of_ble_eq_true rfl) ?_
    refine Calls.mono (fun r27 M27 hr27 hM27 h => ?_) h
    refine a_aload_n (pc := 30) dX12_feed_30 rfl ?_
    refine a_iload (pc := 31) dX12_feed_31 rfl ?_
    refine a_callVv (pc := 33) (d := 0) (st := []) (o := 76) [.inl d] dX12_feed_33 l_X12_171 in_X12_types se_X12_types rfl rfl rfl ⟨Nat.le_of_ble_eq_true rfl, Nat.le_of_ble_eq_true rfl⟩ ⟨Nat.le_of_ble_eq_true rfl, Nat.le_of_ble_eq_true rfl⟩ (Nat.le_of_ble_eq_true rfl) ?_
    refine Calls.mono (fun r33 M33 hr33 hM33 h => ?_) h
    refine a_aload_n (pc := 36) dX12_feed_36 rfl ?_
    refine a_iload (pc := 37) dX12_feed_37 rfl ?_
    refine a_callVv (pc := 39) (d := 0) (st := []) (o := 76) [.inl e] dX12_feed_39 l_X12_171 in_X12_types se_X12_types rfl rfl rfl ⟨Nat.le_of_ble_eq_true rfl, Nat.le_of_ble_eq_true rfl⟩ ⟨Nat.le_of_ble_eq_true rfl, Nat.le_of_ble_eq_true rfl⟩ (Nat.le_of_ble_eq_true rfl) ?_
    refine Calls.mono (fun r39 M39 hr39 hM39 h => ?_) h
    refine a_aload_n (pc := 42) dX12_feed_42 rfl ?_
    refine a_geti (pc := 43) 13 dX12_feed_43 f_X12_168 rfl rfl ?_
    exact a_iretI (pc := 46) dX12_feed_46 rfl h
  · replace h := h.2 hc
    refine a_iconst (pc := 13) dX12_feed_13 (cnb rfl) ?_
    exact a_iretI (pc := 14) dX12_feed_14 rfl h
set_option maxRecDepth 20000 in
theorem e_X12_feed {Q : Int → Me → Prop}  {a b c d e : Int} {M : Me} (h :
    cn ((M 76 13) + 20) ∧
    (((M 76 13) + 20 ≤ 260 →
    Calls 0 mX12_types [.inr 76, .inl a] M (fun r17 M17 =>
    Calls 0 mX12_types [.inr 76, .inl b] M17 (fun r22 M22 =>
    Calls 0 mX12_types [.inr 76, .inl c] M22 (fun r27 M27 =>
    Calls 0 mX12_types [.inr 76, .inl d] M27 (fun r33 M33 =>
    Calls 0 mX12_types [.inr 76, .inl e] M33 (fun r39 M39 =>
    Q (M39 76 13) M39)))))) ∧ (260 < (M 76 13) + 20 →
    Q (-1) M))) : Calls 1 mX12_feed [.inr 76, .inl a, .inl b, .inl c, .inl d, .inl e] M Q := Calls.of (by decide) (Nat.le_of_ble_eq_true rfl) (s_X12_feed_0  a b c d e M h)
