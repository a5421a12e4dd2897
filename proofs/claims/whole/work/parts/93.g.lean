set_option maxRecDepth 20000 in
theorem s_X9_beginText_0 {Q : Int → Me → Prop}  (a : Int) (M : Me) (h :
    Q 0 (mput (mput (mput M 1 2 (min a (M 1 1))) 1 3 0) 1 4 0)) :
    Go (km 1 mX9_beginText Q) 0 [some (.inr 1), some (.inl a)] [] M := by
  refine a_aload_n (pc := 0) dX9_beginText_0 rfl ?_
  refine a_iload_n (pc := 1) dX9_beginText_1 rfl ?_
  refine a_aload_n (pc := 2) dX9_beginText_2 rfl ?_
  refine a_geti (pc := 3) 1 dX9_beginText_3 f_X9_15 rfl rfl ?_
  refine a_mmin (pc := 6) dX9_beginText_6 ml_X9_28 mt_st_min mt_ini mt_cd_min ⟨Nat.le_of_ble_eq_true rfl, Nat.le_of_ble_eq_true rfl⟩ ⟨Nat.le_of_ble_eq_true rfl, Nat.le_of_ble_eq_true rfl⟩ (Nat.le_of_ble_eq_true rfl) ?_
  refine a_puti (pc := 9) 2 dX9_beginText_9 f_X9_19 rfl rfl (Or.inl rfl) ?_
  refine a_aload_n (pc := 12) dX9_beginText_12 rfl ?_
  refine a_iconst (pc := 13) dX9_beginText_13 (cnb rfl) ?_
  refine a_puti (pc := 14) 3 dX9_beginText_14 f_X9_22 rfl rfl (Or.inl rfl) ?_
  refine a_aload_n (pc := 17) dX9_beginText_17 rfl ?_
  refine a_iconst (pc := 18) dX9_beginText_18 (cnb rfl) ?_
  refine a_puti (pc := 19) 4 dX9_beginText_19 f_X9_25 rfl rfl (Or.inl rfl) ?_
  exact a_ret (pc := 22) dX9_beginText_22 rfl h
set_option maxRecDepth 20000 in
theorem e_X9_beginText {Q : Int → Me → Prop}  {a : Int} {M : Me} (h :
    Q 0 (mput (mput (mput M 1 2 (min a (M 1 1))) 1 3 0) 1 4 0)) : Calls 1 mX9_beginText [.inr 1, .inl a] M Q := Calls.of (by decide) (Nat.le_of_ble_eq_true rfl) (s_X9_beginText_0  a M h)
set_option maxRecDepth 20000 in
theorem s_X9_fail_0 {Q : Int → Me → Prop}  (a b : Int) (M : Me) (h :
    ((M 1 4 ≠ 0 →
    Q 0 M) ∧ (M 1 4 = 0 →
    cn ((-1000) * a) ∧
    cn (((-1000) * a) - b) ∧
    Q 0 (mput M 1 4 (((-1000) * a) - b))))) :
    Go (km 0 mX9_fail Q) 0 [some (.inr 1), some (.inl a), some (.inl b)] [] M := by
  refine a_aload_n (pc := 0) dX9_fail_0 rfl ?_
  refine a_geti (pc := 1) 4 dX9_fail_1 f_X9_25 rfl rfl ?_
  refine a_if_ne (pc := 4) 18 dX9_fail_4 rfl ⟨fun hc => ?_, fun hc => ?_⟩
  · replace h := h.1 hc
    exact a_ret (pc := 18) dX9_fail_18 rfl h
  · replace h := h.2 hc
    refine a_aload_n (pc := 7) dX9_fail_7 rfl ?_
    refine a_sipush (pc := 8) dX9_fail_8 (by decide) (cnb rfl) ?_
    refine a_iload_n (pc := 11) dX9_fail_11 rfl ?_
    refine a_imul (pc := 12) dX9_fail_12 h.1 ?_
    replace h := h.2
    refine a_iload_n (pc := 13) dX9_fail_13 rfl ?_
    refine a_isub (pc := 14) dX9_fail_14 h.1 ?_
    replace h := h.2
    refine a_puti (pc := 15) 4 dX9_fail_15 f_X9_25 rfl rfl (Or.inl rfl) ?_
    exact a_ret (pc := 18) dX9_fail_18 rfl h
set_option maxRecDepth 20000 in
theorem e_X9_fail {Q : Int → Me → Prop}  {a b : Int} {M : Me} (h :
    ((M 1 4 ≠ 0 →
    Q 0 M) ∧ (M 1 4 = 0 →
    cn ((-1000) * a) ∧
    cn (((-1000) * a) - b) ∧
    Q 0 (mput M 1 4 (((-1000) * a) - b))))) : Calls 0 mX9_fail [.inr 1, .inl a, .inl b] M Q := Calls.of (by decide) (Nat.le_of_ble_eq_true rfl) (s_X9_fail_0  a b M h)
set_option maxRecDepth 20000 in
theorem s_X9_mayTake_0 {Q : Int → Me → Prop}  (a : Int) (M : Me) (h :
    Calls 0 mX9_sign [.inr 1] M (fun r1 M1 =>
    ((r1 ≠ a →
    Q 0 M1) ∧ (r1 = a →
    cn ((M1 1 3) + 1) ∧
    Q 1 (mput M1 1 3 ((M1 1 3) + 1)))))) :
    Go (km 1 mX9_mayTake Q) 0 [some (.inr 1), some (.inl a), none] [] M := by
  refine a_aload_n (pc := 0) dX9_mayTake_0 rfl ?_
  refine a_callVi (pc := 1) (d := 0) (st := []) (o := 1) [] dX9_mayTake_1 l_X9_34 in_X9_sign se_X9_sign rfl rfl rfl ⟨Nat.le_of_ble_eq_true rfl, Nat.le_of_ble_eq_true rfl⟩ ⟨Nat.le_of_ble_eq_true rfl, Nat.le_of_ble_eq_true rfl⟩ (Nat.le_of_ble_eq_true rfl) ?_
  refine Calls.mono (fun r1 M1 hr1 hM1 h => ?_) h
  refine a_iload_n (pc := 4) dX9_mayTake_4 rfl ?_
  refine a_icmp_ne (pc := 5) 12 dX9_mayTake_5 rfl ⟨fun hc => ?_, fun hc => ?_⟩
  · replace h := h.1 hc
    refine a_iconst (pc := 12) dX9_mayTake_12 (cnb rfl) ?_
    refine a_istore_n (pc := 13) dX9_mayTake_13 (Nat.le_of_ble_eq_true rfl) ?_
    refine a_iload_n (pc := 14) dX9_mayTake_14 rfl ?_
    refine a_if_eq (pc := 15) 28 dX9_mayTake_15 rfl ⟨fun _ => ?_, fun hc => absurd hc (by decide)⟩
    refine a_iload_n (pc := 28) dX9_mayTake_28 rfl ?_
    exact a_iretZ (pc := 29) dX9_mayTake_29 rfl (by decide) h
  · replace h := h.2 hc
    refine a_iconst (pc := 8) dX9_mayTake_8 (cnb rfl) ?_
    refine a_goto (pc := 9) 13 dX9_mayTake_9 rfl ?_
    refine a_istore_n (pc := 13) dX9_mayTake_13 (Nat.le_of_ble_eq_true rfl) ?_
    refine a_iload_n (pc := 14) dX9_mayTake_14 rfl ?_
    refine a_if_eq (pc := 15) 28 dX9_mayTake_15 rfl ⟨fun hc => absurd hc (by decide), fun _ => ?_⟩
    refine a_aload_n (pc := 18) dX9_mayTake_18 rfl ?_
    refine a_dup (pc := 19) dX9_mayTake_19 ?_
    refine a_geti (pc := 20) 3 dX9_mayTake_20 f_X9_22 rfl rfl ?_
    refine a_iconst (pc := 23) dX9_mayTake_23 (cnb rfl) ?_
    refine a_iadd (pc := 24) dX9_mayTake_24 h.1 ?_
    replace h := h.2
    refine a_puti (pc := 25) 3 dX9_mayTake_25 f_X9_22 rfl rfl (Or.inl rfl) ?_
    refine a_iload_n (pc := 28) dX9_mayTake_28 rfl ?_
    exact a_iretZ (pc := 29) dX9_mayTake_29 rfl (by decide) h
set_option maxRecDepth 20000 in
theorem e_X9_mayTake {Q : Int → Me → Prop}  {a : Int} {M : Me} (h :
    Calls 0 mX9_sign [.inr 1] M (fun r1 M1 =>
    ((r1 ≠ a →
    Q 0 M1) ∧ (r1 = a →
    cn ((M1 1 3) + 1) ∧
    Q 1 (mput M1 1 3 ((M1 1 3) + 1)))))) : Calls 1 mX9_mayTake [.inr 1, .inl a] M Q := Calls.of (by decide) (Nat.le_of_ble_eq_true rfl) (s_X9_mayTake_0  a M h)
set_option maxRecDepth 20000 in
theorem s_X9_take_0 {Q : Int → Me → Prop}  (a : Int) (M : Me) (h :
    Calls 0 mX9_sign [.inr 1] M (fun r1 M1 =>
    ((r1 ≠ a →
    Calls 0 mX9_fail [.inr 1, .inl 1, .inl (M1 1 3)] M1 (fun r27 M27 =>
    Q 0 M27)) ∧ (r1 = a →
    cn ((M1 1 3) + 1) ∧
    Q 0 (mput M1 1 3 ((M1 1 3) + 1)))))) :
    Go (km 1 mX9_take Q) 0 [some (.inr 1), some (.inl a)] [] M := by
  refine a_aload_n (pc := 0) dX9_take_0 rfl ?_
  refine a_callVi (pc := 1) (d := 0) (st := []) (o := 1) [] dX9_take_1 l_X9_34 in_X9_sign se_X9_sign rfl rfl rfl ⟨Nat.le_of_ble_eq_true rfl, Nat.le_of_ble_eq_true rfl⟩ ⟨Nat.le_of_ble_eq_true rfl, Nat.le_of_ble_eq_true rfl⟩ (Nat.le_of_ble_eq_true rfl) ?_
  refine Calls.mono (fun r1 M1 hr1 hM1 h => ?_) h
  refine a_iload_n (pc := 4) dX9_take_4 rfl ?_
  refine a_icmp_ne (pc := 5) 21 dX9_take_5 rfl ⟨fun hc => ?_, fun hc => ?_⟩
  · replace h := h.1 hc
    refine a_aload_n (pc := 21) dX9_take_21 rfl ?_
    refine a_iconst (pc := 22) dX9_take_22 (cnb rfl) ?_
    refine a_aload_n (pc := 23) dX9_take_23 rfl ?_
    refine a_geti (pc := 24) 3 dX9_take_24 f_X9_22 rfl rfl ?_
    refine a_callVv (pc := 27) (d := 0) (st := []) (o := 1) [.inl 1, .inl (M1 1 3)] dX9_take_27 l_X9_38 in_X9_fail se_X9_fail rfl rfl rfl ⟨Nat.le_of_ble_eq_true rfl, Nat.le_of_ble_eq_true rfl⟩ ⟨Nat.le_of_ble_eq_true rfl, Nat.le_of_ble_eq_true rfl⟩ (Nat.le_of_ble_eq_true rfl) ?_
    refine Calls.mono (fun r27 M27 hr27 hM27 h => ?_) h
    exact a_ret (pc := 30) dX9_take_30 rfl h
  · replace h := h.2 hc
    refine a_aload_n (pc := 8) dX9_take_8 rfl ?_
    refine a_dup (pc := 9) dX9_take_9 ?_
    refine a_geti (pc := 10) 3 dX9_take_10 f_X9_22 rfl rfl ?_
    refine a_iconst (pc := 13) dX9_take_13 (cnb rfl) ?_
    refine a_iadd (pc := 14) dX9_take_14 h.1 ?_
    replace h := h.2
    refine a_puti (pc := 15) 3 dX9_take_15 f_X9_22 rfl rfl (Or.inl rfl) ?_
    refine a_goto (pc := 18) 30 dX9_take_18 rfl ?_
    exact a_ret (pc := 30) dX9_take_30 rfl h
set_option maxRecDepth 20000 in
theorem e_X9_take {Q : Int → Me → Prop}  {a : Int} {M : Me} (h :
    Calls 0 mX9_sign [.inr 1] M (fun r1 M1 =>
    ((r1 ≠ a →
    Calls 0 mX9_fail [.inr 1, .inl 1, .inl (M1 1 3)] M1 (fun r27 M27 =>
    Q 0 M27)) ∧ (r1 = a →
    cn ((M1 1 3) + 1) ∧
    Q 0 (mput M1 1 3 ((M1 1 3) + 1)))))) : Calls 1 mX9_take [.inr 1, .inl a] M Q := Calls.of (by decide) (Nat.le_of_ble_eq_true rfl) (s_X9_take_0  a M h)
set_option maxRecDepth 20000 in
theorem s_X9_endText_0 {Q : Int → Me → Prop}  (a : Int) (M : Me) (h :
    ((M 1 2 ≤ M 1 3 →
    ((M 1 4 ≠ 0 →
    Q (M 1 4) M) ∧ (M 1 4 = 0 →
    Q a M))) ∧ (M 1 3 < M 1 2 →
    Calls 0 mX9_fail [.inr 1, .inl 1, .inl (M 1 3)] M (fun r17 M17 =>
    ((M17 1 4 ≠ 0 →
    Q (M17 1 4) M17) ∧ (M17 1 4 = 0 →
    Q a M17)))))) :
    Go (km 1 mX9_endText Q) 0 [some (.inr 1), some (.inl a)] [] M := by
  refine a_aload_n (pc := 0) dX9_endText_0 rfl ?_
  refine a_geti (pc := 1) 3 dX9_endText_1 f_X9_22 rfl rfl ?_
  refine a_aload_n (pc := 4) dX9_endText_4 rfl ?_
  refine a_geti (pc := 5) 2 dX9_endText_5 f_X9_19 rfl rfl ?_
  refine a_icmp_ge (pc := 8) 20 dX9_endText_8 rfl ⟨fun hc => ?_, fun hc => ?_⟩
  · replace h := h.1 hc
    refine a_aload_n (pc := 20) dX9_endText_20 rfl ?_
    refine a_geti (pc := 21) 4 dX9_endText_21 f_X9_25 rfl rfl ?_
    refine a_if_ne (pc := 24) 31 dX9_endText_24 rfl ⟨fun hc => ?_, fun hc => ?_⟩
    · replace h := h.1 hc
      refine a_aload_n (pc := 31) dX9_endText_31 rfl ?_
      refine a_geti (pc := 32) 4 dX9_endText_32 f_X9_25 rfl rfl ?_
      exact a_iretI (pc := 35) dX9_endText_35 rfl h
    · replace h := h.2 hc
      refine a_iload_n (pc := 27) dX9_endText_27 rfl ?_
      refine a_goto (pc := 28) 35 dX9_endText_28 rfl ?_
      exact a_iretI (pc := 35) dX9_endText_35 rfl h
  · replace h := h.2 hc
    refine a_aload_n (pc := 11) dX9_endText_11 rfl ?_
    refine a_iconst (pc := 12) dX9_endText_12 (cnb rfl) ?_
    refine a_aload_n (pc := 13) dX9_endText_13 rfl ?_
    refine a_geti (pc := 14) 3 dX9_endText_14 f_X9_22 rfl rfl ?_
    refine a_callVv (pc := 17) (d := 0) (st := []) (o := 1) [.inl 1, .inl (M 1 3)] dX9_endText_17 l_X9_38 in_X9_fail se_X9_fail rfl rfl rfl ⟨Nat.le_of_ble_eq_true rfl, Nat.le_of_ble_eq_true rfl⟩ ⟨Nat.le_of_ble_eq_true rfl, Nat.le_of_ble_eq_true rfl⟩ (Nat.le_of_ble_eq_true rfl) ?_
    refine Calls.mono (fun r17 M17 hr17 hM17 h => ?_) h
    refine a_aload_n (pc := 20) dX9_endText_20 rfl ?_
    refine a_geti (pc := 21) 4 dX9_endText_21 f_X9_25 rfl rfl ?_
    refine a_if_ne (pc := 24) 31 dX9_endText_24 rfl ⟨fun hc => ?_, fun hc => ?_⟩
    · replace h := h.1 hc
      refine a_aload_n (pc := 31) dX9_endText_31 rfl ?_
      refine a_geti (pc := 32) 4 dX9_endText_32 f_X9_25 rfl rfl ?_
      exact a_iretI (pc := 35) dX9_endText_35 rfl h
    · replace h := h.2 hc
      refine a_iload_n (pc := 27) dX9_endText_27 rfl ?_
      refine a_goto (pc := 28) 35 dX9_endText_28 rfl ?_
      exact a_iretI (pc := 35) dX9_endText_35 rfl h
set_option maxRecDepth 20000 in
theorem e_X9_endText {Q : Int → Me → Prop}  {a : Int} {M : Me} (h :
    ((M 1 2 ≤ M 1 3 →
    ((M 1 4 ≠ 0 →
    Q (M 1 4) M) ∧ (M 1 4 = 0 →
    Q a M))) ∧ (M 1 3 < M 1 2 →
    Calls 0 mX9_fail [.inr 1, .inl 1, .inl (M 1 3)] M (fun r17 M17 =>
    ((M17 1 4 ≠ 0 →
    Q (M17 1 4) M17) ∧ (M17 1 4 = 0 →
    Q a M17)))))) : Calls 1 mX9_endText [.inr 1, .inl a] M Q := Calls.of (by decide) (Nat.le_of_ble_eq_true rfl) (s_X9_endText_0  a M h)
set_option maxRecDepth 20000 in
theorem s_X12_isDigit_0 {Q : Int → Me → Prop}  (M : Me) (h :
    Calls 0 mX12_here [.inr 76] M (fun r1 M1 =>
    ((r1 < 48 →
    Q 0 M1) ∧ (48 ≤ r1 →
    Calls 0 mX12_here [.inr 76] M1 (fun r10 M10 =>
    ((57 < r10 →
    Q 0 M10) ∧ (r10 ≤ 57 →
    Q 1 M10))))))) :
    Go (km 1 mX12_isDigit Q) 0 [some (.inr 76)] [] M := by
  refine a_aload_n (pc := 0) dX12_isDigit_0 rfl ?_
  refine a_callVi (pc := 1) (d := 0) (st := []) (o := 76) [] dX12_isDigit_1 l_X12_181 in_X12_here se_X12_here rfl rfl rfl ⟨Nat.le_of_ble_eq_true rfl, Nat.le_of_ble_eq_true rfl⟩ ⟨Nat.le_of_ble_eq_true rfl, Nat.le_of_ble_eq_true rfl⟩ (Nat.le_of_ble_eq_true rfl) ?_
  refine Calls.mono (fun r1 M1 hr1 hM1 h => ?_) h
  refine a_bipush (pc := 4) dX12_isDigit_4 (by decide) (cnb rfl) ?_
  refine a_icmp_lt (pc := 6) 22 dX12_isDigit_6 rfl ⟨fun hc => ?_, fun hc => ?_⟩
  · replace h := h.1 hc
    refine a_iconst (pc := 22) dX12_isDigit_22 (cnb rfl) ?_
    exact a_iretZ (pc := 23) dX12_isDigit_23 rfl (by decide) h
  · replace h := h.2 hc
    refine a_aload_n (pc := 9) dX12_isDigit_9 rfl ?_
    refine a_callVi (pc := 10) (d := 0) (st := []) (o := 76) [] dX12_isDigit_10 l_X12_181 in_X12_here se_X12_here rfl rfl rfl ⟨Nat.le_of_ble_eq_true rfl, Nat.le_of_ble_eq_true rfl⟩ ⟨Nat.le_of_ble_eq_true rfl, Nat.le_of_ble_eq_true rfl⟩ (Nat.le_of_ble_eq_true rfl) ?_
    refine Calls.mono (fun r10 M10 hr10 hM10 h => ?_) h
    refine a_bipush (pc := 13) dX12_isDigit_13 (by decide) (cnb rfl) ?_
    refine a_icmp_gt (pc := 15) 22 dX12_isDigit_15 rfl ⟨fun hc => ?_, fun hc => ?_⟩
    · replace h := h.1 hc
      refine a_iconst (pc := 22) dX12_isDigit_22 (cnb rfl) ?_
      exact a_iretZ (pc := 23) dX12_isDigit_23 rfl (by decide) h
    · replace h := h.2 hc
      refine a_iconst (pc := 18) dX12_isDigit_18 (cnb rfl) ?_
      refine a_goto (pc := 19) 23 dX12_isDigit_19 rfl ?_
      exact a_iretZ (pc := 23) dX12_isDigit_23 rfl (by decide) h
set_option maxRecDepth 20000 in
theorem e_X12_isDigit {Q : Int → Me → Prop}  {M : Me} (h :
    Calls 0 mX12_here [.inr 76] M (fun r1 M1 =>
    ((r1 < 48 →
    Q 0 M1) ∧ (48 ≤ r1 →
    Calls 0 mX12_here [.inr 76] M1 (fun r10 M10 =>
    ((57 < r10 →
    Q 0 M10) ∧ (r10 ≤ 57 →
    Q 1 M10))))))) : Calls 1 mX12_isDigit [.inr 76] M Q := Calls.of (by decide) (Nat.le_of_ble_eq_true rfl) (s_X12_isDigit_0   M h)
set_option maxRecDepth 20000 in
theorem s_X12_wrongAt_0 {Q : Int → Me → Prop}  (a b : Int) (M : Me) (h :
    cn ((-1000) * a) ∧
    cn (((-1000) * a) - b) ∧
    Q 0 (mput M 76 16 (((-1000) * a) - b))) :
    Go (km 0 mX12_wrongAt Q) 0 [some (.inr 76), some (.inl a), some (.inl b)] [] M := by
  refine a_aload_n (pc := 0) dX12_wrongAt_0 rfl ?_
  refine a_sipush (pc := 1) dX12_wrongAt_1 (by decide) (cnb rfl) ?_
  refine a_iload_n (pc := 4) dX12_wrongAt_4 rfl ?_
  refine a_imul (pc := 5) dX12_wrongAt_5 h.1 ?_
  replace h := h.2
  refine a_iload_n (pc := 6) dX12_wrongAt_6 rfl ?_
  refine a_isub (pc := 7) dX12_wrongAt_7 h.1 ?_
  replace h := h.2
  refine a_puti (pc := 8) 16 dX12_wrongAt_8 f_X12_185 rfl rfl (Or.inl rfl) ?_
  refine a_iconst (pc := 11) dX12_wrongAt_11 (cnb rfl) ?_
  exact a_iretZ (pc := 12) dX12_wrongAt_12 rfl (by decide) h
set_option maxRecDepth 20000 in
theorem e_X12_wrongAt {Q : Int → Me → Prop}  {a b : Int} {M : Me} (h :
    cn ((-1000) * a) ∧
    cn (((-1000) * a) - b) ∧
    Q 0 (mput M 76 16 (((-1000) * a) - b))) : Calls 0 mX12_wrongAt [.inr 76, .inl a, .inl b] M Q := Calls.of (by decide) (Nat.le_of_ble_eq_true rfl) (s_X12_wrongAt_0  a b M h)
set_option maxRecDepth 20000 in
theorem s_X12_takes_0 {Q : Int → Me → Prop}  (a : Int) (M : Me) (h :
    Calls 0 mX12_here [.inr 76] M (fun r1 M1 =>
    ((r1 = a →
    cn ((M1 76 14) + 1) ∧
    Q 1 (mput M1 76 14 ((M1 76 14) + 1))) ∧ (r1 ≠ a →
    Calls 0 mX12_wrongAt [.inr 76, .inl 1, .inl (M1 76 14)] M1 (fun r14 M14 =>
    (r14 = 0 ∨ r14 = 1) ∧
    Q r14 M14))))) :
    Go (km 1 mX12_takes Q) 0 [some (.inr 76), some (.inl a)] [] M := by
  refine a_aload_n (pc := 0) dX12_takes_0 rfl ?_
  refine a_callVi (pc := 1) (d := 0) (st := []) (o := 76) [] dX12_takes_1 l_X12_181 in_X12_here se_X12_here rfl rfl rfl ⟨Nat.le_of_ble_eq_true rfl, Nat.le_of_ble_eq_true rfl⟩ ⟨Nat.le_of_ble_eq_true rfl, Nat.le_of_ble_eq_true rfl⟩ (Nat.le_of_ble_eq_true rfl) ?_
  refine Calls.mono (fun r1 M1 hr1 hM1 h => ?_) h
  refine a_iload_n (pc := 4) dX12_takes_4 rfl ?_
  refine a_icmp_eq (pc := 5) 18 dX12_takes_5 rfl ⟨fun hc => ?_, fun hc => ?_⟩
  · replace h := h.1 hc
    refine a_aload_n (pc := 18) dX12_takes_18 rfl ?_
    refine a_aload_n (pc := 19) dX12_takes_19 rfl ?_
    refine a_geti (pc := 20) 14 dX12_takes_20 f_X12_175 rfl rfl ?_
    refine a_iconst (pc := 23) dX12_takes_23 (cnb rfl) ?_
    refine a_iadd (pc := 24) dX12_takes_24 h.1 ?_
    replace h := h.2
    refine a_puti (pc := 25) 14 dX12_takes_25 f_X12_175 rfl rfl (Or.inl rfl) ?_
    refine a_iconst (pc := 28) dX12_takes_28 (cnb rfl) ?_
    exact a_iretZ (pc := 29) dX12_takes_29 rfl (by decide) h
  · replace h := h.2 hc
    refine a_aload_n (pc := 8) dX12_takes_8 rfl ?_
    refine a_iconst (pc := 9) dX12_takes_9 (cnb rfl) ?_
    refine a_aload_n (pc := 10) dX12_takes_10 rfl ?_
    refine a_geti (pc := 11) 14 dX12_takes_11 f_X12_175 rfl rfl ?_
    refine a_callVi (pc := 14) (d := 0) (st := []) (o := 76) [.inl 1, .inl (M1 76 14)] dX12_takes_14 l_X12_188 in_X12_wrongAt se_X12_wrongAt rfl rfl rfl ⟨Nat.le_of_ble_eq_true rfl, Nat.le_of_ble_eq_true rfl⟩ ⟨Nat.le_of_ble_eq_true rfl, Nat.le_of_ble_eq_true rfl⟩ (Nat.le_of_ble_eq_true rfl) ?_
    refine Calls.mono (fun r14 M14 hr14 hM14 h => ?_) h
    exact a_iretZ (pc := 17) dX12_takes_17 rfl h.1 h.2
set_option maxRecDepth 20000 in
theorem e_X12_takes {Q : Int → Me → Prop}  {a : Int} {M : Me} (h :
    Calls 0 mX12_here [.inr 76] M (fun r1 M1 =>
    ((r1 = a →
    cn ((M1 76 14) + 1) ∧
    Q 1 (mput M1 76 14 ((M1 76 14) + 1))) ∧ (r1 ≠ a →
    Calls 0 mX12_wrongAt [.inr 76, .inl 1, .inl (M1 76 14)] M1 (fun r14 M14 =>
    (r14 = 0 ∨ r14 = 1) ∧
    Q r14 M14))))) : Calls 1 mX12_takes [.inr 76, .inl a] M Q := Calls.of (by decide) (Nat.le_of_ble_eq_true rfl) (s_X12_takes_0  a M h)
set_option maxRecDepth 20000 in
theorem s_X12_isLetter_0 {Q : Int → Me → Prop}  (M : Me) (h :
    Calls 0 mX12_here [.inr 76] M (fun r1 M1 =>
    cn (r1 - 65) ∧
    ((0 ≤ r1 - 65 ∧ r1 - 65 ≤ 15 →
    Q 1 M1) ∧ (¬ (0 ≤ r1 - 65 ∧ r1 - 65 ≤ 15) →
    Q 0 M1)))) :
    Go (km 1 mX12_isLetter Q) 0 [some (.inr 76)] [] M := by
  refine a_aload_n (pc := 0) dX12_isLetter_0 rfl ?_
  refine a_callVi (pc := 1) (d := 0) (st := []) (o := 76) [] dX12_isLetter_1 l_X12_181 in_X12_here se_X12_here rfl rfl rfl ⟨Nat.le_of_ble_eq_true rfl, Nat.le_of_ble_eq_true rfl⟩ ⟨Nat.le_of_ble_eq_true rfl, Nat.le_of_ble_eq_true rfl⟩ (Nat.le_of_ble_eq_true rfl) ?_
  refine Calls.mono (fun r1 M1 hr1 hM1 h => ?_) h
  refine a_bipush (pc := 4) dX12_isLetter_4 (by decide) (cnb rfl) ?_
  refine a_isub (pc := 6) dX12_isLetter_6 h.1 ?_
  replace h := h.2
  refine a_iconst (pc := 7) dX12_isLetter_7 (cnb rfl) ?_
  refine a_bipush (pc := 8) dX12_isLetter_8 (by decide) (cnb rfl) ?_
  refine a_callSi (pc := 10) (d := 0) (st := []) [.inl (r1 - 65), .inl 0, .inl 15] dX12_isLetter_10 l_X12_156 st_X12_in rfl ⟨Nat.le_of_ble_eq_true rfl, Nat.le_of_ble_eq_true rfl⟩ ⟨Nat.le_of_ble_eq_true rfl, Nat.le_of_ble_eq_true rfl⟩ (Nat.le_of_ble_eq_true rfl) ?_
  refine p_X12_in ⟨fun hc => ?_, fun hc => ?_⟩
  · replace h := h.1 hc
    exact a_iretZ (pc := 13) dX12_isLetter_13 rfl (by decide) h
  · replace h := h.2 hc
    exact a_iretZ (pc := 13) dX12_isLetter_13 rfl (by decide) h
set_option maxRecDepth 20000 in
theorem e_X12_isLetter {Q : Int → Me → Prop}  {M : Me} (h :
    Calls 0 mX12_here [.inr 76] M (fun r1 M1 =>
    cn (r1 - 65) ∧
    ((0 ≤ r1 - 65 ∧ r1 - 65 ≤ 15 →
    Q 1 M1) ∧ (¬ (0 ≤ r1 - 65 ∧ r1 - 65 ≤ 15) →
    Q 0 M1)))) : Calls 1 mX12_isLetter [.inr 76] M Q := Calls.of (by decide) (Nat.le_of_ble_eq_true rfl) (s_X12_isLetter_0   M h)
set_option maxRecDepth 20000 in
theorem s_X12_passes_0 {Q : Int → Me → Prop}  (a : Int) (M : Me) (h :
    Calls 0 mX12_here [.inr 76] M (fun r1 M1 =>
    ((r1 = a →
    cn ((M1 76 14) + 1) ∧
    Q 1 (mput M1 76 14 ((M1 76 14) + 1))) ∧ (r1 ≠ a →
    Q 0 M1)))) :
    Go (km 1 mX12_passes Q) 0 [some (.inr 76), some (.inl a)] [] M := by
  refine a_aload_n (pc := 0) dX12_passes_0 rfl ?_
  refine a_callVi (pc := 1) (d := 0) (st := []) (o := 76) [] dX12_passes_1 l_X12_181 in_X12_here se_X12_here rfl rfl rfl ⟨Nat.le_of_ble_eq_true rfl, Nat.le_of_ble_eq_true rfl⟩ ⟨Nat.le_of_ble_eq_true rfl, Nat.le_of_ble_eq_true rfl⟩ (Nat.le_of_ble_eq_true rfl) ?_
  refine Calls.mono (fun r1 M1 hr1 hM1 h => ?_) h
  refine a_iload_n (pc := 4) dX12_passes_4 rfl ?_
  refine a_icmp_eq (pc := 5) 10 dX12_passes_5 rfl ⟨fun hc => ?_, fun hc => ?_⟩
  · replace h := h.1 hc
    refine a_aload_n (pc := 10) dX12_passes_10 rfl ?_
    refine a_aload_n (pc := 11) dX12_passes_11 rfl ?_
    refine a_geti (pc := 12) 14 dX12_passes_12 f_X12_175 rfl rfl ?_
    refine a_iconst (pc := 15) dX12_passes_15 (cnb rfl) ?_
    refine a_iadd (pc := 16) dX12_passes_16 h.1 ?_
    replace h := h.2
    refine a_puti (pc := 17) 14 dX12_passes_17 f_X12_175 rfl rfl (Or.inl rfl) ?_
    refine a_iconst (pc := 20) dX12_passes_20 (cnb rfl) ?_
    exact a_iretI (pc := 21) dX12_passes_21 rfl h
  · replace h := h.2 hc
    refine a_iconst (pc := 8) dX12_passes_8 (cnb rfl) ?_
    exact a_iretI (pc := 9) dX12_passes_9 rfl h
set_option maxRecDepth 20000 in
theorem e_X12_passes {Q : Int → Me → Prop}  {a : Int} {M : Me} (h :
    Calls 0 mX12_here [.inr 76] M (fun r1 M1 =>
    ((r1 = a →
    cn ((M1 76 14) + 1) ∧
    Q 1 (mput M1 76 14 ((M1 76 14) + 1))) ∧ (r1 ≠ a →
    Q 0 M1)))) : Calls 1 mX12_passes [.inr 76, .inl a] M Q := Calls.of (by decide) (Nat.le_of_ble_eq_true rfl) (s_X12_passes_0  a M h)
set_option maxRecDepth 20000 in
theorem s_X12_beginsText_0 {Q : Int → Me → Prop}  (a : Int) (M : Me) (h :
    Q 0 (mput (mput (mput (mput M 76 14 0) 76 15 a) 76 19 0) 76 21 0)) :
    Go (km 0 mX12_beginsText Q) 0 [some (.inr 76), some (.inl a)] [] M := by
  refine a_aload_n (pc := 0) dX12_beginsText_0 rfl ?_
  refine a_iconst (pc := 1) dX12_beginsText_1 (cnb rfl) ?_
  refine a_puti (pc := 2) 14 dX12_beginsText_2 f_X12_175 rfl rfl (Or.inl rfl) ?_
  refine a_aload_n (pc := 5) dX12_beginsText_5 rfl ?_
  refine a_iload_n (pc := 6) dX12_beginsText_6 rfl ?_
  refine a_puti (pc := 7) 15 dX12_beginsText_7 f_X12_178 rfl rfl (Or.inl rfl) ?_
  refine a_aload_n (pc := 10) dX12_beginsText_10 rfl ?_
  refine a_iconst (pc := 11) dX12_beginsText_11 (cnb rfl) ?_
  refine a_puti (pc := 12) 19 dX12_beginsText_12 f_X12_199 rfl rfl (Or.inl rfl) ?_
  refine a_aload_n (pc := 15) dX12_beginsText_15 rfl ?_
  refine a_iconst (pc := 16) dX12_beginsText_16 (cnb rfl) ?_
  refine a_puti (pc := 17) 21 dX12_beginsText_17 f_X12_253 rfl rfl (Or.inl rfl) ?_
  exact a_ret (pc := 20) dX12_beginsText_20 rfl h
set_option maxRecDepth 20000 in
theorem e_X12_beginsText {Q : Int → Me → Prop}  {a : Int} {M : Me} (h :
    Q 0 (mput (mput (mput (mput M 76 14 0) 76 15 a) 76 19 0) 76 21 0)) : Calls 0 mX12_beginsText [.inr 76, .inl a] M Q := Calls.of (by decide) (Nat.le_of_ble_eq_true rfl) (s_X12_beginsText_0  a M h)
