set_option maxRecDepth 20000 in
theorem s_X11_nearTo_0 {Q : Int → Me → Prop}  (a b : Int) (M : Me) (h :
    Go (km 2 mX11_nearTo Q) 5 [some (.inr 0), some (.inl a), some (.inl b), some (.inl 0), some (.inl 0)] [] M) :
    Go (km 2 mX11_nearTo Q) 0 [some (.inr 0), some (.inl a), some (.inl b), none, none] [] M := by
  refine a_iconst (pc := 0) dX11_nearTo_0 (cnb rfl) ?_
  refine a_istore_n (pc := 1) dX11_nearTo_1 (Nat.le_of_ble_eq_true rfl) ?_
  refine a_iconst (pc := 2) dX11_nearTo_2 (cnb rfl) ?_
  refine a_istore (pc := 3) dX11_nearTo_3 (Nat.le_of_ble_eq_true rfl) ?_
  exact h
set_option maxRecDepth 20000 in
theorem e_X11_nearTo {Q : Int → Me → Prop}  {a b : Int} {M : Me} (h :
    Go (km 2 mX11_nearTo Q) 5 [some (.inr 0), some (.inl a), some (.inl b), some (.inl 0), some (.inl 0)] [] M) : Calls 2 mX11_nearTo [.inr 0, .inl a, .inl b] M Q := Calls.of (by decide) (Nat.le_of_ble_eq_true rfl) (s_X11_nearTo_0  a b M h)
set_option maxRecDepth 20000 in
theorem s_X11_nearTo_5 {Q : Int → Me → Prop}  (x1 x2 x3 x4 : Int) (M : Me) (h :
    ((M 3 8 ≤ x4 →
    Q x3 M) ∧ (x4 < M 3 8 →
    (0 ≤ x1 ∧ x1 < 16) ∧
    (0 ≤ x4 ∧ x4 < 16) ∧
    0 ≤ M 39 x1 ∧
    0 ≤ M 39 x4 ∧
    ((x2 < dst (M 39 x1) (M 39 x4) →
    cn (x4 + 1) ∧
    Go (km 2 mX11_nearTo Q) 5 [some (.inr 0), some (.inl x1), some (.inl x2), some (.inl x3), some (.inl (x4 + 1))] [] M) ∧ (dst (M 39 x1) (M 39 x4) ≤ x2 →
    cn (x4 + 1) ∧
    Go (km 2 mX11_nearTo Q) 5 [some (.inr 0), some (.inl x1), some (.inl x2), some (.inl (bor x3 (bshl 1 x4))), some (.inl (x4 + 1))] [] M))))) :
    Go (km 2 mX11_nearTo Q) 5 [some (.inr 0), some (.inl x1), some (.inl x2), some (.inl x3), some (.inl x4)] [] M := by
  refine a_iload (pc := 5) dX11_nearTo_5 rfl ?_
  refine a_aload_n (pc := 7) dX11_nearTo_7 rfl ?_
  refine a_getr (pc := 8) dX11_nearTo_8 f_X11_19 rfl ?_
  refine a_geti (pc := 11) 8 dX11_nearTo_11 f_X11_155 rfl rfl ?_
  refine a_icmp_ge (pc := 14) 56 dX11_nearTo_14 rfl ⟨fun hc => ?_, fun hc => ?_⟩
  · replace h := h.1 hc
    refine a_iload_n (pc := 56) dX11_nearTo_56 rfl ?_
    exact a_iretI (pc := 57) dX11_nearTo_57 rfl h
  · replace h := h.2 hc
    refine a_aload_n (pc := 17) dX11_nearTo_17 rfl ?_
    refine a_getr (pc := 18) dX11_nearTo_18 f_X11_49 rfl ?_
    refine a_getr (pc := 21) dX11_nearTo_21 f_X11_163 rfl ?_
    refine a_iload_n (pc := 24) dX11_nearTo_24 rfl ?_
    refine a_iald (pc := 25) dX11_nearTo_25 rfl h.1.1 h.1.2  ?_
    replace h := h.2
    refine a_aload_n (pc := 26) dX11_nearTo_26 rfl ?_
    refine a_getr (pc := 27) dX11_nearTo_27 f_X11_49 rfl ?_
    refine a_getr (pc := 30) dX11_nearTo_30 f_X11_163 rfl ?_
    refine a_iload (pc := 33) dX11_nearTo_33 rfl ?_
    refine a_iald (pc := 35) dX11_nearTo_35 rfl h.1.1 h.1.2  ?_
    replace h := h.2
    refine a_callSi (pc := 36) (d := 1) (st := []) [.inl (M 39 x1), .inl (M 39 x4)] dX11_nearTo_36 l_X11_210 st_X11_steps rfl ⟨Nat.le_of_ble_eq_true rfl, Nat.le_of_ble_eq_true rfl⟩ ⟨Nat.le_of_ble_eq_true rfl, Nat.le_of_ble_eq_true rfl⟩ (Nat.le_of_ble_eq_true rfl) ?_
    have hp36_3 := h.1
    replace h := h.2
    have hp36_4 := h.1
    replace h := h.2
    refine p_X11_steps hp36_3 hp36_4 ?_
    refine a_iload_n (pc := 39) dX11_nearTo_39 rfl ?_
    refine a_icmp_gt (pc := 40) 50 dX11_nearTo_40 rfl ⟨fun hc => ?_, fun hc => ?_⟩
    · replace h := h.1 hc
      refine a_iinc (pc := 50) dX11_nearTo_50 rfl h.1 (Nat.le_of_ble_eq_true rfl) ?_
      replace h := h.2
      refine a_goto (pc := 53) 5 dX11_nearTo_53 rfl ?_
      exact h
    · replace h := h.2 hc
      refine a_iload_n (pc := 43) dX11_nearTo_43 rfl ?_
      refine a_iconst (pc := 44) dX11_nearTo_44 (cnb rfl) ?_
      refine a_iload (pc := 45) dX11_nearTo_45 rfl ?_
      refine a_ishl (pc := 47) dX11_nearTo_47 ?_
      refine a_ior (pc := 48) dX11_nearTo_48 ?_
      refine a_istore_n (pc := 49) dX11_nearTo_49 (Nat.le_of_ble_eq_true rfl) ?_
      refine a_iinc (pc := 50) dX11_nearTo_50 rfl h.1 (Nat.le_of_ble_eq_true rfl) ?_
      replace h := h.2
      refine a_goto (pc := 53) 5 dX11_nearTo_53 rfl ?_
      exact h
set_option maxRecDepth 20000 in
theorem s_X11_groupOf_0 {Q : Int → Me → Prop}  (a b : Int) (M : Me) (h :
    Go (km 3 mX11_groupOf Q) 10 [some (.inr 0), none, some (.inl b), some (.inl (bshl 1 a)), some (.inl 0), some (.inl 0), none] [] M) :
    Go (km 3 mX11_groupOf Q) 0 [some (.inr 0), some (.inl a), some (.inl b), none, none, none, none] [] M := by
  refine a_iconst (pc := 0) dX11_groupOf_0 (cnb rfl) ?_
  refine a_iload_n (pc := 1) dX11_groupOf_1 rfl ?_
  refine a_ishl (pc := 2) dX11_groupOf_2 ?_
  refine a_istore_n (pc := 3) dX11_groupOf_3 (Nat.le_of_ble_eq_true rfl) ?_
  refine a_iconst (pc := 4) dX11_groupOf_4 (cnb rfl) ?_
  refine a_istore (pc := 5) dX11_groupOf_5 (Nat.le_of_ble_eq_true rfl) ?_
  refine a_iconst (pc := 7) dX11_groupOf_7 (cnb rfl) ?_
  refine a_istore (pc := 8) dX11_groupOf_8 (Nat.le_of_ble_eq_true rfl) ?_
  exact Go.weak h (And.intro rfl (And.intro rfl (And.intro rfl (And.intro rfl (And.intro rfl True.intro)))))
set_option maxRecDepth 20000 in
theorem e_X11_groupOf {Q : Int → Me → Prop}  {a b : Int} {M : Me} (h :
    Go (km 3 mX11_groupOf Q) 10 [some (.inr 0), none, some (.inl b), some (.inl (bshl 1 a)), some (.inl 0), some (.inl 0), none] [] M) : Calls 3 mX11_groupOf [.inr 0, .inl a, .inl b] M Q := Calls.of (by decide) (Nat.le_of_ble_eq_true rfl) (s_X11_groupOf_0  a b M h)
set_option maxRecDepth 20000 in
theorem s_X11_groupOf_10 {Q : Int → Me → Prop}  (x2 x3 x4 x5 : Int) (M : Me) (h :
    ((M 3 8 ≤ x5 →
    Q x3 M) ∧ (x5 < M 3 8 →
    ((x4 = x3 →
    Q x3 M) ∧ (x4 ≠ x3 →
    Calls 0 mJ6_numberOfTrailingZeros_0f7a4 [.inl (band x3 (bxor x4 (-1)))] M (fun r34 M34 =>
    Calls 2 mX11_nearTo [.inr 0, .inl r34, .inl x2] M34 (fun r53 M53 =>
    cn (x5 + 1) ∧
    Go (km 3 mX11_groupOf Q) 10 [some (.inr 0), none, some (.inl x2), some (.inl (bor x3 r53)), some (.inl (bor x4 (bshl 1 r34))), some (.inl (x5 + 1)), none] [] M53))))))) :
    Go (km 3 mX11_groupOf Q) 10 [some (.inr 0), none, some (.inl x2), some (.inl x3), some (.inl x4), some (.inl x5), none] [] M := by
  refine a_iload (pc := 10) dX11_groupOf_10 rfl ?_
  refine a_aload_n (pc := 12) dX11_groupOf_12 rfl ?_
  refine a_getr (pc := 13) dX11_groupOf_13 f_X11_19 rfl ?_
  refine a_geti (pc := 16) 8 dX11_groupOf_16 f_X11_155 rfl rfl ?_
  refine a_icmp_ge (pc := 19) 64 dX11_groupOf_19 rfl ⟨fun hc => ?_, fun hc => ?_⟩
  · replace h := h.1 hc
    refine a_iload_n (pc := 64) dX11_groupOf_64 rfl ?_
    exact a_iretI (pc := 65) dX11_groupOf_65 rfl h
  · replace h := h.2 hc
    refine a_iload (pc := 22) dX11_groupOf_22 rfl ?_
    refine a_iload_n (pc := 24) dX11_groupOf_24 rfl ?_
    refine a_icmp_eq (pc := 25) 64 dX11_groupOf_25 rfl ⟨fun hc => ?_, fun hc => ?_⟩
    · replace h := h.1 hc
      refine a_iload_n (pc := 64) dX11_groupOf_64 rfl ?_
      exact a_iretI (pc := 65) dX11_groupOf_65 rfl h
    · replace h := h.2 hc
      refine a_iload_n (pc := 28) dX11_groupOf_28 rfl ?_
      refine a_iload (pc := 29) dX11_groupOf_29 rfl ?_
      refine a_iconst (pc := 31) dX11_groupOf_31 (cnb rfl) ?_
      refine a_ixor (pc := 32) dX11_groupOf_32 ?_
      refine a_iand (pc := 33) dX11_groupOf_33 ?_
      refine a_callSi (pc := 34) (d := 0) (st := []) [.inl (band x3 (bxor x4 (-1)))] dX11_groupOf_34 l_X11_307 st_J6_numberOfTrailingZeros_0f7a4 rfl ⟨Nat.le_of_ble_eq_true rfl, Nat.le_of_ble_eq_true rfl⟩ ⟨Nat.le_of_ble_eq_true rfl, Nat.le_of_ble_eq_true rfl⟩ (Nat.le_of_ble_eq_true rfl) ?_
      refine Calls.mono (fun r34 M34 hr34 hM34 h => ?_) h
      refine a_istore (pc := 37) dX11_groupOf_37 (Nat.le_of_ble_eq_true rfl) ?_
      refine a_iload (pc := 39) dX11_groupOf_39 rfl ?_
      refine a_iconst (pc := 41) dX11_groupOf_41 (cnb rfl) ?_
      refine a_iload (pc := 42) dX11_groupOf_42 rfl ?_
      refine a_ishl (pc := 44) dX11_groupOf_44 ?_
      refine a_ior (pc := 45) dX11_groupOf_45 ?_
      refine a_istore (pc := 46) dX11_groupOf_46 (Nat.le_of_ble_eq_true rfl) ?_
      refine a_iload_n (pc := 48) dX11_groupOf_48 rfl ?_
      refine a_aload_n (pc := 49) dX11_groupOf_49 rfl ?_
      refine a_iload (pc := 50) dX11_groupOf_50 rfl ?_
      refine a_iload_n (pc := 52) dX11_groupOf_52 rfl ?_
      refine a_callVi (pc := 53) (d := 2) (st := [.inl x3]) (o := 0) [.inl r34, .inl x2] dX11_groupOf_53 l_X11_310 in_X11_nearTo se_X11_nearTo rfl rfl rfl ⟨Nat.le_of_ble_eq_true rfl, Nat.le_of_ble_eq_true rfl⟩ ⟨Nat.le_of_ble_eq_true rfl, Nat.le_of_ble_eq_true rfl⟩ (Nat.le_of_ble_eq_true rfl) ?_
      refine Calls.mono (fun r53 M53 hr53 hM53 h => ?_) h
      refine a_ior (pc := 56) dX11_groupOf_56 ?_
      refine a_istore_n (pc := 57) dX11_groupOf_57 (Nat.le_of_ble_eq_true rfl) ?_
      refine a_iinc (pc := 58) dX11_groupOf_58 rfl h.1 (Nat.le_of_ble_eq_true rfl) ?_
      replace h := h.2
      refine a_goto (pc := 61) 10 dX11_groupOf_61 rfl ?_
      exact Go.weak h (And.intro rfl (And.intro rfl (And.intro rfl (And.intro rfl (And.intro rfl True.intro)))))
set_option maxRecDepth 20000 in
theorem s_X11_groups_0 {Q : Int → Me → Prop}  (a b : Int) (M : Me) (h :
    ((a < 0 →
    Q (-1) M) ∧ (0 ≤ a →
    ((38 < a →
    Q (-1) M) ∧ (a ≤ 38 →
    ((b = 100 →
    ((b = 100 →
    Go (km 4 mX11_groups Q) 47 [some (.inr 0), some (.inl a), none, some (.inl 0), some (.inl 0), some (.inl 0)] [] M) ∧ (b ≠ 100 →
    Calls 3 mX11_groupOf [.inr 0, .inl b, .inl a] M (fun r35 M35 =>
    Q r35 M35)))) ∧ (b ≠ 100 →
    ((0 ≤ b ∧ b < M 3 8 →
    ((b = 100 →
    Go (km 4 mX11_groups Q) 47 [some (.inr 0), some (.inl a), none, some (.inl 0), some (.inl 0), some (.inl 0)] [] M) ∧ (b ≠ 100 →
    Calls 3 mX11_groupOf [.inr 0, .inl b, .inl a] M (fun r35 M35 =>
    Q r35 M35)))) ∧ (¬ (0 ≤ b ∧ b < M 3 8) →
    Q (-1) M))))))))) :
    Go (km 4 mX11_groups Q) 0 [some (.inr 0), some (.inl a), some (.inl b), none, none, none] [] M := by
  refine a_iload_n (pc := 0) dX11_groups_0 rfl ?_
  refine a_if_lt (pc := 1) 24 dX11_groups_1 rfl ⟨fun hc => ?_, fun hc => ?_⟩
  · replace h := h.1 hc
    refine a_iconst (pc := 24) dX11_groups_24 (cnb rfl) ?_
    exact a_iretI (pc := 25) dX11_groups_25 rfl h
  · replace h := h.2 hc
    refine a_iload_n (pc := 4) dX11_groups_4 rfl ?_
    refine a_bipush (pc := 5) dX11_groups_5 (by decide) (cnb rfl) ?_
    refine a_icmp_gt (pc := 7) 24 dX11_groups_7 rfl ⟨fun hc => ?_, fun hc => ?_⟩
    · replace h := h.1 hc
      refine a_iconst (pc := 24) dX11_groups_24 (cnb rfl) ?_
      exact a_iretI (pc := 25) dX11_groups_25 rfl h
    · replace h := h.2 hc
      refine a_iload_n (pc := 10) dX11_groups_10 rfl ?_
      refine a_bipush (pc := 11) dX11_groups_11 (by decide) (cnb rfl) ?_
      refine a_icmp_eq (pc := 13) 26 dX11_groups_13 rfl ⟨fun hc => ?_, fun hc => ?_⟩
      · replace h := h.1 hc
        refine a_iload_n (pc := 26) dX11_groups_26 rfl ?_
        refine a_bipush (pc := 27) dX11_groups_27 (by decide) (cnb rfl) ?_
        refine a_icmp_eq (pc := 29) 39 dX11_groups_29 rfl ⟨fun hc => ?_, fun hc => ?_⟩
        · replace h := h.1 hc
          refine a_iconst (pc := 39) dX11_groups_39 (cnb rfl) ?_
          refine a_istore_n (pc := 40) dX11_groups_40 (Nat.le_of_ble_eq_true rfl) ?_
          refine a_iconst (pc := 41) dX11_groups_41 (cnb rfl) ?_
          refine a_istore (pc := 42) dX11_groups_42 (Nat.le_of_ble_eq_true rfl) ?_
          refine a_iconst (pc := 44) dX11_groups_44 (cnb rfl) ?_
          refine a_istore (pc := 45) dX11_groups_45 (Nat.le_of_ble_eq_true rfl) ?_
          exact Go.weak h (And.intro rfl (And.intro rfl (And.intro rfl (And.intro rfl (And.intro rfl True.intro)))))
        · replace h := h.2 hc
          refine a_aload_n (pc := 32) dX11_groups_32 rfl ?_
          refine a_iload_n (pc := 33) dX11_groups_33 rfl ?_
          refine a_iload_n (pc := 34) dX11_groups_34 rfl ?_
          refine a_callVi (pc := 35) (d := 3) (st := []) (o := 0) [.inl b, .inl a] dX11_groups_35 l_X11_234 in_X11_groupOf se_X11_groupOf rfl rfl rfl ⟨Nat.le_of_ble_eq_true rfl, Nat.le_of_ble_eq_true rfl⟩ ⟨Nat.le_of_ble_eq_true rfl, Nat.le_of_ble_eq_true rfl⟩ (Nat.le_of_ble_eq_true rfl) ?_
          refine Calls.mono (fun r35 M35 hr35 hM35 h => ?_) h
          exact a_iretI (pc := 38) dX11_groups_38 rfl h
      · replace h := h.2 hc
        refine a_aload_n (pc := 16) dX11_groups_16 rfl ?_
        refine a_iload_n (pc := 17) dX11_groups_17 rfl ?_
        refine a_callVi (pc := 18) (d := 0) (st := []) (o := 0) [.inl b] dX11_groups_18 l_X11_104 in_X11_isCut se_X11_isCut rfl rfl rfl ⟨Nat.le_of_ble_eq_true rfl, Nat.le_of_ble_eq_true rfl⟩ ⟨Nat.le_of_ble_eq_true rfl, Nat.le_of_ble_eq_true rfl⟩ (Nat.le_of_ble_eq_true rfl) ?_
        refine p_X11_isCut ⟨fun hc => ?_, fun hc => ?_⟩
        · replace h := h.1 hc
          refine a_if_ne (pc := 21) 26 dX11_groups_21 rfl ⟨fun _ => ?_, fun hc => absurd hc (by decide)⟩
          refine a_iload_n (pc := 26) dX11_groups_26 rfl ?_
          refine a_bipush (pc := 27) dX11_groups_27 (by decide) (cnb rfl) ?_
          refine a_icmp_eq (pc := 29) 39 dX11_groups_29 rfl ⟨fun hc => ?_, fun hc => ?_⟩
          · replace h := h.1 hc
            refine a_iconst (pc := 39) dX11_groups_39 (cnb rfl) ?_
            refine a_istore_n (pc := 40) dX11_groups_40 (Nat.le_of_ble_eq_true rfl) ?_
            refine a_iconst (pc := 41) dX11_groups_41 (cnb rfl) ?_
            refine a_istore (pc := 42) dX11_groups_42 (Nat.le_of_ble_eq_true rfl) ?_
            refine a_iconst (pc := 44) dX11_groups_44 (cnb rfl) ?_
            refine a_istore (pc := 45) dX11_groups_45 (Nat.le_of_ble_eq_true rfl) ?_
            exact Go.weak h (And.intro rfl (And.intro rfl (And.intro rfl (And.intro rfl (And.intro rfl True.intro)))))
          · replace h := h.2 hc
            refine a_aload_n (pc := 32) dX11_groups_32 rfl ?_
            refine a_iload_n (pc := 33) dX11_groups_33 rfl ?_
            refine a_iload_n (pc := 34) dX11_groups_34 rfl ?_
            refine a_callVi (pc := 35) (d := 3) (st := []) (o := 0) [.inl b, .inl a] dX11_groups_35 l_X11_234 in_X11_groupOf se_X11_groupOf rfl rfl rfl ⟨Nat.le_of_ble_eq_true rfl, Nat.le_of_ble_eq_true rfl⟩ ⟨Nat.le_of_ble_eq_true rfl, Nat.le_of_ble_eq_true rfl⟩ (Nat.le_of_ble_eq_true rfl) ?_
            refine Calls.mono (fun r35 M35 hr35 hM35 h => ?_) h
            exact a_iretI (pc := 38) dX11_groups_38 rfl h
        · replace h := h.2 hc
          refine a_if_ne (pc := 21) 26 dX11_groups_21 rfl ⟨fun hc => absurd hc (by decide), fun _ => ?_⟩
          refine a_iconst (pc := 24) dX11_groups_24 (cnb rfl) ?_
          exact a_iretI (pc := 25) dX11_groups_25 rfl h
set_option maxRecDepth 20000 in
theorem e_X11_groups {Q : Int → Me → Prop}  {a b : Int} {M : Me} (h :
    ((a < 0 →
    Q (-1) M) ∧ (0 ≤ a →
    ((38 < a →
    Q (-1) M) ∧ (a ≤ 38 →
    ((b = 100 →
    ((b = 100 →
    Go (km 4 mX11_groups Q) 47 [some (.inr 0), some (.inl a), none, some (.inl 0), some (.inl 0), some (.inl 0)] [] M) ∧ (b ≠ 100 →
    Calls 3 mX11_groupOf [.inr 0, .inl b, .inl a] M (fun r35 M35 =>
    Q r35 M35)))) ∧ (b ≠ 100 →
    ((0 ≤ b ∧ b < M 3 8 →
    ((b = 100 →
    Go (km 4 mX11_groups Q) 47 [some (.inr 0), some (.inl a), none, some (.inl 0), some (.inl 0), some (.inl 0)] [] M) ∧ (b ≠ 100 →
    Calls 3 mX11_groupOf [.inr 0, .inl b, .inl a] M (fun r35 M35 =>
    Q r35 M35)))) ∧ (¬ (0 ≤ b ∧ b < M 3 8) →
    Q (-1) M))))))))) : Calls 4 mX11_groups [.inr 0, .inl a, .inl b] M Q := Calls.of (by decide) (Nat.le_of_ble_eq_true rfl) (s_X11_groups_0  a b M h)
set_option maxRecDepth 20000 in
theorem s_X11_groups_47 {Q : Int → Me → Prop}  (x1 x3 x4 x5 : Int) (M : Me) (h :
    ((M 3 8 ≤ x5 →
    Q x3 M) ∧ (x5 < M 3 8 →
    ((band (bshr x4 x5) 1 ≠ 0 →
    cn (x5 + 1) ∧
    Go (km 4 mX11_groups Q) 47 [some (.inr 0), some (.inl x1), none, some (.inl x3), some (.inl x4), some (.inl (x5 + 1))] [] M) ∧ (band (bshr x4 x5) 1 = 0 →
    cn (x3 + 1) ∧
    Calls 3 mX11_groupOf [.inr 0, .inl x5, .inl x1] M (fun r78 M78 =>
    cn (x5 + 1) ∧
    Go (km 4 mX11_groups Q) 47 [some (.inr 0), some (.inl x1), none, some (.inl (x3 + 1)), some (.inl (bor x4 r78)), some (.inl (x5 + 1))] [] M78)))))) :
    Go (km 4 mX11_groups Q) 47 [some (.inr 0), some (.inl x1), none, some (.inl x3), some (.inl x4), some (.inl x5)] [] M := by
  refine a_iload (pc := 47) dX11_groups_47 rfl ?_
  refine a_aload_n (pc := 49) dX11_groups_49 rfl ?_
  refine a_getr (pc := 50) dX11_groups_50 f_X11_19 rfl ?_
  refine a_geti (pc := 53) 8 dX11_groups_53 f_X11_155 rfl rfl ?_
  refine a_icmp_ge (pc := 56) 90 dX11_groups_56 rfl ⟨fun hc => ?_, fun hc => ?_⟩
  · replace h := h.1 hc
    refine a_iload_n (pc := 90) dX11_groups_90 rfl ?_
    exact a_iretI (pc := 91) dX11_groups_91 rfl h
  · replace h := h.2 hc
    refine a_iload (pc := 59) dX11_groups_59 rfl ?_
    refine a_iload (pc := 61) dX11_groups_61 rfl ?_
    refine a_ishr (pc := 63) dX11_groups_63 ?_
    refine a_iconst (pc := 64) dX11_groups_64 (cnb rfl) ?_
    refine a_iand (pc := 65) dX11_groups_65 ?_
    refine a_if_ne (pc := 66) 84 dX11_groups_66 rfl ⟨fun hc => ?_, fun hc => ?_⟩
    · replace h := h.1 hc
      refine a_iinc (pc := 84) dX11_groups_84 rfl h.1 (Nat.le_of_ble_eq_true rfl) ?_
      replace h := h.2
      refine a_goto (pc := 87) 47 dX11_groups_87 rfl ?_
      exact h
    · replace h := h.2 hc
      refine a_iinc (pc := 69) dX11_groups_69 rfl h.1 (Nat.le_of_ble_eq_true rfl) ?_
      replace h := h.2
      refine a_iload (pc := 72) dX11_groups_72 rfl ?_
      refine a_aload_n (pc := 74) dX11_groups_74 rfl ?_
      refine a_iload (pc := 75) dX11_groups_75 rfl ?_
      refine a_iload_n (pc := 77) dX11_groups_77 rfl ?_
      refine a_callVi (pc := 78) (d := 3) (st := [.inl x4]) (o := 0) [.inl x5, .inl x1] dX11_groups_78 l_X11_234 in_X11_groupOf se_X11_groupOf rfl rfl rfl ⟨Nat.le_of_ble_eq_true rfl, Nat.le_of_ble_eq_true rfl⟩ ⟨Nat.le_of_ble_eq_true rfl, Nat.le_of_ble_eq_true rfl⟩ (Nat.le_of_ble_eq_true rfl) ?_
      refine Calls.mono (fun r78 M78 hr78 hM78 h => ?_) h
      refine a_ior (pc := 81) dX11_groups_81 ?_
      refine a_istore (pc := 82) dX11_groups_82 (Nat.le_of_ble_eq_true rfl) ?_
      refine a_iinc (pc := 84) dX11_groups_84 rfl h.1 (Nat.le_of_ble_eq_true rfl) ?_
      replace h := h.2
      refine a_goto (pc := 87) 47 dX11_groups_87 rfl ?_
      exact h
set_option maxRecDepth 20000 in
theorem s_X12_groupOf_0 {Q : Int → Me → Prop}  (a b : Int) (M : Me) (h :
    Go (km 2 mX12_groupOf Q) 7 [some (.inr 76), none, some (.inl b), some (.inl (bshl 1 a)), some (.inl 0), none, none] [] M) :
    Go (km 2 mX12_groupOf Q) 0 [some (.inr 76), some (.inl a), some (.inl b), none, none, none, none] [] M := by
  refine a_iconst (pc := 0) dX12_groupOf_0 (cnb rfl) ?_
  refine a_iload_n (pc := 1) dX12_groupOf_1 rfl ?_
  refine a_ishl (pc := 2) dX12_groupOf_2 ?_
  refine a_istore_n (pc := 3) dX12_groupOf_3 (Nat.le_of_ble_eq_true rfl) ?_
  refine a_iconst (pc := 4) dX12_groupOf_4 (cnb rfl) ?_
  refine a_istore (pc := 5) dX12_groupOf_5 (Nat.le_of_ble_eq_true rfl) ?_
  exact Go.weak h (And.intro rfl (And.intro rfl (And.intro rfl (And.intro rfl True.intro))))
set_option maxRecDepth 20000 in
theorem e_X12_groupOf {Q : Int → Me → Prop}  {a b : Int} {M : Me} (h :
    Go (km 2 mX12_groupOf Q) 7 [some (.inr 76), none, some (.inl b), some (.inl (bshl 1 a)), some (.inl 0), none, none] [] M) : Calls 2 mX12_groupOf [.inr 76, .inl a, .inl b] M Q := Calls.of (by decide) (Nat.le_of_ble_eq_true rfl) (s_X12_groupOf_0  a b M h)
set_option maxRecDepth 20000 in
theorem s_X12_groupOf_7 {Q : Int → Me → Prop}  (x2 x3 x4 : Int) (M : Me) (h :
    ((x3 = x4 →
    Q x3 M) ∧ (x3 ≠ x4 →
    Go (km 2 mX12_groupOf Q) 19 [some (.inr 76), none, some (.inl x2), some (.inl x3), some (.inl x3), some (.inl 0), none] [] M))) :
    Go (km 2 mX12_groupOf Q) 7 [some (.inr 76), none, some (.inl x2), some (.inl x3), some (.inl x4), none, none] [] M := by
  refine a_iload_n (pc := 7) dX12_groupOf_7 rfl ?_
  refine a_iload (pc := 8) dX12_groupOf_8 rfl ?_
  refine a_icmp_eq (pc := 10) 99 dX12_groupOf_10 rfl ⟨fun hc => ?_, fun hc => ?_⟩
  · replace h := h.1 hc
    refine a_iload_n (pc := 99) dX12_groupOf_99 rfl ?_
    exact a_iretI (pc := 100) dX12_groupOf_100 rfl h
  · replace h := h.2 hc
    refine a_iload_n (pc := 13) dX12_groupOf_13 rfl ?_
    refine a_istore (pc := 14) dX12_groupOf_14 (Nat.le_of_ble_eq_true rfl) ?_
    refine a_iconst (pc := 16) dX12_groupOf_16 (cnb rfl) ?_
    refine a_istore (pc := 17) dX12_groupOf_17 (Nat.le_of_ble_eq_true rfl) ?_
    exact h
set_option maxRecDepth 20000 in
theorem s_X12_groupOf_19 {Q : Int → Me → Prop}  (x2 x3 x4 x5 : Int) (M : Me) (h :
    ((M 76 11 ≤ x5 →
    Go (km 2 mX12_groupOf Q) 7 [some (.inr 76), none, some (.inl x2), some (.inl x3), some (.inl x4), none, none] [] M) ∧ (x5 < M 76 11 →
    Go (km 2 mX12_groupOf Q) 31 [some (.inr 76), none, some (.inl x2), some (.inl x3), some (.inl x4), some (.inl x5), some (.inl 0)] [] M))) :
    Go (km 2 mX12_groupOf Q) 19 [some (.inr 76), none, some (.inl x2), some (.inl x3), some (.inl x4), some (.inl x5), none] [] M := by
  refine a_iload (pc := 19) dX12_groupOf_19 rfl ?_
  refine a_aload_n (pc := 21) dX12_groupOf_21 rfl ?_
  refine a_geti (pc := 22) 11 dX12_groupOf_22 f_X12_152 rfl rfl ?_
  refine a_icmp_ge (pc := 25) 96 dX12_groupOf_25 rfl ⟨fun hc => ?_, fun hc => ?_⟩
  · replace h := h.1 hc
    refine a_goto (pc := 96) 7 dX12_groupOf_96 rfl ?_
    exact Go.weak h (And.intro rfl (And.intro rfl (And.intro rfl (And.intro rfl True.intro))))
  · replace h := h.2 hc
    refine a_iconst (pc := 28) dX12_groupOf_28 (cnb rfl) ?_
    refine a_istore (pc := 29) dX12_groupOf_29 (Nat.le_of_ble_eq_true rfl) ?_
    exact h
set_option maxRecDepth 20000 in
theorem s_X12_groupOf_31 {Q : Int → Me → Prop}  (x2 x3 x4 x5 x6 : Int) (M : Me) (h :
    ((M 76 11 ≤ x6 →
    cn (x5 + 1) ∧
    Go (km 2 mX12_groupOf Q) 19 [some (.inr 76), none, some (.inl x2), some (.inl x3), some (.inl x4), some (.inl (x5 + 1)), none] [] M) ∧ (x6 < M 76 11 →
    ((band (bshr x4 x5) 1 = 1 →
    cn (16 + x5) ∧
    (0 ≤ 16 + x5 ∧ 16 + x5 < 82) ∧
    cn (16 + x6) ∧
    (0 ≤ 16 + x6 ∧ 16 + x6 < 82) ∧
    0 ≤ M 77 (16 + x5) ∧
    0 ≤ M 77 (16 + x6) ∧
    ((x2 < dst (M 77 (16 + x5)) (M 77 (16 + x6)) →
    cn (x6 + 1) ∧
    Go (km 2 mX12_groupOf Q) 31 [some (.inr 76), none, some (.inl x2), some (.inl x3), some (.inl x4), some (.inl x5), some (.inl (x6 + 1))] [] M) ∧ (dst (M 77 (16 + x5)) (M 77 (16 + x6)) ≤ x2 →
    cn (x6 + 1) ∧
    Go (km 2 mX12_groupOf Q) 31 [some (.inr 76), none, some (.inl x2), some (.inl (bor x3 (bshl 1 x6))), some (.inl x4), some (.inl x5), some (.inl (x6 + 1))] [] M))) ∧ (¬ (band (bshr x4 x5) 1 = 1) →
    cn (x5 + 1) ∧
    Go (km 2 mX12_groupOf Q) 19 [some (.inr 76), none, some (.inl x2), some (.inl x3), some (.inl x4), some (.inl (x5 + 1)), none] [] M))))) :
    Go (km 2 mX12_groupOf Q) 31 [some (.inr 76), none, some (.inl x2), some (.inl x3), some (.inl x4), some (.inl x5), some (.inl x6)] [] M := by
  refine a_iload (pc := 31) dX12_groupOf_31 rfl ?_
  refine a_aload_n (pc := 33) dX12_groupOf_33 rfl ?_
  refine a_geti (pc := 34) 11 dX12_groupOf_34 f_X12_152 rfl rfl ?_
  refine a_icmp_ge (pc := 37) 90 dX12_groupOf_37 rfl ⟨fun hc => ?_, fun hc => ?_⟩
  · replace h := h.1 hc
    refine a_iinc (pc := 90) dX12_groupOf_90 rfl h.1 (Nat.le_of_ble_eq_true rfl) ?_
    replace h := h.2
    refine a_goto (pc := 93) 19 dX12_groupOf_93 rfl ?_
    exact Go.weak h (And.intro rfl (And.intro rfl (And.intro rfl (And.intro rfl (And.intro rfl True.intro)))))
  · replace h := h.2 hc
    refine a_iload (pc := 40) dX12_groupOf_40 rfl ?_
    refine a_iload (pc := 42) dX12_groupOf_42 rfl ?_
    refine a_callSi (pc := 44) (d := 0) (st := []) [.inl x4, .inl x5] dX12_groupOf_44 l_X12_359 st_X12_has rfl ⟨Nat.le_of_ble_eq_true rfl, Nat.le_of_ble_eq_true rfl⟩ ⟨Nat.le_of_ble_eq_true rfl, Nat.le_of_ble_eq_true rfl⟩ (Nat.le_of_ble_eq_true rfl) ?_
    refine p_X12_has ⟨fun hc => ?_, fun hc => ?_⟩
    · replace h := h.1 hc
      refine a_if_eq (pc := 47) 90 dX12_groupOf_47 rfl ⟨fun hc => absurd hc (by decide), fun _ => ?_⟩
      refine a_aload_n (pc := 50) dX12_groupOf_50 rfl ?_
      refine a_getr (pc := 51) dX12_groupOf_51 f_X12_7 rfl ?_
      refine a_bipush (pc := 54) dX12_groupOf_54 (by decide) (cnb rfl) ?_
      refine a_iload (pc := 56) dX12_groupOf_56 rfl ?_
      refine a_iadd (pc := 58) dX12_groupOf_58 h.1 ?_
      replace h := h.2
      refine a_iald (pc := 59) dX12_groupOf_59 rfl h.1.1 h.1.2  ?_
      replace h := h.2
      refine a_aload_n (pc := 60) dX12_groupOf_60 rfl ?_
      refine a_getr (pc := 61) dX12_groupOf_61 f_X12_7 rfl ?_
      refine a_bipush (pc := 64) dX12_groupOf_64 (by decide) (cnb rfl) ?_
      refine a_iload (pc := 66) dX12_groupOf_66 rfl ?_
      refine a_iadd (pc := 68) dX12_groupOf_68 h.1 ?_
      replace h := h.2
      refine a_iald (pc := 69) dX12_groupOf_69 rfl h.1.1 h.1.2  ?_
      replace h := h.2
      refine a_callSi (pc := 70) (d := 1) (st := []) [.inl (M 77 (16 + x5)), .inl (M 77 (16 + x6))] dX12_groupOf_70 l_X12_303 st_X12_stepsBetween rfl ⟨Nat.le_of_ble_eq_true rfl, Nat.le_of_ble_eq_true rfl⟩ ⟨Nat.le_of_ble_eq_true rfl, Nat.le_of_ble_eq_true rfl⟩ (Nat.le_of_ble_eq_true rfl) ?_
      have hp70_5 := h.1
      replace h := h.2
      have hp70_6 := h.1
      replace h := h.2
      refine p_X12_stepsBetween hp70_5 hp70_6 ?_
      refine a_iload_n (pc := 73) dX12_groupOf_73 rfl ?_
      refine a_icmp_gt (pc := 74) 84 dX12_groupOf_74 rfl ⟨fun hc => ?_, fun hc => ?_⟩
      · replace h := h.1 hc
        refine a_iinc (pc := 84) dX12_groupOf_84 rfl h.1 (Nat.le_of_ble_eq_true rfl) ?_
        replace h := h.2
        refine a_goto (pc := 87) 31 dX12_groupOf_87 rfl ?_
        exact h
      · replace h := h.2 hc
        refine a_iload_n (pc := 77) dX12_groupOf_77 rfl ?_
        refine a_iconst (pc := 78) dX12_groupOf_78 (cnb rfl) ?_
        refine a_iload (pc := 79) dX12_groupOf_79 rfl ?_
        refine a_ishl (pc := 81) dX12_groupOf_81 ?_
        refine a_ior (pc := 82) dX12_groupOf_82 ?_
        refine a_istore_n (pc := 83) dX12_groupOf_83 (Nat.le_of_ble_eq_true rfl) ?_
        refine a_iinc (pc := 84) dX12_groupOf_84 rfl h.1 (Nat.le_of_ble_eq_true rfl) ?_
        replace h := h.2
        refine a_goto (pc := 87) 31 dX12_groupOf_87 rfl ?_
        exact h
    · replace h := h.2 hc
      refine a_if_eq (pc := 47) 90 dX12_groupOf_47 rfl ⟨fun _ => ?_, fun hc => absurd hc (by decide)⟩
      refine a_iinc (pc := 90) dX12_groupOf_90 rfl h.1 (Nat.le_of_ble_eq_true rfl) ?_
      replace h := h.2
      refine a_goto (pc := 93) 19 dX12_groupOf_93 rfl ?_
      exact Go.weak h (And.intro rfl (And.intro rfl (And.intro rfl (And.intro rfl (And.intro rfl True.intro)))))
set_option maxRecDepth 20000 in
theorem s_X12_groups_0 {Q : Int → Me → Prop}  (a b : Int) (M : Me) (h :
    ((0 ≤ a ∧ a ≤ 38 →
    ((b = 100 →
    ((b = 100 →
    Go (km 3 mX12_groups Q) 47 [some (.inr 76), some (.inl a), none, some (.inl 0), some (.inl 0), some (.inl 0)] [] M) ∧ (b ≠ 100 →
    Calls 2 mX12_groupOf [.inr 76, .inl b, .inl a] M (fun r35 M35 =>
    Q r35 M35)))) ∧ (b ≠ 100 →
    0 ≤ M 76 11 ∧
    ((0 ≤ b ∧ b < M 76 11 →
    ((b = 100 →
    Go (km 3 mX12_groups Q) 47 [some (.inr 76), some (.inl a), none, some (.inl 0), some (.inl 0), some (.inl 0)] [] M) ∧ (b ≠ 100 →
    Calls 2 mX12_groupOf [.inr 76, .inl b, .inl a] M (fun r35 M35 =>
    Q r35 M35)))) ∧ (¬ (0 ≤ b ∧ b < M 76 11) →
    Q (-1) M))))) ∧ (¬ (0 ≤ a ∧ a ≤ 38) →
    Q (-1) M))) :
    Go (km 3 mX12_groups Q) 0 [some (.inr 76), some (.inl a), some (.inl b), none, none, none] [] M := by
  refine a_iload_n (pc := 0) dX12_groups_0 rfl ?_
  refine a_iconst (pc := 1) dX12_groups_1 (cnb rfl) ?_
  refine a_bipush (pc := 2) dX12_groups_2 (by decide) (cnb rfl) ?_
  refine a_callSi (pc := 4) (d := 0) (st := []) [.inl a, .inl 0, .inl 38] dX12_groups_4 l_X12_156 st_X12_in rfl ⟨Nat.le_of_ble_eq_true rfl, Nat.le_of_ble_eq_true rfl⟩ ⟨Nat.le_of_ble_eq_true rfl, Nat.le_of_ble_eq_true rfl⟩ (Nat.le_of_ble_eq_true rfl) ?_
  refine p_X12_in ⟨fun hc => ?_, fun hc => ?_⟩
  · replace h := h.1 hc
    refine a_if_eq (pc := 7) 24 dX12_groups_7 rfl ⟨fun hc => absurd hc (by decide), fun _ => ?_⟩
    refine a_iload_n (pc := 10) dX12_groups_10 rfl ?_
    refine a_bipush (pc := 11) dX12_groups_11 (by decide) (cnb rfl) ?_
    refine a_icmp_eq (pc := 13) 26 dX12_groups_13 rfl ⟨fun hc => ?_, fun hc => ?_⟩
    · replace h := h.1 hc
      refine a_iload_n (pc := 26) dX12_groups_26 rfl ?_
      refine a_bipush (pc := 27) dX12_groups_27 (by decide) (cnb rfl) ?_
      refine a_icmp_eq (pc := 29) 39 dX12_groups_29 rfl ⟨fun hc => ?_, fun hc => ?_⟩
      · replace h := h.1 hc
        refine a_iconst (pc := 39) dX12_groups_39 (cnb rfl) ?_
        refine a_istore_n (pc := 40) dX12_groups_40 (Nat.le_of_ble_eq_true rfl) ?_
        refine a_iconst (pc := 41) dX12_groups_41 (cnb rfl) ?_
        refine a_istore (pc := 42) dX12_groups_42 (Nat.le_of_ble_eq_true rfl) ?_
        refine a_iconst (pc := 44) dX12_groups_44 (cnb rfl) ?_
        refine a_istore (pc := 45) dX12_groups_45 (Nat.le_of_ble_eq_true rfl) ?_
        exact Go.weak h (And.intro rfl (And.intro rfl (And.intro rfl (And.intro rfl (And.intro rfl True.intro)))))
      · replace h := h.2 hc
        refine a_aload_n (pc := 32) dX12_groups_32 rfl ?_
        refine a_iload_n (pc := 33) dX12_groups_33 rfl ?_
        refine a_iload_n (pc := 34) dX12_groups_34 rfl ?_
        refine a_callVi (pc := 35) (d := 2) (st := []) (o := 76) [.inl b, .inl a] dX12_groups_35 l_X12_362 in_X12_groupOf se_X12_groupOf rfl rfl rfl ⟨Nat.le_of_ble_eq_true rfl, Nat.le_of_ble_eq_true rfl⟩ ⟨Nat.le_of_ble_eq_true rfl, Nat.le_of_ble_eq_true rfl⟩ (Nat.le_of_ble_eq_true rfl) ?_
        refine Calls.mono (fun r35 M35 hr35 hM35 h => ?_) h
        exact a_iretI (pc := 38) dX12_groups_38 rfl h
    · replace h := h.2 hc
      refine a_aload_n (pc := 16) dX12_groups_16 rfl ?_
      refine a_iload_n (pc := 17) dX12_groups_17 rfl ?_
      refine a_callVi (pc := 18) (d := 1) (st := []) (o := 76) [.inl b] dX12_groups_18 l_X12_164 in_X12_isCut se_X12_isCut rfl rfl rfl ⟨Nat.le_of_ble_eq_true rfl, Nat.le_of_ble_eq_true rfl⟩ ⟨Nat.le_of_ble_eq_true rfl, Nat.le_of_ble_eq_true rfl⟩ (Nat.le_of_ble_eq_true rfl) ?_
      have hp18_1 := h.1
      replace h := h.2
      refine p_X12_isCut hp18_1 ⟨fun hc => ?_, fun hc => ?_⟩
      · replace h := h.1 hc
        refine a_if_ne (pc := 21) 26 dX12_groups_21 rfl ⟨fun _ => ?_, fun hc => absurd hc (by decide)⟩
        refine a_iload_n (pc := 26) dX12_groups_26 rfl ?_
        refine a_bipush (pc := 27) dX12_groups_27 (by decide) (cnb rfl) ?_
        refine a_icmp_eq (pc := 29) 39 dX12_groups_29 rfl ⟨fun hc => ?_, fun hc => ?_⟩
        · replace h := h.1 hc
          refine a_iconst (pc := 39) dX12_groups_39 (cnb rfl) ?_
          refine a_istore_n (pc := 40) dX12_groups_40 (Nat.le_of_ble_eq_true rfl) ?_
          refine a_iconst (pc := 41) dX12_groups_41 (cnb rfl) ?_
          refine a_istore (pc := 42) dX12_groups_42 (Nat.le_of_ble_eq_true rfl) ?_
          refine a_iconst (pc := 44) dX12_groups_44 (cnb rfl) ?_
          refine a_istore (pc := 45) dX12_groups_45 (Nat.le_of_ble_eq_true rfl) ?_
          exact Go.weak h (And.intro rfl (And.intro rfl (And.intro rfl (And.intro rfl (And.intro rfl True.intro)))))
        · replace h := h.2 hc
          refine a_aload_n (pc := 32) dX12_groups_32 rfl ?_
          refine a_iload_n (pc := 33) dX12_groups_33 rfl ?_
          refine a_iload_n (pc := 34) dX12_groups_34 rfl ?_
          refine a_callVi (pc := 35) (d := 2) (st := []) (o := 76) [.inl b, .inl a] dX12_groups_35 l_X12_362 in_X12_groupOf se_X12_groupOf rfl rfl rfl ⟨Nat.le_of_ble_eq_true rfl, Nat.le_of_ble_eq_true rfl⟩ ⟨Nat.le_of_ble_eq_true rfl, Nat.le_of_ble_eq_true rfl⟩ (Nat.le_of_ble_eq_true rfl) ?_
          refine Calls.mono (fun r35 M35 hr35 hM35 h => ?_) h
          exact a_iretI (pc := 38) dX12_groups_38 rfl h
      · replace h := h.2 hc
        refine a_if_ne (pc := 21) 26 dX12_groups_21 rfl ⟨fun hc => absurd hc (by decide), fun _ => ?_⟩
        refine a_iconst (pc := 24) dX12_groups_24 (cnb rfl) ?_
        exact a_iretI (pc := 25) dX12_groups_25 rfl h
  · replace h := h.2 hc
    refine a_if_eq (pc := 7) 24 dX12_groups_7 rfl ⟨fun _ => ?_, fun hc => absurd hc (by decide)⟩
    refine a_iconst (pc := 24) dX12_groups_24 (cnb rfl) ?_
    exact a_iretI (pc := 25) dX12_groups_25 rfl h
set_option maxRecDepth 20000 in
theorem e_X12_groups {Q : Int → Me → Prop}  {a b : Int} {M : Me} (h :
    ((0 ≤ a ∧ a ≤ 38 →
    ((b = 100 →
    ((b = 100 →
    Go (km 3 mX12_groups Q) 47 [some (.inr 76), some (.inl a), none, some (.inl 0), some (.inl 0), some (.inl 0)] [] M) ∧ (b ≠ 100 →
    Calls 2 mX12_groupOf [.inr 76, .inl b, .inl a] M (fun r35 M35 =>
    Q r35 M35)))) ∧ (b ≠ 100 →
    0 ≤ M 76 11 ∧
    ((0 ≤ b ∧ b < M 76 11 →
    ((b = 100 →
    Go (km 3 mX12_groups Q) 47 [some (.inr 76), some (.inl a), none, some (.inl 0), some (.inl 0), some (.inl 0)] [] M) ∧ (b ≠ 100 →
    Calls 2 mX12_groupOf [.inr 76, .inl b, .inl a] M (fun r35 M35 =>
    Q r35 M35)))) ∧ (¬ (0 ≤ b ∧ b < M 76 11) →
    Q (-1) M))))) ∧ (¬ (0 ≤ a ∧ a ≤ 38) →
    Q (-1) M))) : Calls 3 mX12_groups [.inr 76, .inl a, .inl b] M Q := Calls.of (by decide) (Nat.le_of_ble_eq_true rfl) (s_X12_groups_0  a b M h)
set_option maxRecDepth 20000 in
theorem s_X12_groups_47 {Q : Int → Me → Prop}  (x1 x3 x4 x5 : Int) (M : Me) (h :
    ((M 76 11 ≤ x5 →
    Q x3 M) ∧ (x5 < M 76 11 →
    ((band (bshr x4 x5) 1 = 1 →
    cn (x5 + 1) ∧
    Go (km 3 mX12_groups Q) 47 [some (.inr 76), some (.inl x1), none, some (.inl x3), some (.inl x4), some (.inl (x5 + 1))] [] M) ∧ (¬ (band (bshr x4 x5) 1 = 1) →
    Calls 2 mX12_groupOf [.inr 76, .inl x5, .inl x1] M (fun r75 M75 =>
    cn (x3 + 1) ∧
    cn (x5 + 1) ∧
    Go (km 3 mX12_groups Q) 47 [some (.inr 76), some (.inl x1), none, some (.inl (x3 + 1)), some (.inl (bor x4 r75)), some (.inl (x5 + 1))] [] M75)))))) :
    Go (km 3 mX12_groups Q) 47 [some (.inr 76), some (.inl x1), none, some (.inl x3), some (.inl x4), some (.inl x5)] [] M := by
  refine a_iload (pc := 47) dX12_groups_47 rfl ?_
  refine a_aload_n (pc := 49) dX12_groups_49 rfl ?_
  refine a_geti (pc := 50) 11 dX12_groups_50 f_X12_152 rfl rfl ?_
  refine a_icmp_ge (pc := 53) 91 dX12_groups_53 rfl ⟨fun hc => ?_, fun hc => ?_⟩
  · replace h := h.1 hc
    refine a_iload_n (pc := 91) dX12_groups_91 rfl ?_
    exact a_iretI (pc := 92) dX12_groups_92 rfl h
  · replace h := h.2 hc
    refine a_iload (pc := 56) dX12_groups_56 rfl ?_
    refine a_iload (pc := 58) dX12_groups_58 rfl ?_
    refine a_callSi (pc := 60) (d := 0) (st := []) [.inl x4, .inl x5] dX12_groups_60 l_X12_359 st_X12_has rfl ⟨Nat.le_of_ble_eq_true rfl, Nat.le_of_ble_eq_true rfl⟩ ⟨Nat.le_of_ble_eq_true rfl, Nat.le_of_ble_eq_true rfl⟩ (Nat.le_of_ble_eq_true rfl) ?_
    refine p_X12_has ⟨fun hc => ?_, fun hc => ?_⟩
    · replace h := h.1 hc
      refine a_if_eq (pc := 63) 69 dX12_groups_63 rfl ⟨fun hc => absurd hc (by decide), fun _ => ?_⟩
      refine a_goto (pc := 66) 85 dX12_groups_66 rfl ?_
      refine a_iinc (pc := 85) dX12_groups_85 rfl h.1 (Nat.le_of_ble_eq_true rfl) ?_
      replace h := h.2
      refine a_goto (pc := 88) 47 dX12_groups_88 rfl ?_
      exact h
    · replace h := h.2 hc
      refine a_if_eq (pc := 63) 69 dX12_groups_63 rfl ⟨fun _ => ?_, fun hc => absurd hc (by decide)⟩
      refine a_iload (pc := 69) dX12_groups_69 rfl ?_
      refine a_aload_n (pc := 71) dX12_groups_71 rfl ?_
      refine a_iload (pc := 72) dX12_groups_72 rfl ?_
      refine a_iload_n (pc := 74) dX12_groups_74 rfl ?_
      refine a_callVi (pc := 75) (d := 2) (st := [.inl x4]) (o := 76) [.inl x5, .inl x1] dX12_groups_75 l_X12_362 in_X12_groupOf se_X12_groupOf rfl rfl rfl ⟨Nat.le_of_ble_eq_true rfl, Nat.le_of_ble_eq_true rfl⟩ ⟨Nat.le_of_ble_eq_true rfl, Nat.le_of_ble_eq_true rfl⟩ (Nat.le_of_ble_eq_true rfl) ?_
      refine Calls.mono (fun r75 M75 hr75 hM75 h => ?_) h
      refine a_ior (pc := 78) dX12_groups_78 ?_
      refine a_istore (pc := 79) dX12_groups_79 (Nat.le_of_ble_eq_true rfl) ?_
      refine a_iload_n (pc := 81) dX12_groups_81 rfl ?_
      refine a_iconst (pc := 82) dX12_groups_82 (cnb rfl) ?_
      refine a_iadd (pc := 83) dX12_groups_83 h.1 ?_
      replace h := h.2
      refine a_istore_n (pc := 84) dX12_groups_84 (Nat.le_of_ble_eq_true rfl) ?_
      refine a_iinc (pc := 85) dX12_groups_85 rfl h.1 (Nat.le_of_ble_eq_true rfl) ?_
      replace h := h.2
      refine a_goto (pc := 88) 47 dX12_groups_88 rfl ?_
      exact h
