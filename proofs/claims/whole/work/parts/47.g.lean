set_option maxRecDepth 20000 in
theorem s_X8_copyOf_0 {Q : Int → Me → Prop} {o : Nat} (ho : isX8 o) {p : Nat} (hp : isX8 p) (a : Int) (M : Me) (h :
    (0 ≤ max 0 (min a 16) ∧ max 0 (min a 16) ≤ 16 ∧ max 0 (min a 16) ≤ 16) ∧
    (0 ≤ max 0 (min a 16) ∧ max 0 (min a 16) ≤ 16 ∧ max 0 (min a 16) ≤ 16) ∧
    (0 ≤ max 0 (min a 16) ∧ max 0 (min a 16) ≤ 16 ∧ max 0 (min a 16) ≤ 16) ∧
    (0 ≤ max 0 (min a 16) ∧ max 0 (min a 16) ≤ 16 ∧ max 0 (min a 16) ≤ 16) ∧
    (0 ≤ max 0 (min a 16) ∧ max 0 (min a 16) ≤ 16 ∧ max 0 (min a 16) ≤ 16) ∧
    Q 0 (mput (mput (mcopy (mcopy (mcopy (mcopy (mcopy M (p + 1) (o + 1) (max 0 (min a 16))) (p + 2) (o + 2) (max 0 (min a 16))) (p + 3) (o + 3) (max 0 (min a 16))) (p + 4) (o + 4) (max 0 (min a 16))) (p + 5) (o + 5) (max 0 (min a 16))) o 5 (M p 5)) o 6 ((mput (mcopy (mcopy (mcopy (mcopy (mcopy M (p + 1) (o + 1) (max 0 (min a 16))) (p + 2) (o + 2) (max 0 (min a 16))) (p + 3) (o + 3) (max 0 (min a 16))) (p + 4) (o + 4) (max 0 (min a 16))) (p + 5) (o + 5) (max 0 (min a 16))) o 5 (M p 5)) p 6))) :
    Go (km 1 mX8_copyOf Q) 0 [some (.inr o), some (.inr p), some (.inl a), none] [] M := by
  obtain ⟨ss_o, hs_o⟩ := ob_X8 ho
  obtain ⟨ss_p, hs_p⟩ := ob_X8 hp
  refine a_iconst (pc := 0) dX8_copyOf_0 (cnb rfl) ?_
  refine a_iload_n (pc := 1) dX8_copyOf_1 rfl ?_
  refine a_bipush (pc := 2) dX8_copyOf_2 (by decide) (cnb rfl) ?_
  refine a_mmin (pc := 4) dX8_copyOf_4 ml_X8_42 mt_st_min mt_ini mt_cd_min ⟨Nat.le_of_ble_eq_true rfl, Nat.le_of_ble_eq_true rfl⟩ ⟨Nat.le_of_ble_eq_true rfl, Nat.le_of_ble_eq_true rfl⟩ (Nat.le_of_ble_eq_true rfl) ?_
  refine a_mmax (pc := 7) dX8_copyOf_7 ml_X8_48 mt_st_max mt_ini mt_cd_max ⟨Nat.le_of_ble_eq_true rfl, Nat.le_of_ble_eq_true rfl⟩ ⟨Nat.le_of_ble_eq_true rfl, Nat.le_of_ble_eq_true rfl⟩ (Nat.le_of_ble_eq_true rfl) ?_
  refine a_istore_n (pc := 10) dX8_copyOf_10 (Nat.le_of_ble_eq_true rfl) ?_
  refine a_aload_n (pc := 11) dX8_copyOf_11 rfl ?_
  refine a_getr (pc := 12) dX8_copyOf_12 f_X8_9 (fr_X8_0 hp) ?_
  refine a_iconst (pc := 15) dX8_copyOf_15 (cnb rfl) ?_
  refine a_aload_n (pc := 16) dX8_copyOf_16 rfl ?_
  refine a_getr (pc := 17) dX8_copyOf_17 f_X8_9 (fr_X8_0 ho) ?_
  refine a_iconst (pc := 20) dX8_copyOf_20 (cnb rfl) ?_
  refine a_iload_n (pc := 21) dX8_copyOf_21 rfl ?_
  refine a_acopy (pc := 22) dX8_copyOf_22 ml_X8_51 ac_nat ac_st ac_ini (ar_X8_0 hp) (ar_X8_0 ho) h.1.1 h.1.2.1 h.1.2.2 ⟨Nat.le_of_ble_eq_true rfl, Nat.le_of_ble_eq_true rfl⟩ (Nat.le_of_ble_eq_true rfl) ?_
  replace h := h.2
  refine a_aload_n (pc := 25) dX8_copyOf_25 rfl ?_
  refine a_getr (pc := 26) dX8_copyOf_26 f_X8_15 (fr_X8_1 hp) ?_
  refine a_iconst (pc := 29) dX8_copyOf_29 (cnb rfl) ?_
  refine a_aload_n (pc := 30) dX8_copyOf_30 rfl ?_
  refine a_getr (pc := 31) dX8_copyOf_31 f_X8_15 (fr_X8_1 ho) ?_
  refine a_iconst (pc := 34) dX8_copyOf_34 (cnb rfl) ?_
  refine a_iload_n (pc := 35) dX8_copyOf_35 rfl ?_
  refine a_acopy (pc := 36) dX8_copyOf_36 ml_X8_51 ac_nat ac_st ac_ini (ar_X8_1 hp) (ar_X8_1 ho) h.1.1 h.1.2.1 h.1.2.2 ⟨Nat.le_of_ble_eq_true rfl, Nat.le_of_ble_eq_true rfl⟩ (Nat.le_of_ble_eq_true rfl) ?_
  replace h := h.2
  refine a_aload_n (pc := 39) dX8_copyOf_39 rfl ?_
  refine a_getr (pc := 40) dX8_copyOf_40 f_X8_18 (fr_X8_2 hp) ?_
  refine a_iconst (pc := 43) dX8_copyOf_43 (cnb rfl) ?_
  refine a_aload_n (pc := 44) dX8_copyOf_44 rfl ?_
  refine a_getr (pc := 45) dX8_copyOf_45 f_X8_18 (fr_X8_2 ho) ?_
  refine a_iconst (pc := 48) dX8_copyOf_48 (cnb rfl) ?_
  refine a_iload_n (pc := 49) dX8_copyOf_49 rfl ?_
  refine a_acopy (pc := 50) dX8_copyOf_50 ml_X8_51 ac_nat ac_st ac_ini (ar_X8_2 hp) (ar_X8_2 ho) h.1.1 h.1.2.1 h.1.2.2 ⟨Nat.le_of_ble_eq_true rfl, Nat.le_of_ble_eq_true rfl⟩ (Nat.le_of_ble_eq_true rfl) ?_
  replace h := h.2
  refine a_aload_n (pc := 53) dX8_copyOf_53 rfl ?_
  refine a_getr (pc := 54) dX8_copyOf_54 f_X8_21 (fr_X8_3 hp) ?_
  refine a_iconst (pc := 57) dX8_copyOf_57 (cnb rfl) ?_
  refine a_aload_n (pc := 58) dX8_copyOf_58 rfl ?_
  refine a_getr (pc := 59) dX8_copyOf_59 f_X8_21 (fr_X8_3 ho) ?_
  refine a_iconst (pc := 62) dX8_copyOf_62 (cnb rfl) ?_
  refine a_iload_n (pc := 63) dX8_copyOf_63 rfl ?_
  refine a_acopy (pc := 64) dX8_copyOf_64 ml_X8_51 ac_nat ac_st ac_ini (ar_X8_3 hp) (ar_X8_3 ho) h.1.1 h.1.2.1 h.1.2.2 ⟨Nat.le_of_ble_eq_true rfl, Nat.le_of_ble_eq_true rfl⟩ (Nat.le_of_ble_eq_true rfl) ?_
  replace h := h.2
  refine a_aload_n (pc := 67) dX8_copyOf_67 rfl ?_
  refine a_getr (pc := 68) dX8_copyOf_68 f_X8_24 (fr_X8_4 hp) ?_
  refine a_iconst (pc := 71) dX8_copyOf_71 (cnb rfl) ?_
  refine a_aload_n (pc := 72) dX8_copyOf_72 rfl ?_
  refine a_getr (pc := 73) dX8_copyOf_73 f_X8_24 (fr_X8_4 ho) ?_
  refine a_iconst (pc := 76) dX8_copyOf_76 (cnb rfl) ?_
  refine a_iload_n (pc := 77) dX8_copyOf_77 rfl ?_
  refine a_acopy (pc := 78) dX8_copyOf_78 ml_X8_51 ac_nat ac_st ac_ini (ar_X8_4 hp) (ar_X8_4 ho) h.1.1 h.1.2.1 h.1.2.2 ⟨Nat.le_of_ble_eq_true rfl, Nat.le_of_ble_eq_true rfl⟩ (Nat.le_of_ble_eq_true rfl) ?_
  replace h := h.2
  refine a_aload_n (pc := 81) dX8_copyOf_81 rfl ?_
  refine a_aload_n (pc := 82) dX8_copyOf_82 rfl ?_
  refine a_getiE (pc := 83) (M p 5) 5 dX8_copyOf_83 f_X8_27 (fi_X8_5 hp) rfl ((mcopy_ne _ _ _ (by have := hp; unfold isX8 at this; have := ho; unfold isX8 at this; omega)).trans ((mcopy_ne _ _ _ (by have := hp; unfold isX8 at this; have := ho; unfold isX8 at this; omega)).trans ((mcopy_ne _ _ _ (by have := hp; unfold isX8 at this; have := ho; unfold isX8 at this; omega)).trans ((mcopy_ne _ _ _ (by have := hp; unfold isX8 at this; have := ho; unfold isX8 at this; omega)).trans (mcopy_ne _ _ _ (by have := hp; unfold isX8 at this; have := ho; unfold isX8 at this; omega)))))) ?_
  refine a_puti (pc := 86) 5 dX8_copyOf_86 f_X8_27 (fi_X8_5 ho) rfl (Or.inl rfl) ?_
  refine a_aload_n (pc := 89) dX8_copyOf_89 rfl ?_
  refine a_aload_n (pc := 90) dX8_copyOf_90 rfl ?_
  refine a_geti (pc := 91) 6 dX8_copyOf_91 f_X8_31 (fi_X8_6 hp) rfl ?_
  refine a_puti (pc := 94) 6 dX8_copyOf_94 f_X8_31 (fi_X8_6 ho) rfl (Or.inl rfl) ?_
  exact a_ret (pc := 97) dX8_copyOf_97 rfl h
set_option maxRecDepth 20000 in
theorem e_X8_copyOf {Q : Int → Me → Prop} {o : Nat} (ho : isX8 o) {p : Nat} (hp : isX8 p) {a : Int} {M : Me} (h :
    (0 ≤ max 0 (min a 16) ∧ max 0 (min a 16) ≤ 16 ∧ max 0 (min a 16) ≤ 16) ∧
    (0 ≤ max 0 (min a 16) ∧ max 0 (min a 16) ≤ 16 ∧ max 0 (min a 16) ≤ 16) ∧
    (0 ≤ max 0 (min a 16) ∧ max 0 (min a 16) ≤ 16 ∧ max 0 (min a 16) ≤ 16) ∧
    (0 ≤ max 0 (min a 16) ∧ max 0 (min a 16) ≤ 16 ∧ max 0 (min a 16) ≤ 16) ∧
    (0 ≤ max 0 (min a 16) ∧ max 0 (min a 16) ≤ 16 ∧ max 0 (min a 16) ≤ 16) ∧
    Q 0 (mput (mput (mcopy (mcopy (mcopy (mcopy (mcopy M (p + 1) (o + 1) (max 0 (min a 16))) (p + 2) (o + 2) (max 0 (min a 16))) (p + 3) (o + 3) (max 0 (min a 16))) (p + 4) (o + 4) (max 0 (min a 16))) (p + 5) (o + 5) (max 0 (min a 16))) o 5 (M p 5)) o 6 ((mput (mcopy (mcopy (mcopy (mcopy (mcopy M (p + 1) (o + 1) (max 0 (min a 16))) (p + 2) (o + 2) (max 0 (min a 16))) (p + 3) (o + 3) (max 0 (min a 16))) (p + 4) (o + 4) (max 0 (min a 16))) (p + 5) (o + 5) (max 0 (min a 16))) o 5 (M p 5)) p 6))) : Calls 1 mX8_copyOf [.inr o, .inr p, .inl a] M Q := Calls.of (by decide) (Nat.le_of_ble_eq_true rfl) (s_X8_copyOf_0 ho hp a M h)
set_option maxRecDepth 20000 in
theorem s_X12_copies_0 {Q : Int → Me → Prop} {a b : Nat} (ha : lay[a]? = some (.inl (false, 82))) (hb : lay[b]? = some (.inl (false, 82))) (M : Me) (h :
    Go (km 0 mX12_copies Q) 2 [some (.inr a), some (.inr b), some (.inl 0)] [] M) :
    Go (km 0 mX12_copies Q) 0 [some (.inr a), some (.inr b), none] [] M := by
  refine a_iconst (pc := 0) dX12_copies_0 (cnb rfl) ?_
  refine a_istore_n (pc := 1) dX12_copies_1 (Nat.le_of_ble_eq_true rfl) ?_
  exact h
set_option maxRecDepth 20000 in
theorem e_X12_copies {Q : Int → Me → Prop} {a b : Nat} (ha : lay[a]? = some (.inl (false, 82))) (hb : lay[b]? = some (.inl (false, 82))) {M : Me} (h :
    Go (km 0 mX12_copies Q) 2 [some (.inr a), some (.inr b), some (.inl 0)] [] M) : Calls 0 mX12_copies [.inr a, .inr b] M Q := Calls.of (by decide) (Nat.le_of_ble_eq_true rfl) (s_X12_copies_0 ha hb  M h)
set_option maxRecDepth 20000 in
theorem s_X12_copies_2 {Q : Int → Me → Prop} {a b : Nat} (ha : lay[a]? = some (.inl (false, 82))) (hb : lay[b]? = some (.inl (false, 82))) (x2 : Int) (M : Me) (h :
    ((82 ≤ x2 →
    Q 0 M) ∧ (x2 < 82 →
    (0 ≤ x2 ∧ x2 < 82) ∧
    (0 ≤ x2 ∧ x2 < 82) ∧
    cn (x2 + 1) ∧
    Go (km 0 mX12_copies Q) 2 [some (.inr a), some (.inr b), some (.inl (x2 + 1))] [] (mput M b x2 (M a x2))))) :
    Go (km 0 mX12_copies Q) 2 [some (.inr a), some (.inr b), some (.inl x2)] [] M := by
  refine a_iload_n (pc := 2) dX12_copies_2 rfl ?_
  refine a_bipush (pc := 3) dX12_copies_3 (by decide) (cnb rfl) ?_
  refine a_icmp_ge (pc := 5) 20 dX12_copies_5 rfl ⟨fun hc => ?_, fun hc => ?_⟩
  · replace h := h.1 hc
    exact a_ret (pc := 20) dX12_copies_20 rfl h
  · replace h := h.2 hc
    refine a_aload_n (pc := 8) dX12_copies_8 rfl ?_
    refine a_iload_n (pc := 9) dX12_copies_9 rfl ?_
    refine a_aload_n (pc := 10) dX12_copies_10 rfl ?_
    refine a_iload_n (pc := 11) dX12_copies_11 rfl ?_
    refine a_iald (pc := 12) dX12_copies_12 ha h.1.1 h.1.2  ?_
    replace h := h.2
    refine a_iast (pc := 13) dX12_copies_13 hb h.1.1 h.1.2 ?_
    replace h := h.2
    refine a_iinc (pc := 14) dX12_copies_14 rfl h.1 (Nat.le_of_ble_eq_true rfl) ?_
    replace h := h.2
    refine a_goto (pc := 17) 2 dX12_copies_17 rfl ?_
    exact h
set_option maxRecDepth 20000 in
theorem s_X11_keep_0 {Q : Int → Me → Prop}  (M : Me) (h :
    Calls 1 mX8_copyOf [.inr 43, .inr 37, .inl (M 3 8)] M (fun r15 M15 =>
    Q (M15 37 5) (mput (mput M15 0 14 (M15 3 8)) 0 13 1))) :
    Go (km 2 mX11_keep Q) 0 [some (.inr 0)] [] M := by
  refine a_aload_n (pc := 0) dX11_keep_0 rfl ?_
  refine a_getr (pc := 1) dX11_keep_1 f_X11_53 rfl ?_
  refine a_aload_n (pc := 4) dX11_keep_4 rfl ?_
  refine a_getr (pc := 5) dX11_keep_5 f_X11_49 rfl ?_
  refine a_aload_n (pc := 8) dX11_keep_8 rfl ?_
  refine a_getr (pc := 9) dX11_keep_9 f_X11_19 rfl ?_
  refine a_geti (pc := 12) 8 dX11_keep_12 f_X11_155 rfl rfl ?_
  refine a_callVv (pc := 15) (d := 1) (st := []) (o := 43) [.inr 37, .inl (M 3 8)] dX11_keep_15 l_X11_156 in_X8_copyOf se_X8_copyOf rfl rfl rfl ⟨Nat.le_of_ble_eq_true rfl, Nat.le_of_ble_eq_true rfl⟩ ⟨Nat.le_of_ble_eq_true rfl, Nat.le_of_ble_eq_true rfl⟩ (Nat.le_of_ble_eq_true rfl) ?_
  refine Calls.mono (fun r15 M15 hr15 hM15 h => ?_) h
  refine a_aload_n (pc := 18) dX11_keep_18 rfl ?_
  refine a_aload_n (pc := 19) dX11_keep_19 rfl ?_
  refine a_getr (pc := 20) dX11_keep_20 f_X11_19 rfl ?_
  refine a_geti (pc := 23) 8 dX11_keep_23 f_X11_155 rfl rfl ?_
  refine a_puti (pc := 26) 14 dX11_keep_26 f_X11_100 rfl rfl (Or.inl rfl) ?_
  refine a_aload_n (pc := 29) dX11_keep_29 rfl ?_
  refine a_iconst (pc := 30) dX11_keep_30 (cnb rfl) ?_
  refine a_puti (pc := 31) 13 dX11_keep_31 f_X11_96 rfl rfl (Or.inr ⟨rfl, by decide⟩) ?_
  refine a_aload_n (pc := 34) dX11_keep_34 rfl ?_
  refine a_getr (pc := 35) dX11_keep_35 f_X11_49 rfl ?_
  refine a_getiE (pc := 38) (M15 37 5) 5 dX11_keep_38 f_X11_213 rfl rfl ((mput_ne _ _ _ _ (by decide)).trans (mput_ne _ _ _ _ (by decide))) ?_
  exact a_iretI (pc := 41) dX11_keep_41 rfl h
set_option maxRecDepth 20000 in
theorem e_X11_keep {Q : Int → Me → Prop}  {M : Me} (h :
    Calls 1 mX8_copyOf [.inr 43, .inr 37, .inl (M 3 8)] M (fun r15 M15 =>
    Q (M15 37 5) (mput (mput M15 0 14 (M15 3 8)) 0 13 1))) : Calls 2 mX11_keep [.inr 0] M Q := Calls.of (by decide) (Nat.le_of_ble_eq_true rfl) (s_X11_keep_0   M h)
set_option maxRecDepth 20000 in
theorem s_X12_keep_0 {Q : Int → Me → Prop}  (M : Me) (h :
    Calls 0 mX12_copies [.inr 77, .inr 79] (mput (mput M 76 64 1) 76 65 (M 76 11)) (fun r21 M21 =>
    Q (M21 77 80) M21)) :
    Go (km 1 mX12_keep Q) 0 [some (.inr 76)] [] M := by
  refine a_aload_n (pc := 0) dX12_keep_0 rfl ?_
  refine a_iconst (pc := 1) dX12_keep_1 (cnb rfl) ?_
  refine a_puti (pc := 2) 64 dX12_keep_2 f_X12_440 rfl rfl (Or.inr ⟨rfl, by decide⟩) ?_
  refine a_aload_n (pc := 5) dX12_keep_5 rfl ?_
  refine a_aload_n (pc := 6) dX12_keep_6 rfl ?_
  refine a_getiE (pc := 7) (M 76 11) 11 dX12_keep_7 f_X12_152 rfl rfl (mput_ni _ _ _ _ (by decide)) ?_
  refine a_puti (pc := 10) 65 dX12_keep_10 f_X12_444 rfl rfl (Or.inl rfl) ?_
  refine a_aload_n (pc := 13) dX12_keep_13 rfl ?_
  refine a_getr (pc := 14) dX12_keep_14 f_X12_7 rfl ?_
  refine a_aload_n (pc := 17) dX12_keep_17 rfl ?_
  refine a_getr (pc := 18) dX12_keep_18 f_X12_16 rfl ?_
  refine a_callSv (pc := 21) (d := 0) (st := []) [.inr 77, .inr 79] dX12_keep_21 l_X12_346 st_X12_copies rfl ⟨Nat.le_of_ble_eq_true rfl, Nat.le_of_ble_eq_true rfl⟩ ⟨Nat.le_of_ble_eq_true rfl, Nat.le_of_ble_eq_true rfl⟩ (Nat.le_of_ble_eq_true rfl) ?_
  refine Calls.mono (fun r21 M21 hr21 hM21 h => ?_) h
  refine a_aload_n (pc := 24) dX12_keep_24 rfl ?_
  refine a_getr (pc := 25) dX12_keep_25 f_X12_7 rfl ?_
  refine a_bipush (pc := 28) dX12_keep_28 (by decide) (cnb rfl) ?_
  refine a_iald (pc := 30) dX12_keep_30 rfl (by decide) (by decide)  ?_
  exact a_iretI (pc := 31) dX12_keep_31 rfl h
set_option maxRecDepth 20000 in
theorem e_X12_keep {Q : Int → Me → Prop}  {M : Me} (h :
    Calls 0 mX12_copies [.inr 77, .inr 79] (mput (mput M 76 64 1) 76 65 (M 76 11)) (fun r21 M21 =>
    Q (M21 77 80) M21)) : Calls 1 mX12_keep [.inr 76] M Q := Calls.of (by decide) (Nat.le_of_ble_eq_true rfl) (s_X12_keep_0   M h)
set_option maxRecDepth 20000 in
theorem s_X11_undo_0 {Q : Int → Me → Prop}  (M : Me) (h :
    ((M 0 13 ≠ 0 →
    Calls 1 mX8_copyOf [.inr 37, .inr 43, .inl (min (M 0 14) (M 3 8))] M (fun r31 M31 =>
    Q 1 M31)) ∧ (M 0 13 = 0 →
    Q 0 M))) :
    Go (km 2 mX11_undo Q) 0 [some (.inr 0)] [] M := by
  refine a_aload_n (pc := 0) dX11_undo_0 rfl ?_
  refine a_geti (pc := 1) 13 dX11_undo_1 f_X11_96 rfl rfl ?_
  refine a_if_ne (pc := 4) 9 dX11_undo_4 rfl ⟨fun hc => ?_, fun hc => ?_⟩
  · replace h := h.1 hc
    refine a_aload_n (pc := 9) dX11_undo_9 rfl ?_
    refine a_getr (pc := 10) dX11_undo_10 f_X11_49 rfl ?_
    refine a_aload_n (pc := 13) dX11_undo_13 rfl ?_
    refine a_getr (pc := 14) dX11_undo_14 f_X11_53 rfl ?_
    refine a_aload_n (pc := 17) dX11_undo_17 rfl ?_
    refine a_geti (pc := 18) 14 dX11_undo_18 f_X11_100 rfl rfl ?_
    refine a_aload_n (pc := 21) dX11_undo_21 rfl ?_
    refine a_getr (pc := 22) dX11_undo_22 f_X11_19 rfl ?_
    refine a_geti (pc := 25) 8 dX11_undo_25 f_X11_155 rfl rfl ?_
    refine a_mmin (pc := 28) dX11_undo_28 ml_X11_220 mt_st_min mt_ini mt_cd_min ⟨Nat.le_of_ble_eq_true rfl, Nat.le_of_ble_eq_true rfl⟩ ⟨Nat.le_of_ble_eq_true rfl, Nat.le_of_ble_eq_true rfl⟩ (Nat.le_of_ble_eq_true rfl) ?_
    refine a_callVv (pc := 31) (d := 1) (st := []) (o := 37) [.inr 43, .inl (min (M 0 14) (M 3 8))] dX11_undo_31 l_X11_156 in_X8_copyOf se_X8_copyOf rfl rfl rfl ⟨Nat.le_of_ble_eq_true rfl, Nat.le_of_ble_eq_true rfl⟩ ⟨Nat.le_of_ble_eq_true rfl, Nat.le_of_ble_eq_true rfl⟩ (Nat.le_of_ble_eq_true rfl) ?_
    refine Calls.mono (fun r31 M31 hr31 hM31 h => ?_) h
    refine a_iconst (pc := 34) dX11_undo_34 (cnb rfl) ?_
    exact a_iretZ (pc := 35) dX11_undo_35 rfl (by decide) h
  · replace h := h.2 hc
    refine a_iconst (pc := 7) dX11_undo_7 (cnb rfl) ?_
    exact a_iretZ (pc := 8) dX11_undo_8 rfl (by decide) h
set_option maxRecDepth 20000 in
theorem e_X11_undo {Q : Int → Me → Prop}  {M : Me} (h :
    ((M 0 13 ≠ 0 →
    Calls 1 mX8_copyOf [.inr 37, .inr 43, .inl (min (M 0 14) (M 3 8))] M (fun r31 M31 =>
    Q 1 M31)) ∧ (M 0 13 = 0 →
    Q 0 M))) : Calls 2 mX11_undo [.inr 0] M Q := Calls.of (by decide) (Nat.le_of_ble_eq_true rfl) (s_X11_undo_0   M h)
set_option maxRecDepth 20000 in
theorem s_X12_undo_0 {Q : Int → Me → Prop}  (M : Me) (h :
    ((M 76 64 ≠ 0 →
    Go (km 1 mX12_undo Q) 11 [some (.inr 76), some (.inl 0), none] [] M) ∧ (M 76 64 = 0 →
    Q 0 M))) :
    Go (km 1 mX12_undo Q) 0 [some (.inr 76), none, none] [] M := by
  refine a_aload_n (pc := 0) dX12_undo_0 rfl ?_
  refine a_geti (pc := 1) 64 dX12_undo_1 f_X12_440 rfl rfl ?_
  refine a_if_ne (pc := 4) 9 dX12_undo_4 rfl ⟨fun hc => ?_, fun hc => ?_⟩
  · replace h := h.1 hc
    refine a_iconst (pc := 9) dX12_undo_9 (cnb rfl) ?_
    refine a_istore_n (pc := 10) dX12_undo_10 (Nat.le_of_ble_eq_true rfl) ?_
    exact h
  · replace h := h.2 hc
    refine a_iconst (pc := 7) dX12_undo_7 (cnb rfl) ?_
    exact a_iretZ (pc := 8) dX12_undo_8 rfl (by decide) h
set_option maxRecDepth 20000 in
theorem e_X12_undo {Q : Int → Me → Prop}  {M : Me} (h :
    ((M 76 64 ≠ 0 →
    Go (km 1 mX12_undo Q) 11 [some (.inr 76), some (.inl 0), none] [] M) ∧ (M 76 64 = 0 →
    Q 0 M))) : Calls 1 mX12_undo [.inr 76] M Q := Calls.of (by decide) (Nat.le_of_ble_eq_true rfl) (s_X12_undo_0   M h)
set_option maxRecDepth 20000 in
theorem s_X12_undo_11 {Q : Int → Me → Prop}  (x1 : Int) (M : Me) (h :
    ((min (M 76 11) (M 76 65) ≤ x1 →
    Q 1 (mput (mput M 77 80 (M 79 80)) 77 81 (M 79 81))) ∧ (x1 < min (M 76 11) (M 76 65) →
    Go (km 1 mX12_undo Q) 28 [some (.inr 76), some (.inl x1), some (.inl 0)] [] M))) :
    Go (km 1 mX12_undo Q) 11 [some (.inr 76), some (.inl x1), none] [] M := by
  refine a_iload_n (pc := 11) dX12_undo_11 rfl ?_
  refine a_aload_n (pc := 12) dX12_undo_12 rfl ?_
  refine a_geti (pc := 13) 11 dX12_undo_13 f_X12_152 rfl rfl ?_
  refine a_aload_n (pc := 16) dX12_undo_16 rfl ?_
  refine a_geti (pc := 17) 65 dX12_undo_17 f_X12_444 rfl rfl ?_
  refine a_callSi (pc := 20) (d := 0) (st := [.inl x1]) [.inl (M 76 11), .inl (M 76 65)] dX12_undo_20 l_X12_309 st_X12_min rfl ⟨Nat.le_of_ble_eq_true rfl, Nat.le_of_ble_eq_true rfl⟩ ⟨Nat.le_of_ble_eq_true rfl, Nat.le_of_ble_eq_true rfl⟩ (Nat.le_of_ble_eq_true rfl) ?_
  refine p_X12_min ?_
  refine a_icmp_ge (pc := 23) 64 dX12_undo_23 rfl ⟨fun hc => ?_, fun hc => ?_⟩
  · replace h := h.1 hc
    refine a_aload_n (pc := 64) dX12_undo_64 rfl ?_
    refine a_getr (pc := 65) dX12_undo_65 f_X12_7 rfl ?_
    refine a_bipush (pc := 68) dX12_undo_68 (by decide) (cnb rfl) ?_
    refine a_aload_n (pc := 70) dX12_undo_70 rfl ?_
    refine a_getr (pc := 71) dX12_undo_71 f_X12_16 rfl ?_
    refine a_bipush (pc := 74) dX12_undo_74 (by decide) (cnb rfl) ?_
    refine a_iald (pc := 76) dX12_undo_76 rfl (by decide) (by decide)  ?_
    refine a_iast (pc := 77) dX12_undo_77 rfl (by decide) (by decide) ?_
    refine a_aload_n (pc := 78) dX12_undo_78 rfl ?_
    refine a_getr (pc := 79) dX12_undo_79 f_X12_7 rfl ?_
    refine a_bipush (pc := 82) dX12_undo_82 (by decide) (cnb rfl) ?_
    refine a_aload_n (pc := 84) dX12_undo_84 rfl ?_
    refine a_getr (pc := 85) dX12_undo_85 f_X12_16 rfl ?_
    refine a_bipush (pc := 88) dX12_undo_88 (by decide) (cnb rfl) ?_
    refine a_ialdE (pc := 90) (M 79 81) dX12_undo_90 rfl (by decide) (by decide) (mput_ne _ _ _ _ (by decide)) ?_
    refine a_iast (pc := 91) dX12_undo_91 rfl (by decide) (by decide) ?_
    refine a_iconst (pc := 92) dX12_undo_92 (cnb rfl) ?_
    exact a_iretZ (pc := 93) dX12_undo_93 rfl (by decide) h
  · replace h := h.2 hc
    refine a_iconst (pc := 26) dX12_undo_26 (cnb rfl) ?_
    refine a_istore_n (pc := 27) dX12_undo_27 (Nat.le_of_ble_eq_true rfl) ?_
    exact h
set_option maxRecDepth 20000 in
theorem s_X12_undo_28 {Q : Int → Me → Prop}  (x1 x2 : Int) (M : Me) (h :
    ((80 ≤ x2 →
    cn (x1 + 1) ∧
    Go (km 1 mX12_undo Q) 11 [some (.inr 76), some (.inl (x1 + 1)), none] [] M) ∧ (x2 < 80 →
    cn (x2 + x1) ∧
    cn (x2 + x1) ∧
    (0 ≤ x2 + x1 ∧ x2 + x1 < 82) ∧
    (0 ≤ x2 + x1 ∧ x2 + x1 < 82) ∧
    cn (x2 + 16) ∧
    Go (km 1 mX12_undo Q) 28 [some (.inr 76), some (.inl x1), some (.inl (x2 + 16))] [] (mput M 77 (x2 + x1) (M 79 (x2 + x1)))))) :
    Go (km 1 mX12_undo Q) 28 [some (.inr 76), some (.inl x1), some (.inl x2)] [] M := by
  refine a_iload_n (pc := 28) dX12_undo_28 rfl ?_
  refine a_bipush (pc := 29) dX12_undo_29 (by decide) (cnb rfl) ?_
  refine a_icmp_ge (pc := 31) 58 dX12_undo_31 rfl ⟨fun hc => ?_, fun hc => ?_⟩
  · replace h := h.1 hc
    refine a_iinc (pc := 58) dX12_undo_58 rfl h.1 (Nat.le_of_ble_eq_true rfl) ?_
    replace h := h.2
    refine a_goto (pc := 61) 11 dX12_undo_61 rfl ?_
    exact Go.weak h (And.intro rfl (And.intro rfl True.intro))
  · replace h := h.2 hc
    refine a_aload_n (pc := 34) dX12_undo_34 rfl ?_
    refine a_getr (pc := 35) dX12_undo_35 f_X12_7 rfl ?_
    refine a_iload_n (pc := 38) dX12_undo_38 rfl ?_
    refine a_iload_n (pc := 39) dX12_undo_39 rfl ?_
    refine a_iadd (pc := 40) dX12_undo_40 h.1 ?_
    replace h := h.2
    refine a_aload_n (pc := 41) dX12_undo_41 rfl ?_
    refine a_getr (pc := 42) dX12_undo_42 f_X12_16 rfl ?_
    refine a_iload_n (pc := 45) dX12_undo_45 rfl ?_
    refine a_iload_n (pc := 46) dX12_undo_46 rfl ?_
    refine a_iadd (pc := 47) dX12_undo_47 h.1 ?_
    replace h := h.2
    refine a_iald (pc := 48) dX12_undo_48 rfl h.1.1 h.1.2  ?_
    replace h := h.2
    refine a_iast (pc := 49) dX12_undo_49 rfl h.1.1 h.1.2 ?_
    replace h := h.2
    refine a_iload_n (pc := 50) dX12_undo_50 rfl ?_
    refine a_bipush (pc := 51) dX12_undo_51 (by decide) (cnb rfl) ?_
    refine a_iadd (pc := 53) dX12_undo_53 h.1 ?_
    replace h := h.2
    refine a_istore_n (pc := 54) dX12_undo_54 (Nat.le_of_ble_eq_true rfl) ?_
    refine a_goto (pc := 55) 28 dX12_undo_55 rfl ?_
    exact h
set_option maxRecDepth 20000 in
theorem s_X11_check_0 {Q : Int → Me → Prop}  (a : Int) (M : Me) (h :
    ((a < 0 →
    Q (-2) M) ∧ (0 ≤ a →
    ((16 < a →
    Q (-2) M) ∧ (a ≤ 16 →
    ((a ≤ M 1 1 →
    cn (a - 1) ∧
    Go (km 1 mX11_check Q) 30 [some (.inr 0), none, some (.inl (-1)), some (.inl (a - 1)), none] [] M) ∧ (M 1 1 < a →
    Q (-2) M))))))) :
    Go (km 1 mX11_check Q) 0 [some (.inr 0), some (.inl a), none, none, none] [] M := by
  refine a_iload_n (pc := 0) dX11_check_0 rfl ?_
  refine a_if_lt (pc := 1) 21 dX11_check_1 rfl ⟨fun hc => ?_, fun hc => ?_⟩
  · replace h := h.1 hc
    refine a_bipush (pc := 21) dX11_check_21 (by decide) (cnb rfl) ?_
    exact a_iretI (pc := 23) dX11_check_23 rfl h
  · replace h := h.2 hc
    refine a_iload_n (pc := 4) dX11_check_4 rfl ?_
    refine a_bipush (pc := 5) dX11_check_5 (by decide) (cnb rfl) ?_
    refine a_icmp_gt (pc := 7) 21 dX11_check_7 rfl ⟨fun hc => ?_, fun hc => ?_⟩
    · replace h := h.1 hc
      refine a_bipush (pc := 21) dX11_check_21 (by decide) (cnb rfl) ?_
      exact a_iretI (pc := 23) dX11_check_23 rfl h
    · replace h := h.2 hc
      refine a_iload_n (pc := 10) dX11_check_10 rfl ?_
      refine a_aload_n (pc := 11) dX11_check_11 rfl ?_
      refine a_getr (pc := 12) dX11_check_12 f_X11_10 rfl ?_
      refine a_geti (pc := 15) 1 dX11_check_15 f_X11_118 rfl rfl ?_
      refine a_icmp_le (pc := 18) 24 dX11_check_18 rfl ⟨fun hc => ?_, fun hc => ?_⟩
      · replace h := h.1 hc
        refine a_iconst (pc := 24) dX11_check_24 (cnb rfl) ?_
        refine a_istore_n (pc := 25) dX11_check_25 (Nat.le_of_ble_eq_true rfl) ?_
        refine a_iload_n (pc := 26) dX11_check_26 rfl ?_
        refine a_iconst (pc := 27) dX11_check_27 (cnb rfl) ?_
        refine a_isub (pc := 28) dX11_check_28 h.1 ?_
        replace h := h.2
        refine a_istore_n (pc := 29) dX11_check_29 (Nat.le_of_ble_eq_true rfl) ?_
        exact Go.weak h (And.intro rfl (And.intro rfl (And.intro rfl True.intro)))
      · replace h := h.2 hc
        refine a_bipush (pc := 21) dX11_check_21 (by decide) (cnb rfl) ?_
        exact a_iretI (pc := 23) dX11_check_23 rfl h
set_option maxRecDepth 20000 in
theorem e_X11_check {Q : Int → Me → Prop}  {a : Int} {M : Me} (h :
    ((a < 0 →
    Q (-2) M) ∧ (0 ≤ a →
    ((16 < a →
    Q (-2) M) ∧ (a ≤ 16 →
    ((a ≤ M 1 1 →
    cn (a - 1) ∧
    Go (km 1 mX11_check Q) 30 [some (.inr 0), none, some (.inl (-1)), some (.inl (a - 1)), none] [] M) ∧ (M 1 1 < a →
    Q (-2) M))))))) : Calls 1 mX11_check [.inr 0, .inl a] M Q := Calls.of (by decide) (Nat.le_of_ble_eq_true rfl) (s_X11_check_0  a M h)
set_option maxRecDepth 20000 in
theorem s_X11_check_30 {Q : Int → Me → Prop}  (x2 x3 : Int) (M : Me) (h :
    ((x3 < 0 →
    Q x2 (mput M 1 1 0)) ∧ (0 ≤ x3 →
    ((0 ≤ x3 ∧ x3 < M 3 8 →
    (0 ≤ x3 ∧ x3 < 16) ∧
    M 1 1 ≤ 260 ∧
    ((0 ≤ x3 ∧ x3 < M 1 1 →
    ((M 2 x3 = M 40 x3 →
    cn (x3 + (-1)) ∧
    Go (km 1 mX11_check Q) 30 [some (.inr 0), none, some (.inl x2), some (.inl (x3 + (-1))), none] [] M) ∧ (M 2 x3 ≠ M 40 x3 →
    cn (x3 + (-1)) ∧
    Go (km 1 mX11_check Q) 30 [some (.inr 0), none, some (.inl x3), some (.inl (x3 + (-1))), none] [] M))) ∧ (¬ (0 ≤ x3 ∧ x3 < M 1 1) →
    (((-1) = M 40 x3 →
    cn (x3 + (-1)) ∧
    Go (km 1 mX11_check Q) 30 [some (.inr 0), none, some (.inl x2), some (.inl (x3 + (-1))), none] [] M) ∧ ((-1) ≠ M 40 x3 →
    cn (x3 + (-1)) ∧
    Go (km 1 mX11_check Q) 30 [some (.inr 0), none, some (.inl x3), some (.inl (x3 + (-1))), none] [] M))))) ∧ (¬ (0 ≤ x3 ∧ x3 < M 3 8) →
    M 1 1 ≤ 260 ∧
    ((0 ≤ x3 ∧ x3 < M 1 1 →
    ((M 2 x3 = 255 →
    cn (x3 + (-1)) ∧
    Go (km 1 mX11_check Q) 30 [some (.inr 0), none, some (.inl x2), some (.inl (x3 + (-1))), none] [] M) ∧ (M 2 x3 ≠ 255 →
    cn (x3 + (-1)) ∧
    Go (km 1 mX11_check Q) 30 [some (.inr 0), none, some (.inl x3), some (.inl (x3 + (-1))), none] [] M))) ∧ (¬ (0 ≤ x3 ∧ x3 < M 1 1) →
    cn (x3 + (-1)) ∧
    Go (km 1 mX11_check Q) 30 [some (.inr 0), none, some (.inl x3), some (.inl (x3 + (-1))), none] [] M))))))) :
    Go (km 1 mX11_check Q) 30 [some (.inr 0), none, some (.inl x2), some (.inl x3), none] [] M := by
  refine a_iload_n (pc := 30) dX11_check_30 rfl ?_
  refine a_if_lt (pc := 31) 80 dX11_check_31 rfl ⟨fun hc => ?_, fun hc => ?_⟩
  · replace h := h.1 hc
    refine a_aload_n (pc := 80) dX11_check_80 rfl ?_
    refine a_getr (pc := 81) dX11_check_81 f_X11_10 rfl ?_
    refine a_callVv (pc := 84) (d := 0) (st := []) (o := 1) [] dX11_check_84 l_X11_129 in_X9_clear se_X9_clear rfl rfl rfl ⟨Nat.le_of_ble_eq_true rfl, Nat.le_of_ble_eq_true rfl⟩ ⟨Nat.le_of_ble_eq_true rfl, Nat.le_of_ble_eq_true rfl⟩ (Nat.le_of_ble_eq_true rfl) ?_
    refine p_X9_clear ?_
    refine a_iload_n (pc := 87) dX11_check_87 rfl ?_
    exact a_iretI (pc := 88) dX11_check_88 rfl h
  · replace h := h.2 hc
    refine a_aload_n (pc := 34) dX11_check_34 rfl ?_
    refine a_iload_n (pc := 35) dX11_check_35 rfl ?_
    refine a_callVi (pc := 36) (d := 0) (st := []) (o := 0) [.inl x3] dX11_check_36 l_X11_104 in_X11_isCut se_X11_isCut rfl rfl rfl ⟨Nat.le_of_ble_eq_true rfl, Nat.le_of_ble_eq_true rfl⟩ ⟨Nat.le_of_ble_eq_true rfl, Nat.le_of_ble_eq_true rfl⟩ (Nat.le_of_ble_eq_true rfl) ?_
    refine p_X11_isCut ⟨fun hc => ?_, fun hc => ?_⟩
    · replace h := h.1 hc
      refine a_if_eq (pc := 39) 54 dX11_check_39 rfl ⟨fun hc => absurd hc (by decide), fun _ => ?_⟩
      refine a_aload_n (pc := 42) dX11_check_42 rfl ?_
      refine a_getr (pc := 43) dX11_check_43 f_X11_49 rfl ?_
      refine a_getr (pc := 46) dX11_check_46 f_X11_166 rfl ?_
      refine a_iload_n (pc := 49) dX11_check_49 rfl ?_
      refine a_iald (pc := 50) dX11_check_50 rfl h.1.1 h.1.2  ?_
      replace h := h.2
      refine a_goto (pc := 51) 57 dX11_check_51 rfl ?_
      refine a_istore (pc := 57) dX11_check_57 (Nat.le_of_ble_eq_true rfl) ?_
      refine a_aload_n (pc := 59) dX11_check_59 rfl ?_
      refine a_getr (pc := 60) dX11_check_60 f_X11_10 rfl ?_
      refine a_iload_n (pc := 63) dX11_check_63 rfl ?_
      refine a_callVi (pc := 64) (d := 0) (st := []) (o := 1) [.inl x3] dX11_check_64 l_X11_300 in_X9_byteAt se_X9_byteAt rfl rfl rfl ⟨Nat.le_of_ble_eq_true rfl, Nat.le_of_ble_eq_true rfl⟩ ⟨Nat.le_of_ble_eq_true rfl, Nat.le_of_ble_eq_true rfl⟩ (Nat.le_of_ble_eq_true rfl) ?_
      have hp64_2 := h.1
      replace h := h.2
      refine p_X9_byteAt hp64_2 ⟨fun hc => ?_, fun hc => ?_⟩
      · replace h := h.1 hc
        refine a_iload (pc := 67) dX11_check_67 rfl ?_
        refine a_icmp_eq (pc := 69) 74 dX11_check_69 rfl ⟨fun hc => ?_, fun hc => ?_⟩
        · replace h := h.1 hc
          refine a_iinc (pc := 74) dX11_check_74 rfl h.1 (Nat.le_of_ble_eq_true rfl) ?_
          replace h := h.2
          refine a_goto (pc := 77) 30 dX11_check_77 rfl ?_
          exact Go.weak h (And.intro rfl (And.intro rfl (And.intro rfl True.intro)))
        · replace h := h.2 hc
          refine a_iload_n (pc := 72) dX11_check_72 rfl ?_
          refine a_istore_n (pc := 73) dX11_check_73 (Nat.le_of_ble_eq_true rfl) ?_
          refine a_iinc (pc := 74) dX11_check_74 rfl h.1 (Nat.le_of_ble_eq_true rfl) ?_
          replace h := h.2
          refine a_goto (pc := 77) 30 dX11_check_77 rfl ?_
          exact Go.weak h (And.intro rfl (And.intro rfl (And.intro rfl True.intro)))
      · replace h := h.2 hc
        refine a_iload (pc := 67) dX11_check_67 rfl ?_
        refine a_icmp_eq (pc := 69) 74 dX11_check_69 rfl ⟨fun hc => ?_, fun hc => ?_⟩
        · replace h := h.1 hc
          refine a_iinc (pc := 74) dX11_check_74 rfl h.1 (Nat.le_of_ble_eq_true rfl) ?_
          replace h := h.2
          refine a_goto (pc := 77) 30 dX11_check_77 rfl ?_
          exact Go.weak h (And.intro rfl (And.intro rfl (And.intro rfl True.intro)))
        · replace h := h.2 hc
          refine a_iload_n (pc := 72) dX11_check_72 rfl ?_
          refine a_istore_n (pc := 73) dX11_check_73 (Nat.le_of_ble_eq_true rfl) ?_
          refine a_iinc (pc := 74) dX11_check_74 rfl h.1 (Nat.le_of_ble_eq_true rfl) ?_
          replace h := h.2
          refine a_goto (pc := 77) 30 dX11_check_77 rfl ?_
          exact Go.weak h (And.intro rfl (And.intro rfl (And.intro rfl True.intro)))
    · replace h := h.2 hc
      refine a_if_eq (pc := 39) 54 dX11_check_39 rfl ⟨fun _ => ?_, fun hc => absurd hc (by decide)⟩
      refine a_sipush (pc := 54) dX11_check_54 (by decide) (cnb rfl) ?_
      refine a_istore (pc := 57) dX11_check_57 (Nat.le_of_ble_eq_true rfl) ?_
      refine a_aload_n (pc := 59) dX11_check_59 rfl ?_
      refine a_getr (pc := 60) dX11_check_60 f_X11_10 rfl ?_
      refine a_iload_n (pc := 63) dX11_check_63 rfl ?_
      refine a_callVi (pc := 64) (d := 0) (st := []) (o := 1) [.inl x3] dX11_check_64 l_X11_300 in_X9_byteAt se_X9_byteAt rfl rfl rfl ⟨Nat.le_of_ble_eq_true rfl, Nat.le_of_ble_eq_true rfl⟩ ⟨Nat.le_of_ble_eq_true rfl, Nat.le_of_ble_eq_true rfl⟩ (Nat.le_of_ble_eq_true rfl) ?_
      have hp64_1 := h.1
      replace h := h.2
      refine p_X9_byteAt hp64_1 ⟨fun hc => ?_, fun hc => ?_⟩
      · replace h := h.1 hc
        refine a_iload (pc := 67) dX11_check_67 rfl ?_
        refine a_icmp_eq (pc := 69) 74 dX11_check_69 rfl ⟨fun hc => ?_, fun hc => ?_⟩
        · replace h := h.1 hc
          refine a_iinc (pc := 74) dX11_check_74 rfl h.1 (Nat.le_of_ble_eq_true rfl) ?_
          replace h := h.2
          refine a_goto (pc := 77) 30 dX11_check_77 rfl ?_
          exact Go.weak h (And.intro rfl (And.intro rfl (And.intro rfl True.intro)))
        · replace h := h.2 hc
          refine a_iload_n (pc := 72) dX11_check_72 rfl ?_
          refine a_istore_n (pc := 73) dX11_check_73 (Nat.le_of_ble_eq_true rfl) ?_
          refine a_iinc (pc := 74) dX11_check_74 rfl h.1 (Nat.le_of_ble_eq_true rfl) ?_
          replace h := h.2
          refine a_goto (pc := 77) 30 dX11_check_77 rfl ?_
          exact Go.weak h (And.intro rfl (And.intro rfl (And.intro rfl True.intro)))
      · replace h := h.2 hc
        refine a_iload (pc := 67) dX11_check_67 rfl ?_
        refine a_icmp_eq (pc := 69) 74 dX11_check_69 rfl ⟨fun hc => absurd hc (by decide), fun _ => ?_⟩
        refine a_iload_n (pc := 72) dX11_check_72 rfl ?_
        refine a_istore_n (pc := 73) dX11_check_73 (Nat.le_of_ble_eq_true rfl) ?_
        refine a_iinc (pc := 74) dX11_check_74 rfl h.1 (Nat.le_of_ble_eq_true rfl) ?_
        replace h := h.2
        refine a_goto (pc := 77) 30 dX11_check_77 rfl ?_
        exact Go.weak h (And.intro rfl (And.intro rfl (And.intro rfl True.intro)))
set_option maxRecDepth 20000 in
theorem s_X12_check_0 {Q : Int → Me → Prop}  (a : Int) (M : Me) (h :
    ((0 ≤ a ∧ a ≤ 16 →
    ((a ≤ M 76 13 →
    Go (km 2 mX12_check Q) 28 [some (.inr 76), some (.inl a), some (.inl 0)] [] (mput M 76 13 0)) ∧ (M 76 13 < a →
    Q (-2) M))) ∧ (¬ (0 ≤ a ∧ a ≤ 16) →
    Q (-2) M))) :
    Go (km 2 mX12_check Q) 0 [some (.inr 76), some (.inl a), none] [] M := by
  refine a_iload_n (pc := 0) dX12_check_0 rfl ?_
  refine a_iconst (pc := 1) dX12_check_1 (cnb rfl) ?_
  refine a_bipush (pc := 2) dX12_check_2 (by decide) (cnb rfl) ?_
  refine a_callSi (pc := 4) (d := 0) (st := []) [.inl a, .inl 0, .inl 16] dX12_check_4 l_X12_156 st_X12_in rfl ⟨Nat.le_of_ble_eq_true rfl, Nat.le_of_ble_eq_true rfl⟩ ⟨Nat.le_of_ble_eq_true rfl, Nat.le_of_ble_eq_true rfl⟩ (Nat.le_of_ble_eq_true rfl) ?_
  refine p_X12_in ⟨fun hc => ?_, fun hc => ?_⟩
  · replace h := h.1 hc
    refine a_if_eq (pc := 7) 18 dX12_check_7 rfl ⟨fun hc => absurd hc (by decide), fun _ => ?_⟩
    refine a_iload_n (pc := 10) dX12_check_10 rfl ?_
    refine a_aload_n (pc := 11) dX12_check_11 rfl ?_
    refine a_geti (pc := 12) 13 dX12_check_12 f_X12_168 rfl rfl ?_
    refine a_icmp_le (pc := 15) 21 dX12_check_15 rfl ⟨fun hc => ?_, fun hc => ?_⟩
    · replace h := h.1 hc
      refine a_aload_n (pc := 21) dX12_check_21 rfl ?_
      refine a_iconst (pc := 22) dX12_check_22 (cnb rfl) ?_
      refine a_puti (pc := 23) 13 dX12_check_23 f_X12_168 rfl rfl (Or.inl rfl) ?_
      refine a_iconst (pc := 26) dX12_check_26 (cnb rfl) ?_
      refine a_istore_n (pc := 27) dX12_check_27 (Nat.le_of_ble_eq_true rfl) ?_
      exact h
    · replace h := h.2 hc
      refine a_bipush (pc := 18) dX12_check_18 (by decide) (cnb rfl) ?_
      exact a_iretI (pc := 20) dX12_check_20 rfl h
  · replace h := h.2 hc
    refine a_if_eq (pc := 7) 18 dX12_check_7 rfl ⟨fun _ => ?_, fun hc => absurd hc (by decide)⟩
    refine a_bipush (pc := 18) dX12_check_18 (by decide) (cnb rfl) ?_
    exact a_iretI (pc := 20) dX12_check_20 rfl h
set_option maxRecDepth 20000 in
theorem e_X12_check {Q : Int → Me → Prop}  {a : Int} {M : Me} (h :
    ((0 ≤ a ∧ a ≤ 16 →
    ((a ≤ M 76 13 →
    Go (km 2 mX12_check Q) 28 [some (.inr 76), some (.inl a), some (.inl 0)] [] (mput M 76 13 0)) ∧ (M 76 13 < a →
    Q (-2) M))) ∧ (¬ (0 ≤ a ∧ a ≤ 16) →
    Q (-2) M))) : Calls 2 mX12_check [.inr 76, .inl a] M Q := Calls.of (by decide) (Nat.le_of_ble_eq_true rfl) (s_X12_check_0  a M h)
set_option maxRecDepth 20000 in
theorem s_X12_check_28 {Q : Int → Me → Prop}  (x1 x2 : Int) (M : Me) (h :
    ((x1 ≤ x2 →
    Q (-1) M) ∧ (x2 < x1 →
    (0 ≤ x2 ∧ x2 < 260) ∧
    0 ≤ M 76 11 ∧
    ((0 ≤ x2 ∧ x2 < M 76 11 →
    cn (32 + x2) ∧
    (0 ≤ 32 + x2 ∧ 32 + x2 < 82) ∧
    ((band (M 88 x2) 255 = M 77 (32 + x2) →
    cn (x2 + 1) ∧
    Go (km 2 mX12_check Q) 28 [some (.inr 76), some (.inl x1), some (.inl (x2 + 1))] [] M) ∧ (band (M 88 x2) 255 ≠ M 77 (32 + x2) →
    Q x2 M))) ∧ (¬ (0 ≤ x2 ∧ x2 < M 76 11) →
    ((band (M 88 x2) 255 = 255 →
    cn (x2 + 1) ∧
    Go (km 2 mX12_check Q) 28 [some (.inr 76), some (.inl x1), some (.inl (x2 + 1))] [] M) ∧ (band (M 88 x2) 255 ≠ 255 →
    Q x2 M))))))) :
    Go (km 2 mX12_check Q) 28 [some (.inr 76), some (.inl x1), some (.inl x2)] [] M := by
  refine a_iload_n (pc := 28) dX12_check_28 rfl ?_
  refine a_iload_n (pc := 29) dX12_check_29 rfl ?_
  refine a_icmp_ge (pc := 30) 72 dX12_check_30 rfl ⟨fun hc => ?_, fun hc => ?_⟩
  · replace h := h.1 hc
    refine a_iconst (pc := 72) dX12_check_72 (cnb rfl) ?_
    exact a_iretI (pc := 73) dX12_check_73 rfl h
  · replace h := h.2 hc
    refine a_aload_n (pc := 33) dX12_check_33 rfl ?_
    refine a_iload_n (pc := 34) dX12_check_34 rfl ?_
    refine a_callVi (pc := 35) (d := 0) (st := []) (o := 76) [.inl x2] dX12_check_35 l_X12_407 in_X12_octet se_X12_octet rfl rfl rfl ⟨Nat.le_of_ble_eq_true rfl, Nat.le_of_ble_eq_true rfl⟩ ⟨Nat.le_of_ble_eq_true rfl, Nat.le_of_ble_eq_true rfl⟩ (Nat.le_of_ble_eq_true rfl) ?_
    have hp35_1 := h.1
    replace h := h.2
    refine p_X12_octet hp35_1 ?_
    refine a_aload_n (pc := 38) dX12_check_38 rfl ?_
    refine a_iload_n (pc := 39) dX12_check_39 rfl ?_
    refine a_callVi (pc := 40) (d := 1) (st := [.inl (band (M 88 x2) 255)]) (o := 76) [.inl x2] dX12_check_40 l_X12_164 in_X12_isCut se_X12_isCut rfl rfl rfl ⟨Nat.le_of_ble_eq_true rfl, Nat.le_of_ble_eq_true rfl⟩ ⟨Nat.le_of_ble_eq_true rfl, Nat.le_of_ble_eq_true rfl⟩ (Nat.le_of_ble_eq_true rfl) ?_
    have hp40_2 := h.1
    replace h := h.2
    refine p_X12_isCut hp40_2 ⟨fun hc => ?_, fun hc => ?_⟩
    · replace h := h.1 hc
      refine a_if_eq (pc := 43) 58 dX12_check_43 rfl ⟨fun hc => absurd hc (by decide), fun _ => ?_⟩
      refine a_aload_n (pc := 46) dX12_check_46 rfl ?_
      refine a_getr (pc := 47) dX12_check_47 f_X12_7 rfl ?_
      refine a_bipush (pc := 50) dX12_check_50 (by decide) (cnb rfl) ?_
      refine a_iload_n (pc := 52) dX12_check_52 rfl ?_
      refine a_iadd (pc := 53) dX12_check_53 h.1 ?_
      replace h := h.2
      refine a_iald (pc := 54) dX12_check_54 rfl h.1.1 h.1.2  ?_
      replace h := h.2
      refine a_goto (pc := 55) 61 dX12_check_55 rfl ?_
      refine a_icmp_eq (pc := 61) 66 dX12_check_61 rfl ⟨fun hc => ?_, fun hc => ?_⟩
      · replace h := h.1 hc
        refine a_iinc (pc := 66) dX12_check_66 rfl h.1 (Nat.le_of_ble_eq_true rfl) ?_
        replace h := h.2
        refine a_goto (pc := 69) 28 dX12_check_69 rfl ?_
        exact h
      · replace h := h.2 hc
        refine a_iload_n (pc := 64) dX12_check_64 rfl ?_
        exact a_iretI (pc := 65) dX12_check_65 rfl h
    · replace h := h.2 hc
      refine a_if_eq (pc := 43) 58 dX12_check_43 rfl ⟨fun _ => ?_, fun hc => absurd hc (by decide)⟩
      refine a_sipush (pc := 58) dX12_check_58 (by decide) (cnb rfl) ?_
      refine a_icmp_eq (pc := 61) 66 dX12_check_61 rfl ⟨fun hc => ?_, fun hc => ?_⟩
      · replace h := h.1 hc
        refine a_iinc (pc := 66) dX12_check_66 rfl h.1 (Nat.le_of_ble_eq_true rfl) ?_
        replace h := h.2
        refine a_goto (pc := 69) 28 dX12_check_69 rfl ?_
        exact h
      · replace h := h.2 hc
        refine a_iload_n (pc := 64) dX12_check_64 rfl ?_
        exact a_iretI (pc := 65) dX12_check_65 rfl h
