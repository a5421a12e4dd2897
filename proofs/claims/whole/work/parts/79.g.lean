set_option maxRecDepth 20000 in
theorem s_X2_nearestUnjoined_0 {Q : Int → Me → Prop}  (M : Me) (h :
    Go (km 0 mX2_nearestUnjoined Q) 4 [some (.inr 57), some (.inl 0), some (.inl 1)] [] M) :
    Go (km 0 mX2_nearestUnjoined Q) 0 [some (.inr 57), none, none] [] M := by
  refine a_iconst (pc := 0) dX2_nearestUnjoined_0 (cnb rfl) ?_
  refine a_istore_n (pc := 1) dX2_nearestUnjoined_1 (Nat.le_of_ble_eq_true rfl) ?_
  refine a_iconst (pc := 2) dX2_nearestUnjoined_2 (cnb rfl) ?_
  refine a_istore_n (pc := 3) dX2_nearestUnjoined_3 (Nat.le_of_ble_eq_true rfl) ?_
  exact h
set_option maxRecDepth 20000 in
theorem e_X2_nearestUnjoined {Q : Int → Me → Prop}  {M : Me} (h :
    Go (km 0 mX2_nearestUnjoined Q) 4 [some (.inr 57), some (.inl 0), some (.inl 1)] [] M) : Calls 0 mX2_nearestUnjoined [.inr 57] M Q := Calls.of (by decide) (Nat.le_of_ble_eq_true rfl) (s_X2_nearestUnjoined_0   M h)
set_option maxRecDepth 20000 in
theorem s_X2_nearestUnjoined_4 {Q : Int → Me → Prop}  (x1 x2 : Int) (M : Me) (h :
    ((M 57 3 ≤ x2 →
    Q x1 M) ∧ (x2 < M 57 3 →
    (0 ≤ x2 ∧ x2 < 32) ∧
    ((M 60 x2 ≤ 0 →
    cn (x2 + 1) ∧
    Go (km 0 mX2_nearestUnjoined Q) 4 [some (.inr 57), some (.inl x1), some (.inl (x2 + 1))] [] M) ∧ (0 < M 60 x2 →
    (0 ≤ x1 ∧ x1 < 32) ∧
    ((M 60 x1 = 0 →
    cn (x2 + 1) ∧
    Go (km 0 mX2_nearestUnjoined Q) 4 [some (.inr 57), some (.inl x2), some (.inl (x2 + 1))] [] M) ∧ (M 60 x1 ≠ 0 →
    (0 ≤ x2 ∧ x2 < 32) ∧
    (0 ≤ x1 ∧ x1 < 32) ∧
    ((M 60 x1 ≤ M 60 x2 →
    cn (x2 + 1) ∧
    Go (km 0 mX2_nearestUnjoined Q) 4 [some (.inr 57), some (.inl x1), some (.inl (x2 + 1))] [] M) ∧ (M 60 x2 < M 60 x1 →
    cn (x2 + 1) ∧
    Go (km 0 mX2_nearestUnjoined Q) 4 [some (.inr 57), some (.inl x2), some (.inl (x2 + 1))] [] M))))))))) :
    Go (km 0 mX2_nearestUnjoined Q) 4 [some (.inr 57), some (.inl x1), some (.inl x2)] [] M := by
  refine a_iload_n (pc := 4) dX2_nearestUnjoined_4 rfl ?_
  refine a_aload_n (pc := 5) dX2_nearestUnjoined_5 rfl ?_
  refine a_geti (pc := 6) 3 dX2_nearestUnjoined_6 f_X2_21 rfl rfl ?_
  refine a_icmp_ge (pc := 9) 53 dX2_nearestUnjoined_9 rfl ⟨fun hc => ?_, fun hc => ?_⟩
  · replace h := h.1 hc
    refine a_iload_n (pc := 53) dX2_nearestUnjoined_53 rfl ?_
    exact a_iretI (pc := 54) dX2_nearestUnjoined_54 rfl h
  · replace h := h.2 hc
    refine a_aload_n (pc := 12) dX2_nearestUnjoined_12 rfl ?_
    refine a_getr (pc := 13) dX2_nearestUnjoined_13 f_X2_18 rfl ?_
    refine a_iload_n (pc := 16) dX2_nearestUnjoined_16 rfl ?_
    refine a_iald (pc := 17) dX2_nearestUnjoined_17 rfl h.1.1 h.1.2  ?_
    replace h := h.2
    refine a_if_le (pc := 18) 47 dX2_nearestUnjoined_18 rfl ⟨fun hc => ?_, fun hc => ?_⟩
    · replace h := h.1 hc
      refine a_iinc (pc := 47) dX2_nearestUnjoined_47 rfl h.1 (Nat.le_of_ble_eq_true rfl) ?_
      replace h := h.2
      refine a_goto (pc := 50) 4 dX2_nearestUnjoined_50 rfl ?_
      exact h
    · replace h := h.2 hc
      refine a_aload_n (pc := 21) dX2_nearestUnjoined_21 rfl ?_
      refine a_getr (pc := 22) dX2_nearestUnjoined_22 f_X2_18 rfl ?_
      refine a_iload_n (pc := 25) dX2_nearestUnjoined_25 rfl ?_
      refine a_iald (pc := 26) dX2_nearestUnjoined_26 rfl h.1.1 h.1.2  ?_
      replace h := h.2
      refine a_if_eq (pc := 27) 45 dX2_nearestUnjoined_27 rfl ⟨fun hc => ?_, fun hc => ?_⟩
      · replace h := h.1 hc
        refine a_iload_n (pc := 45) dX2_nearestUnjoined_45 rfl ?_
        refine a_istore_n (pc := 46) dX2_nearestUnjoined_46 (Nat.le_of_ble_eq_true rfl) ?_
        refine a_iinc (pc := 47) dX2_nearestUnjoined_47 rfl h.1 (Nat.le_of_ble_eq_true rfl) ?_
        replace h := h.2
        refine a_goto (pc := 50) 4 dX2_nearestUnjoined_50 rfl ?_
        exact h
      · replace h := h.2 hc
        refine a_aload_n (pc := 30) dX2_nearestUnjoined_30 rfl ?_
        refine a_getr (pc := 31) dX2_nearestUnjoined_31 f_X2_18 rfl ?_
        refine a_iload_n (pc := 34) dX2_nearestUnjoined_34 rfl ?_
        refine a_iald (pc := 35) dX2_nearestUnjoined_35 rfl h.1.1 h.1.2  ?_
        replace h := h.2
        refine a_aload_n (pc := 36) dX2_nearestUnjoined_36 rfl ?_
        refine a_getr (pc := 37) dX2_nearestUnjoined_37 f_X2_18 rfl ?_
        refine a_iload_n (pc := 40) dX2_nearestUnjoined_40 rfl ?_
        refine a_iald (pc := 41) dX2_nearestUnjoined_41 rfl h.1.1 h.1.2  ?_
        replace h := h.2
        refine a_icmp_ge (pc := 42) 47 dX2_nearestUnjoined_42 rfl ⟨fun hc => ?_, fun hc => ?_⟩
        · replace h := h.1 hc
          refine a_iinc (pc := 47) dX2_nearestUnjoined_47 rfl h.1 (Nat.le_of_ble_eq_true rfl) ?_
          replace h := h.2
          refine a_goto (pc := 50) 4 dX2_nearestUnjoined_50 rfl ?_
          exact h
        · replace h := h.2 hc
          refine a_iload_n (pc := 45) dX2_nearestUnjoined_45 rfl ?_
          refine a_istore_n (pc := 46) dX2_nearestUnjoined_46 (Nat.le_of_ble_eq_true rfl) ?_
          refine a_iinc (pc := 47) dX2_nearestUnjoined_47 rfl h.1 (Nat.le_of_ble_eq_true rfl) ?_
          replace h := h.2
          refine a_goto (pc := 50) 4 dX2_nearestUnjoined_50 rfl ?_
          exact h
set_option maxRecDepth 20000 in
theorem s_X2_leastPaths_0 {Q : Int → Me → Prop}  (M : Me) (h :
    Go (km 2 mX2_leastPaths Q) 2 [some (.inr 57), some (.inl 0), none, none, none] [] M) :
    Go (km 2 mX2_leastPaths Q) 0 [some (.inr 57), none, none, none, none] [] M := by
  refine a_iconst (pc := 0) dX2_leastPaths_0 (cnb rfl) ?_
  refine a_istore_n (pc := 1) dX2_leastPaths_1 (Nat.le_of_ble_eq_true rfl) ?_
  exact h
set_option maxRecDepth 20000 in
theorem e_X2_leastPaths {Q : Int → Me → Prop}  {M : Me} (h :
    Go (km 2 mX2_leastPaths Q) 2 [some (.inr 57), some (.inl 0), none, none, none] [] M) : Calls 2 mX2_leastPaths [.inr 57] M Q := Calls.of (by decide) (Nat.le_of_ble_eq_true rfl) (s_X2_leastPaths_0   M h)
set_option maxRecDepth 20000 in
theorem s_X2_leastPaths_2 {Q : Int → Me → Prop}  (x1 : Int) (M : Me) (h :
    ((M 57 3 ≤ x1 →
    Go (km 2 mX2_leastPaths Q) 41 [some (.inr 57), some (.inl 0), some (.inl 1), none, none] [] M) ∧ (x1 < M 57 3 →
    (0 ≤ x1 ∧ x1 < 32) ∧
    0 ≤ M 58 0 ∧
    0 ≤ M 58 x1 ∧
    (0 ≤ x1 ∧ x1 < 32) ∧
    cn (x1 + 1) ∧
    Go (km 2 mX2_leastPaths Q) 2 [some (.inr 57), some (.inl (x1 + 1)), none, none, none] [] (mput M 60 x1 (dst (M 58 0) (M 58 x1)))))) :
    Go (km 2 mX2_leastPaths Q) 2 [some (.inr 57), some (.inl x1), none, none, none] [] M := by
  refine a_iload_n (pc := 2) dX2_leastPaths_2 rfl ?_
  refine a_aload_n (pc := 3) dX2_leastPaths_3 rfl ?_
  refine a_geti (pc := 4) 3 dX2_leastPaths_4 f_X2_21 rfl rfl ?_
  refine a_icmp_ge (pc := 7) 37 dX2_leastPaths_7 rfl ⟨fun hc => ?_, fun hc => ?_⟩
  · replace h := h.1 hc
    refine a_iconst (pc := 37) dX2_leastPaths_37 (cnb rfl) ?_
    refine a_istore_n (pc := 38) dX2_leastPaths_38 (Nat.le_of_ble_eq_true rfl) ?_
    refine a_iconst (pc := 39) dX2_leastPaths_39 (cnb rfl) ?_
    refine a_istore_n (pc := 40) dX2_leastPaths_40 (Nat.le_of_ble_eq_true rfl) ?_
    exact h
  · replace h := h.2 hc
    refine a_aload_n (pc := 10) dX2_leastPaths_10 rfl ?_
    refine a_getr (pc := 11) dX2_leastPaths_11 f_X2_18 rfl ?_
    refine a_iload_n (pc := 14) dX2_leastPaths_14 rfl ?_
    refine a_aload_n (pc := 15) dX2_leastPaths_15 rfl ?_
    refine a_getr (pc := 16) dX2_leastPaths_16 f_X2_11 rfl ?_
    refine a_iconst (pc := 19) dX2_leastPaths_19 (cnb rfl) ?_
    refine a_iald (pc := 20) dX2_leastPaths_20 rfl (by decide) (by decide)  ?_
    refine a_aload_n (pc := 21) dX2_leastPaths_21 rfl ?_
    refine a_getr (pc := 22) dX2_leastPaths_22 f_X2_11 rfl ?_
    refine a_iload_n (pc := 25) dX2_leastPaths_25 rfl ?_
    refine a_iald (pc := 26) dX2_leastPaths_26 rfl h.1.1 h.1.2  ?_
    replace h := h.2
    refine a_callNi (pc := 27) (d := 1) (st := [.inl x1, .inr 60]) [.inl (M 58 0), .inl (M 58 x1)] dX2_leastPaths_27 l_X2_64 st_X11_steps rfl ⟨Nat.le_of_ble_eq_true rfl, Nat.le_of_ble_eq_true rfl⟩ ⟨Nat.le_of_ble_eq_true rfl, Nat.le_of_ble_eq_true rfl⟩ (Nat.le_of_ble_eq_true rfl) ?_
    have hp27_2 := h.1
    replace h := h.2
    have hp27_3 := h.1
    replace h := h.2
    refine p_X11_steps hp27_2 hp27_3 ?_
    refine a_iast (pc := 30) dX2_leastPaths_30 rfl h.1.1 h.1.2 ?_
    replace h := h.2
    refine a_iinc (pc := 31) dX2_leastPaths_31 rfl h.1 (Nat.le_of_ble_eq_true rfl) ?_
    replace h := h.2
    refine a_goto (pc := 34) 2 dX2_leastPaths_34 rfl ?_
    exact h
set_option maxRecDepth 20000 in
theorem s_X2_leastPaths_41 {Q : Int → Me → Prop}  (x1 x2 : Int) (M : Me) (h :
    ((M 57 3 ≤ x2 →
    Q x1 M) ∧ (x2 < M 57 3 →
    Calls 0 mX2_nearestUnjoined [.inr 57] M (fun r50 M50 =>
    (0 ≤ r50 ∧ r50 < 32) ∧
    cn (x1 + (M50 60 r50)) ∧
    Go (km 2 mX2_leastPaths Q) 66 [some (.inr 57), some (.inl (x1 + (M50 60 r50))), some (.inl x2), some (.inl r50), some (.inl 0)] [] M50)))) :
    Go (km 2 mX2_leastPaths Q) 41 [some (.inr 57), some (.inl x1), some (.inl x2), none, none] [] M := by
  refine a_iload_n (pc := 41) dX2_leastPaths_41 rfl ?_
  refine a_aload_n (pc := 42) dX2_leastPaths_42 rfl ?_
  refine a_geti (pc := 43) 3 dX2_leastPaths_43 f_X2_21 rfl rfl ?_
  refine a_icmp_ge (pc := 46) 120 dX2_leastPaths_46 rfl ⟨fun hc => ?_, fun hc => ?_⟩
  · replace h := h.1 hc
    refine a_iload_n (pc := 120) dX2_leastPaths_120 rfl ?_
    exact a_iretI (pc := 121) dX2_leastPaths_121 rfl h
  · replace h := h.2 hc
    refine a_aload_n (pc := 49) dX2_leastPaths_49 rfl ?_
    refine a_callVi (pc := 50) (d := 0) (st := []) (o := 57) [] dX2_leastPaths_50 l_X2_67 in_X2_nearestUnjoined se_X2_nearestUnjoined rfl rfl rfl ⟨Nat.le_of_ble_eq_true rfl, Nat.le_of_ble_eq_true rfl⟩ ⟨Nat.le_of_ble_eq_true rfl, Nat.le_of_ble_eq_true rfl⟩ (Nat.le_of_ble_eq_true rfl) ?_
    refine Calls.mono (fun r50 M50 hr50 hM50 h => ?_) h
    refine a_istore_n (pc := 53) dX2_leastPaths_53 (Nat.le_of_ble_eq_true rfl) ?_
    refine a_iload_n (pc := 54) dX2_leastPaths_54 rfl ?_
    refine a_aload_n (pc := 55) dX2_leastPaths_55 rfl ?_
    refine a_getr (pc := 56) dX2_leastPaths_56 f_X2_18 rfl ?_
    refine a_iload_n (pc := 59) dX2_leastPaths_59 rfl ?_
    refine a_iald (pc := 60) dX2_leastPaths_60 rfl h.1.1 h.1.2  ?_
    replace h := h.2
    refine a_iadd (pc := 61) dX2_leastPaths_61 h.1 ?_
    replace h := h.2
    refine a_istore_n (pc := 62) dX2_leastPaths_62 (Nat.le_of_ble_eq_true rfl) ?_
    refine a_iconst (pc := 63) dX2_leastPaths_63 (cnb rfl) ?_
    refine a_istore (pc := 64) dX2_leastPaths_64 (Nat.le_of_ble_eq_true rfl) ?_
    exact h
set_option maxRecDepth 20000 in
theorem s_X2_leastPaths_66 {Q : Int → Me → Prop}  (x1 x2 x3 x4 : Int) (M : Me) (h :
    ((M 57 3 ≤ x4 →
    cn (x2 + 1) ∧
    Go (km 2 mX2_leastPaths Q) 41 [some (.inr 57), some (.inl x1), some (.inl (x2 + 1)), none, none] [] M) ∧ (x4 < M 57 3 →
    (0 ≤ x4 ∧ x4 < 32) ∧
    (0 ≤ x3 ∧ x3 < 32) ∧
    (0 ≤ x4 ∧ x4 < 32) ∧
    0 ≤ M 58 x3 ∧
    0 ≤ M 58 x4 ∧
    (0 ≤ x4 ∧ x4 < 32) ∧
    cn (x4 + 1) ∧
    Go (km 2 mX2_leastPaths Q) 66 [some (.inr 57), some (.inl x1), some (.inl x2), some (.inl x3), some (.inl (x4 + 1))] [] (mput M 60 x4 (min (M 60 x4) (dst (M 58 x3) (M 58 x4))))))) :
    Go (km 2 mX2_leastPaths Q) 66 [some (.inr 57), some (.inl x1), some (.inl x2), some (.inl x3), some (.inl x4)] [] M := by
  refine a_iload (pc := 66) dX2_leastPaths_66 rfl ?_
  refine a_aload_n (pc := 68) dX2_leastPaths_68 rfl ?_
  refine a_geti (pc := 69) 3 dX2_leastPaths_69 f_X2_21 rfl rfl ?_
  refine a_icmp_ge (pc := 72) 114 dX2_leastPaths_72 rfl ⟨fun hc => ?_, fun hc => ?_⟩
  · replace h := h.1 hc
    refine a_iinc (pc := 114) dX2_leastPaths_114 rfl h.1 (Nat.le_of_ble_eq_true rfl) ?_
    replace h := h.2
    refine a_goto (pc := 117) 41 dX2_leastPaths_117 rfl ?_
    exact Go.weak h (And.intro rfl (And.intro rfl (And.intro rfl True.intro)))
  · replace h := h.2 hc
    refine a_aload_n (pc := 75) dX2_leastPaths_75 rfl ?_
    refine a_getr (pc := 76) dX2_leastPaths_76 f_X2_18 rfl ?_
    refine a_iload (pc := 79) dX2_leastPaths_79 rfl ?_
    refine a_aload_n (pc := 81) dX2_leastPaths_81 rfl ?_
    refine a_getr (pc := 82) dX2_leastPaths_82 f_X2_18 rfl ?_
    refine a_iload (pc := 85) dX2_leastPaths_85 rfl ?_
    refine a_iald (pc := 87) dX2_leastPaths_87 rfl h.1.1 h.1.2  ?_
    replace h := h.2
    refine a_aload_n (pc := 88) dX2_leastPaths_88 rfl ?_
    refine a_getr (pc := 89) dX2_leastPaths_89 f_X2_11 rfl ?_
    refine a_iload_n (pc := 92) dX2_leastPaths_92 rfl ?_
    refine a_iald (pc := 93) dX2_leastPaths_93 rfl h.1.1 h.1.2  ?_
    replace h := h.2
    refine a_aload_n (pc := 94) dX2_leastPaths_94 rfl ?_
    refine a_getr (pc := 95) dX2_leastPaths_95 f_X2_11 rfl ?_
    refine a_iload (pc := 98) dX2_leastPaths_98 rfl ?_
    refine a_iald (pc := 100) dX2_leastPaths_100 rfl h.1.1 h.1.2  ?_
    replace h := h.2
    refine a_callNi (pc := 101) (d := 1) (st := [.inl (M 60 x4), .inl x4, .inr 60]) [.inl (M 58 x3), .inl (M 58 x4)] dX2_leastPaths_101 l_X2_64 st_X11_steps rfl ⟨Nat.le_of_ble_eq_true rfl, Nat.le_of_ble_eq_true rfl⟩ ⟨Nat.le_of_ble_eq_true rfl, Nat.le_of_ble_eq_true rfl⟩ (Nat.le_of_ble_eq_true rfl) ?_
    have hp101_4 := h.1
    replace h := h.2
    have hp101_5 := h.1
    replace h := h.2
    refine p_X11_steps hp101_4 hp101_5 ?_
    refine a_mmin (pc := 104) dX2_leastPaths_104 ml_X2_71 mt_st_min mt_ini mt_cd_min ⟨Nat.le_of_ble_eq_true rfl, Nat.le_of_ble_eq_true rfl⟩ ⟨Nat.le_of_ble_eq_true rfl, Nat.le_of_ble_eq_true rfl⟩ (Nat.le_of_ble_eq_true rfl) ?_
    refine a_iast (pc := 107) dX2_leastPaths_107 rfl h.1.1 h.1.2 ?_
    replace h := h.2
    refine a_iinc (pc := 108) dX2_leastPaths_108 rfl h.1 (Nat.le_of_ble_eq_true rfl) ?_
    replace h := h.2
    refine a_goto (pc := 111) 66 dX2_leastPaths_111 rfl ?_
    exact h
set_option maxRecDepth 20000 in
theorem s_X11_paths_0 {Q : Int → Me → Prop}  (M : Me) (h :
    Calls 1 mX2_gather [.inr 57, .inr 3, .inr 37] M (fun r12 M12 =>
    Calls 2 mX2_leastPaths [.inr 57] M12 (fun r19 M19 =>
    Q r19 M19))) :
    Go (km 3 mX11_paths Q) 0 [some (.inr 0)] [] M := by
  refine a_aload_n (pc := 0) dX11_paths_0 rfl ?_
  refine a_getr (pc := 1) dX11_paths_1 f_X11_71 rfl ?_
  refine a_aload_n (pc := 4) dX11_paths_4 rfl ?_
  refine a_getr (pc := 5) dX11_paths_5 f_X11_19 rfl ?_
  refine a_aload_n (pc := 8) dX11_paths_8 rfl ?_
  refine a_getr (pc := 9) dX11_paths_9 f_X11_49 rfl ?_
  refine a_callVv (pc := 12) (d := 1) (st := []) (o := 57) [.inr 3, .inr 37] dX11_paths_12 l_X11_226 in_X2_gather se_X2_gather rfl rfl rfl ⟨Nat.le_of_ble_eq_true rfl, Nat.le_of_ble_eq_true rfl⟩ ⟨Nat.le_of_ble_eq_true rfl, Nat.le_of_ble_eq_true rfl⟩ (Nat.le_of_ble_eq_true rfl) ?_
  refine Calls.mono (fun r12 M12 hr12 hM12 h => ?_) h
  refine a_aload_n (pc := 15) dX11_paths_15 rfl ?_
  refine a_getr (pc := 16) dX11_paths_16 f_X11_71 rfl ?_
  refine a_callVi (pc := 19) (d := 2) (st := []) (o := 57) [] dX11_paths_19 l_X11_251 in_X2_leastPaths se_X2_leastPaths rfl rfl rfl ⟨Nat.le_of_ble_eq_true rfl, Nat.le_of_ble_eq_true rfl⟩ ⟨Nat.le_of_ble_eq_true rfl, Nat.le_of_ble_eq_true rfl⟩ (Nat.le_of_ble_eq_true rfl) ?_
  refine Calls.mono (fun r19 M19 hr19 hM19 h => ?_) h
  exact a_iretI (pc := 22) dX11_paths_22 rfl h
set_option maxRecDepth 20000 in
theorem e_X11_paths {Q : Int → Me → Prop}  {M : Me} (h :
    Calls 1 mX2_gather [.inr 57, .inr 3, .inr 37] M (fun r12 M12 =>
    Calls 2 mX2_leastPaths [.inr 57] M12 (fun r19 M19 =>
    Q r19 M19))) : Calls 3 mX11_paths [.inr 0] M Q := Calls.of (by decide) (Nat.le_of_ble_eq_true rfl) (s_X11_paths_0   M h)
set_option maxRecDepth 20000 in
theorem s_X12_paths_0 {Q : Int → Me → Prop}  (M : Me) (h :
    Calls 1 mX12_laysTrees [.inr 76] M (fun r1 M1 =>
    Go (km 2 mX12_paths Q) 8 [some (.inr 76), some (.inl 0), some (.inl 0), none, none] [] M1)) :
    Go (km 2 mX12_paths Q) 0 [some (.inr 76), none, none, none, none] [] M := by
  refine a_aload_n (pc := 0) dX12_paths_0 rfl ?_
  refine a_callVv (pc := 1) (d := 1) (st := []) (o := 76) [] dX12_paths_1 l_X12_371 in_X12_laysTrees se_X12_laysTrees rfl rfl rfl ⟨Nat.le_of_ble_eq_true rfl, Nat.le_of_ble_eq_true rfl⟩ ⟨Nat.le_of_ble_eq_true rfl, Nat.le_of_ble_eq_true rfl⟩ (Nat.le_of_ble_eq_true rfl) ?_
  refine Calls.mono (fun r1 M1 hr1 hM1 h => ?_) h
  refine a_iconst (pc := 4) dX12_paths_4 (cnb rfl) ?_
  refine a_istore_n (pc := 5) dX12_paths_5 (Nat.le_of_ble_eq_true rfl) ?_
  refine a_iconst (pc := 6) dX12_paths_6 (cnb rfl) ?_
  refine a_istore_n (pc := 7) dX12_paths_7 (Nat.le_of_ble_eq_true rfl) ?_
  exact h
set_option maxRecDepth 20000 in
theorem e_X12_paths {Q : Int → Me → Prop}  {M : Me} (h :
    Calls 1 mX12_laysTrees [.inr 76] M (fun r1 M1 =>
    Go (km 2 mX12_paths Q) 8 [some (.inr 76), some (.inl 0), some (.inl 0), none, none] [] M1)) : Calls 2 mX12_paths [.inr 76] M Q := Calls.of (by decide) (Nat.le_of_ble_eq_true rfl) (s_X12_paths_0   M h)
set_option maxRecDepth 20000 in
theorem s_X12_paths_8 {Q : Int → Me → Prop}  (x1 x2 : Int) (M : Me) (h :
    ((M 76 47 ≤ x2 →
    Go (km 2 mX12_paths Q) 53 [some (.inr 76), some (.inl x1), some (.inl 1), none, none] [] M) ∧ (x2 < M 76 47 →
    ((x2 ≠ 0 →
    (0 ≤ x2 ∧ x2 < 32) ∧
    0 ≤ M 109 0 ∧
    0 ≤ M 109 x2 ∧
    (0 ≤ x2 ∧ x2 < 32) ∧
    cn (x2 + 1) ∧
    Go (km 2 mX12_paths Q) 8 [some (.inr 76), some (.inl x1), some (.inl (x2 + 1)), none, none] [] (mput M 111 x2 (dst (M 109 0) (M 109 x2)))) ∧ (x2 = 0 →
    (0 ≤ x2 ∧ x2 < 32) ∧
    cn (x2 + 1) ∧
    Go (km 2 mX12_paths Q) 8 [some (.inr 76), some (.inl x1), some (.inl (x2 + 1)), none, none] [] (mput M 111 x2 (-1))))))) :
    Go (km 2 mX12_paths Q) 8 [some (.inr 76), some (.inl x1), some (.inl x2), none, none] [] M := by
  refine a_iload_n (pc := 8) dX12_paths_8 rfl ?_
  refine a_aload_n (pc := 9) dX12_paths_9 rfl ?_
  refine a_geti (pc := 10) 47 dX12_paths_10 f_X12_365 rfl rfl ?_
  refine a_icmp_ge (pc := 13) 51 dX12_paths_13 rfl ⟨fun hc => ?_, fun hc => ?_⟩
  · replace h := h.1 hc
    refine a_iconst (pc := 51) dX12_paths_51 (cnb rfl) ?_
    refine a_istore_n (pc := 52) dX12_paths_52 (Nat.le_of_ble_eq_true rfl) ?_
    exact h
  · replace h := h.2 hc
    refine a_aload_n (pc := 16) dX12_paths_16 rfl ?_
    refine a_getr (pc := 17) dX12_paths_17 f_X12_113 rfl ?_
    refine a_iload_n (pc := 20) dX12_paths_20 rfl ?_
    refine a_iload_n (pc := 21) dX12_paths_21 rfl ?_
    refine a_if_ne (pc := 22) 29 dX12_paths_22 rfl ⟨fun hc => ?_, fun hc => ?_⟩
    · replace h := h.1 hc
      refine a_aload_n (pc := 29) dX12_paths_29 rfl ?_
      refine a_getr (pc := 30) dX12_paths_30 f_X12_107 rfl ?_
      refine a_iconst (pc := 33) dX12_paths_33 (cnb rfl) ?_
      refine a_iald (pc := 34) dX12_paths_34 rfl (by decide) (by decide)  ?_
      refine a_aload_n (pc := 35) dX12_paths_35 rfl ?_
      refine a_getr (pc := 36) dX12_paths_36 f_X12_107 rfl ?_
      refine a_iload_n (pc := 39) dX12_paths_39 rfl ?_
      refine a_iald (pc := 40) dX12_paths_40 rfl h.1.1 h.1.2  ?_
      replace h := h.2
      refine a_callSi (pc := 41) (d := 1) (st := [.inl x2, .inr 111]) [.inl (M 109 0), .inl (M 109 x2)] dX12_paths_41 l_X12_303 st_X12_stepsBetween rfl ⟨Nat.le_of_ble_eq_true rfl, Nat.le_of_ble_eq_true rfl⟩ ⟨Nat.le_of_ble_eq_true rfl, Nat.le_of_ble_eq_true rfl⟩ (Nat.le_of_ble_eq_true rfl) ?_
      have hp41_2 := h.1
      replace h := h.2
      have hp41_3 := h.1
      replace h := h.2
      refine p_X12_stepsBetween hp41_2 hp41_3 ?_
      refine a_iast (pc := 44) dX12_paths_44 rfl h.1.1 h.1.2 ?_
      replace h := h.2
      refine a_iinc (pc := 45) dX12_paths_45 rfl h.1 (Nat.le_of_ble_eq_true rfl) ?_
      replace h := h.2
      refine a_goto (pc := 48) 8 dX12_paths_48 rfl ?_
      exact h
    · replace h := h.2 hc
      refine a_iconst (pc := 25) dX12_paths_25 (cnb rfl) ?_
      refine a_goto (pc := 26) 44 dX12_paths_26 rfl ?_
      refine a_iast (pc := 44) dX12_paths_44 rfl h.1.1 h.1.2 ?_
      replace h := h.2
      refine a_iinc (pc := 45) dX12_paths_45 rfl h.1 (Nat.le_of_ble_eq_true rfl) ?_
      replace h := h.2
      refine a_goto (pc := 48) 8 dX12_paths_48 rfl ?_
      exact h
set_option maxRecDepth 20000 in
theorem s_X12_paths_53 {Q : Int → Me → Prop}  (x1 x2 : Int) (M : Me) (h :
    ((M 76 47 ≤ x2 →
    Q x1 M) ∧ (x2 < M 76 47 →
    Go (km 2 mX12_paths Q) 66 [some (.inr 76), some (.inl x1), some (.inl x2), some (.inl (-1)), some (.inl 0)] [] M))) :
    Go (km 2 mX12_paths Q) 53 [some (.inr 76), some (.inl x1), some (.inl x2), none, none] [] M := by
  refine a_iload_n (pc := 53) dX12_paths_53 rfl ?_
  refine a_aload_n (pc := 54) dX12_paths_54 rfl ?_
  refine a_geti (pc := 55) 47 dX12_paths_55 f_X12_365 rfl rfl ?_
  refine a_icmp_ge (pc := 58) 200 dX12_paths_58 rfl ⟨fun hc => ?_, fun hc => ?_⟩
  · replace h := h.1 hc
    refine a_iload_n (pc := 200) dX12_paths_200 rfl ?_
    exact a_iretI (pc := 201) dX12_paths_201 rfl h
  · replace h := h.2 hc
    refine a_iconst (pc := 61) dX12_paths_61 (cnb rfl) ?_
    refine a_istore_n (pc := 62) dX12_paths_62 (Nat.le_of_ble_eq_true rfl) ?_
    refine a_iconst (pc := 63) dX12_paths_63 (cnb rfl) ?_
    refine a_istore (pc := 64) dX12_paths_64 (Nat.le_of_ble_eq_true rfl) ?_
    exact h
set_option maxRecDepth 20000 in
theorem s_X12_paths_66 {Q : Int → Me → Prop}  (x1 x2 x3 x4 : Int) (M : Me) (h :
    ((M 76 47 ≤ x4 →
    (0 ≤ x3 ∧ x3 < 32) ∧
    cn (x1 + (M 111 x3)) ∧
    (0 ≤ x3 ∧ x3 < 32) ∧
    Go (km 2 mX12_paths Q) 135 [some (.inr 76), some (.inl (x1 + (M 111 x3))), some (.inl x2), some (.inl x3), some (.inl 0)] [] (mput M 111 x3 (-1))) ∧ (x4 < M 76 47 →
    (0 ≤ x4 ∧ x4 < 32) ∧
    ((M 111 x4 = (-1) →
    cn (x4 + 1) ∧
    Go (km 2 mX12_paths Q) 66 [some (.inr 76), some (.inl x1), some (.inl x2), some (.inl x3), some (.inl (x4 + 1))] [] M) ∧ (M 111 x4 ≠ (-1) →
    ((x3 = (-1) →
    cn (x4 + 1) ∧
    Go (km 2 mX12_paths Q) 66 [some (.inr 76), some (.inl x1), some (.inl x2), some (.inl x4), some (.inl (x4 + 1))] [] M) ∧ (x3 ≠ (-1) →
    (0 ≤ x4 ∧ x4 < 32) ∧
    (0 ≤ x3 ∧ x3 < 32) ∧
    ((M 111 x3 ≤ M 111 x4 →
    cn (x4 + 1) ∧
    Go (km 2 mX12_paths Q) 66 [some (.inr 76), some (.inl x1), some (.inl x2), some (.inl x3), some (.inl (x4 + 1))] [] M) ∧ (M 111 x4 < M 111 x3 →
    cn (x4 + 1) ∧
    Go (km 2 mX12_paths Q) 66 [some (.inr 76), some (.inl x1), some (.inl x2), some (.inl x4), some (.inl (x4 + 1))] [] M))))))))) :
    Go (km 2 mX12_paths Q) 66 [some (.inr 76), some (.inl x1), some (.inl x2), some (.inl x3), some (.inl x4)] [] M := by
  refine a_iload (pc := 66) dX12_paths_66 rfl ?_
  refine a_aload_n (pc := 68) dX12_paths_68 rfl ?_
  refine a_geti (pc := 69) 47 dX12_paths_69 f_X12_365 rfl rfl ?_
  refine a_icmp_ge (pc := 72) 116 dX12_paths_72 rfl ⟨fun hc => ?_, fun hc => ?_⟩
  · replace h := h.1 hc
    refine a_iload_n (pc := 116) dX12_paths_116 rfl ?_
    refine a_aload_n (pc := 117) dX12_paths_117 rfl ?_
    refine a_getr (pc := 118) dX12_paths_118 f_X12_113 rfl ?_
    refine a_iload_n (pc := 121) dX12_paths_121 rfl ?_
    refine a_iald (pc := 122) dX12_paths_122 rfl h.1.1 h.1.2  ?_
    replace h := h.2
    refine a_iadd (pc := 123) dX12_paths_123 h.1 ?_
    replace h := h.2
    refine a_istore_n (pc := 124) dX12_paths_124 (Nat.le_of_ble_eq_true rfl) ?_
    refine a_aload_n (pc := 125) dX12_paths_125 rfl ?_
    refine a_getr (pc := 126) dX12_paths_126 f_X12_113 rfl ?_
    refine a_iload_n (pc := 129) dX12_paths_129 rfl ?_
    refine a_iconst (pc := 130) dX12_paths_130 (cnb rfl) ?_
    refine a_iast (pc := 131) dX12_paths_131 rfl h.1.1 h.1.2 ?_
    replace h := h.2
    refine a_iconst (pc := 132) dX12_paths_132 (cnb rfl) ?_
    refine a_istore (pc := 133) dX12_paths_133 (Nat.le_of_ble_eq_true rfl) ?_
    exact h
  · replace h := h.2 hc
    refine a_aload_n (pc := 75) dX12_paths_75 rfl ?_
    refine a_getr (pc := 76) dX12_paths_76 f_X12_113 rfl ?_
    refine a_iload (pc := 79) dX12_paths_79 rfl ?_
    refine a_iald (pc := 81) dX12_paths_81 rfl h.1.1 h.1.2  ?_
    replace h := h.2
    refine a_iconst (pc := 82) dX12_paths_82 (cnb rfl) ?_
    refine a_icmp_eq (pc := 83) 110 dX12_paths_83 rfl ⟨fun hc => ?_, fun hc => ?_⟩
    · replace h := h.1 hc
      refine a_iinc (pc := 110) dX12_paths_110 rfl h.1 (Nat.le_of_ble_eq_true rfl) ?_
      replace h := h.2
      refine a_goto (pc := 113) 66 dX12_paths_113 rfl ?_
      exact h
    · replace h := h.2 hc
      refine a_iload_n (pc := 86) dX12_paths_86 rfl ?_
      refine a_iconst (pc := 87) dX12_paths_87 (cnb rfl) ?_
      refine a_icmp_eq (pc := 88) 107 dX12_paths_88 rfl ⟨fun hc => ?_, fun hc => ?_⟩
      · replace h := h.1 hc
        refine a_iload (pc := 107) dX12_paths_107 rfl ?_
        refine a_istore_n (pc := 109) dX12_paths_109 (Nat.le_of_ble_eq_true rfl) ?_
        refine a_iinc (pc := 110) dX12_paths_110 rfl h.1 (Nat.le_of_ble_eq_true rfl) ?_
        replace h := h.2
        refine a_goto (pc := 113) 66 dX12_paths_113 rfl ?_
        exact h
      · replace h := h.2 hc
        refine a_aload_n (pc := 91) dX12_paths_91 rfl ?_
        refine a_getr (pc := 92) dX12_paths_92 f_X12_113 rfl ?_
        refine a_iload (pc := 95) dX12_paths_95 rfl ?_
        refine a_iald (pc := 97) dX12_paths_97 rfl h.1.1 h.1.2  ?_
        replace h := h.2
        refine a_aload_n (pc := 98) dX12_paths_98 rfl ?_
        refine a_getr (pc := 99) dX12_paths_99 f_X12_113 rfl ?_
        refine a_iload_n (pc := 102) dX12_paths_102 rfl ?_
        refine a_iald (pc := 103) dX12_paths_103 rfl h.1.1 h.1.2  ?_
        replace h := h.2
        refine a_icmp_ge (pc := 104) 110 dX12_paths_104 rfl ⟨fun hc => ?_, fun hc => ?_⟩
        · replace h := h.1 hc
          refine a_iinc (pc := 110) dX12_paths_110 rfl h.1 (Nat.le_of_ble_eq_true rfl) ?_
          replace h := h.2
          refine a_goto (pc := 113) 66 dX12_paths_113 rfl ?_
          exact h
        · replace h := h.2 hc
          refine a_iload (pc := 107) dX12_paths_107 rfl ?_
          refine a_istore_n (pc := 109) dX12_paths_109 (Nat.le_of_ble_eq_true rfl) ?_
          refine a_iinc (pc := 110) dX12_paths_110 rfl h.1 (Nat.le_of_ble_eq_true rfl) ?_
          replace h := h.2
          refine a_goto (pc := 113) 66 dX12_paths_113 rfl ?_
          exact h
set_option maxRecDepth 20000 in
theorem s_X12_paths_135 {Q : Int → Me → Prop}  (x1 x2 x3 x4 : Int) (M : Me) (h :
    ((M 76 47 ≤ x4 →
    cn (x2 + 1) ∧
    Go (km 2 mX12_paths Q) 53 [some (.inr 76), some (.inl x1), some (.inl (x2 + 1)), none, none] [] M) ∧ (x4 < M 76 47 →
    (0 ≤ x4 ∧ x4 < 32) ∧
    ((M 111 x4 = (-1) →
    cn (x4 + 1) ∧
    Go (km 2 mX12_paths Q) 135 [some (.inr 76), some (.inl x1), some (.inl x2), some (.inl x3), some (.inl (x4 + 1))] [] M) ∧ (M 111 x4 ≠ (-1) →
    (0 ≤ x4 ∧ x4 < 32) ∧
    (0 ≤ x3 ∧ x3 < 32) ∧
    (0 ≤ x4 ∧ x4 < 32) ∧
    0 ≤ M 109 x3 ∧
    0 ≤ M 109 x4 ∧
    (0 ≤ x4 ∧ x4 < 32) ∧
    cn (x4 + 1) ∧
    Go (km 2 mX12_paths Q) 135 [some (.inr 76), some (.inl x1), some (.inl x2), some (.inl x3), some (.inl (x4 + 1))] [] (mput M 111 x4 (min (M 111 x4) (dst (M 109 x3) (M 109 x4))))))))) :
    Go (km 2 mX12_paths Q) 135 [some (.inr 76), some (.inl x1), some (.inl x2), some (.inl x3), some (.inl x4)] [] M := by
  refine a_iload (pc := 135) dX12_paths_135 rfl ?_
  refine a_aload_n (pc := 137) dX12_paths_137 rfl ?_
  refine a_geti (pc := 138) 47 dX12_paths_138 f_X12_365 rfl rfl ?_
  refine a_icmp_ge (pc := 141) 194 dX12_paths_141 rfl ⟨fun hc => ?_, fun hc => ?_⟩
  · replace h := h.1 hc
    refine a_iinc (pc := 194) dX12_paths_194 rfl h.1 (Nat.le_of_ble_eq_true rfl) ?_
    replace h := h.2
    refine a_goto (pc := 197) 53 dX12_paths_197 rfl ?_
    exact Go.weak h (And.intro rfl (And.intro rfl (And.intro rfl True.intro)))
  · replace h := h.2 hc
    refine a_aload_n (pc := 144) dX12_paths_144 rfl ?_
    refine a_getr (pc := 145) dX12_paths_145 f_X12_113 rfl ?_
    refine a_iload (pc := 148) dX12_paths_148 rfl ?_
    refine a_iald (pc := 150) dX12_paths_150 rfl h.1.1 h.1.2  ?_
    replace h := h.2
    refine a_iconst (pc := 151) dX12_paths_151 (cnb rfl) ?_
    refine a_icmp_eq (pc := 152) 188 dX12_paths_152 rfl ⟨fun hc => ?_, fun hc => ?_⟩
    · replace h := h.1 hc
      refine a_iinc (pc := 188) dX12_paths_188 rfl h.1 (Nat.le_of_ble_eq_true rfl) ?_
      replace h := h.2
      refine a_goto (pc := 191) 135 dX12_paths_191 rfl ?_
      exact h
    · replace h := h.2 hc
      refine a_aload_n (pc := 155) dX12_paths_155 rfl ?_
      refine a_getr (pc := 156) dX12_paths_156 f_X12_113 rfl ?_
      refine a_iload (pc := 159) dX12_paths_159 rfl ?_
      refine a_aload_n (pc := 161) dX12_paths_161 rfl ?_
      refine a_getr (pc := 162) dX12_paths_162 f_X12_113 rfl ?_
      refine a_iload (pc := 165) dX12_paths_165 rfl ?_
      refine a_iald (pc := 167) dX12_paths_167 rfl h.1.1 h.1.2  ?_
      replace h := h.2
      refine a_aload_n (pc := 168) dX12_paths_168 rfl ?_
      refine a_getr (pc := 169) dX12_paths_169 f_X12_107 rfl ?_
      refine a_iload_n (pc := 172) dX12_paths_172 rfl ?_
      refine a_iald (pc := 173) dX12_paths_173 rfl h.1.1 h.1.2  ?_
      replace h := h.2
      refine a_aload_n (pc := 174) dX12_paths_174 rfl ?_
      refine a_getr (pc := 175) dX12_paths_175 f_X12_107 rfl ?_
      refine a_iload (pc := 178) dX12_paths_178 rfl ?_
      refine a_iald (pc := 180) dX12_paths_180 rfl h.1.1 h.1.2  ?_
      replace h := h.2
      refine a_callSi (pc := 181) (d := 1) (st := [.inl (M 111 x4), .inl x4, .inr 111]) [.inl (M 109 x3), .inl (M 109 x4)] dX12_paths_181 l_X12_303 st_X12_stepsBetween rfl ⟨Nat.le_of_ble_eq_true rfl, Nat.le_of_ble_eq_true rfl⟩ ⟨Nat.le_of_ble_eq_true rfl, Nat.le_of_ble_eq_true rfl⟩ (Nat.le_of_ble_eq_true rfl) ?_
      have hp181_4 := h.1
      replace h := h.2
      have hp181_5 := h.1
      replace h := h.2
      refine p_X12_stepsBetween hp181_4 hp181_5 ?_
      refine a_callSi (pc := 184) (d := 0) (st := [.inl x4, .inr 111]) [.inl (M 111 x4), .inl (dst (M 109 x3) (M 109 x4))] dX12_paths_184 l_X12_309 st_X12_min rfl ⟨Nat.le_of_ble_eq_true rfl, Nat.le_of_ble_eq_true rfl⟩ ⟨Nat.le_of_ble_eq_true rfl, Nat.le_of_ble_eq_true rfl⟩ (Nat.le_of_ble_eq_true rfl) ?_
      refine p_X12_min ?_
      refine a_iast (pc := 187) dX12_paths_187 rfl h.1.1 h.1.2 ?_
      replace h := h.2
      refine a_iinc (pc := 188) dX12_paths_188 rfl h.1 (Nat.le_of_ble_eq_true rfl) ?_
      replace h := h.2
      refine a_goto (pc := 191) 135 dX12_paths_191 rfl ?_
      exact h
