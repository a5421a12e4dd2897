set_option maxRecDepth 20000 in
theorem s_X11_seasons_0 {Q : Int → Me → Prop}  (a : Int) (M : Me) (h :
    ((1 ≤ a ∧ a ≤ 100 →
    Calls 6 mX10_go [.inr 55, .inr 37, .inl a] M (fun r16 M16 =>
    Q r16 M16)) ∧ (¬ (1 ≤ a ∧ a ≤ 100) →
    Q (-1) M))) :
    Go (km 7 mX11_seasons Q) 0 [some (.inr 0), some (.inl a)] [] M := by
  refine a_iload_n (pc := 0) dX11_seasons_0 rfl ?_
  refine a_callSi (pc := 1) (d := 0) (st := []) [.inl a] dX11_seasons_1 l_X11_148 st_X11_isSpan rfl ⟨Nat.le_of_ble_eq_true rfl, Nat.le_of_ble_eq_true rfl⟩ ⟨Nat.le_of_ble_eq_true rfl, Nat.le_of_ble_eq_true rfl⟩ (Nat.le_of_ble_eq_true rfl) ?_
  refine p_X11_isSpan ⟨fun hc => ?_, fun hc => ?_⟩
  · replace h := h.1 hc
    refine a_if_eq (pc := 4) 22 dX11_seasons_4 rfl ⟨fun hc => absurd hc (by decide), fun _ => ?_⟩
    refine a_aload_n (pc := 7) dX11_seasons_7 rfl ?_
    refine a_getr (pc := 8) dX11_seasons_8 f_X11_64 rfl ?_
    refine a_aload_n (pc := 11) dX11_seasons_11 rfl ?_
    refine a_getr (pc := 12) dX11_seasons_12 f_X11_49 rfl ?_
    refine a_iload_n (pc := 15) dX11_seasons_15 rfl ?_
    refine a_callVi (pc := 16) (d := 6) (st := []) (o := 55) [.inr 37, .inl a] dX11_seasons_16 l_X11_151 in_X10_go se_X10_go rfl rfl rfl ⟨Nat.le_of_ble_eq_true rfl, Nat.le_of_ble_eq_true rfl⟩ ⟨Nat.le_of_ble_eq_true rfl, Nat.le_of_ble_eq_true rfl⟩ (Nat.le_of_ble_eq_true rfl) ?_
    refine Calls.mono (fun r16 M16 hr16 hM16 h => ?_) h
    refine a_goto (pc := 19) 23 dX11_seasons_19 rfl ?_
    exact a_iretI (pc := 23) dX11_seasons_23 rfl h
  · replace h := h.2 hc
    refine a_if_eq (pc := 4) 22 dX11_seasons_4 rfl ⟨fun _ => ?_, fun hc => absurd hc (by decide)⟩
    refine a_iconst (pc := 22) dX11_seasons_22 (cnb rfl) ?_
    exact a_iretI (pc := 23) dX11_seasons_23 rfl h
set_option maxRecDepth 20000 in
theorem e_X11_seasons {Q : Int → Me → Prop}  {a : Int} {M : Me} (h :
    ((1 ≤ a ∧ a ≤ 100 →
    Calls 6 mX10_go [.inr 55, .inr 37, .inl a] M (fun r16 M16 =>
    Q r16 M16)) ∧ (¬ (1 ≤ a ∧ a ≤ 100) →
    Q (-1) M))) : Calls 7 mX11_seasons [.inr 0, .inl a] M Q := Calls.of (by decide) (Nat.le_of_ble_eq_true rfl) (s_X11_seasons_0  a M h)
set_option maxRecDepth 20000 in
theorem s_X12_seasons_0 {Q : Int → Me → Prop}  (a : Int) (M : Me) (h :
    ((1 ≤ a ∧ a ≤ 100 →
    Calls 5 mX12_seasonsGo [.inr 76, .inl a] M (fun r14 M14 =>
    Q (M14 76 44) M14)) ∧ (¬ (1 ≤ a ∧ a ≤ 100) →
    Q (-1) M))) :
    Go (km 6 mX12_seasons Q) 0 [some (.inr 76), some (.inl a)] [] M := by
  refine a_iload_n (pc := 0) dX12_seasons_0 rfl ?_
  refine a_iconst (pc := 1) dX12_seasons_1 (cnb rfl) ?_
  refine a_bipush (pc := 2) dX12_seasons_2 (by decide) (cnb rfl) ?_
  refine a_callSi (pc := 4) (d := 0) (st := []) [.inl a, .inl 1, .inl 100] dX12_seasons_4 l_X12_156 st_X12_in rfl ⟨Nat.le_of_ble_eq_true rfl, Nat.le_of_ble_eq_true rfl⟩ ⟨Nat.le_of_ble_eq_true rfl, Nat.le_of_ble_eq_true rfl⟩ (Nat.le_of_ble_eq_true rfl) ?_
  refine p_X12_in ⟨fun hc => ?_, fun hc => ?_⟩
  · replace h := h.1 hc
    refine a_if_ne (pc := 7) 12 dX12_seasons_7 rfl ⟨fun _ => ?_, fun hc => absurd hc (by decide)⟩
    refine a_aload_n (pc := 12) dX12_seasons_12 rfl ?_
    refine a_iload_n (pc := 13) dX12_seasons_13 rfl ?_
    refine a_callVv (pc := 14) (d := 5) (st := []) (o := 76) [.inl a] dX12_seasons_14 l_X12_343 in_X12_seasonsGo se_X12_seasonsGo rfl rfl rfl ⟨Nat.le_of_ble_eq_true rfl, Nat.le_of_ble_eq_true rfl⟩ ⟨Nat.le_of_ble_eq_true rfl, Nat.le_of_ble_eq_true rfl⟩ (Nat.le_of_ble_eq_true rfl) ?_
    refine Calls.mono (fun r14 M14 hr14 hM14 h => ?_) h
    refine a_aload_n (pc := 17) dX12_seasons_17 rfl ?_
    refine a_geti (pc := 18) 44 dX12_seasons_18 f_X12_312 rfl rfl ?_
    exact a_iretI (pc := 21) dX12_seasons_21 rfl h
  · replace h := h.2 hc
    refine a_if_ne (pc := 7) 12 dX12_seasons_7 rfl ⟨fun hc => absurd hc (by decide), fun _ => ?_⟩
    refine a_iconst (pc := 10) dX12_seasons_10 (cnb rfl) ?_
    exact a_iretI (pc := 11) dX12_seasons_11 rfl h
set_option maxRecDepth 20000 in
theorem e_X12_seasons {Q : Int → Me → Prop}  {a : Int} {M : Me} (h :
    ((1 ≤ a ∧ a ≤ 100 →
    Calls 5 mX12_seasonsGo [.inr 76, .inl a] M (fun r14 M14 =>
    Q (M14 76 44) M14)) ∧ (¬ (1 ≤ a ∧ a ≤ 100) →
    Q (-1) M))) : Calls 6 mX12_seasons [.inr 76, .inl a] M Q := Calls.of (by decide) (Nat.le_of_ble_eq_true rfl) (s_X12_seasons_0  a M h)
set_option maxRecDepth 20000 in
theorem s_X11_tried_0 {Q : Int → Me → Prop}  (a b : Int) (M : Me) (h :
    ((0 ≤ wr (b - 20) ∧ wr (b - 20) < M 3 8 →
    Go (km 7 mX11_tried Q) 39 [some (.inr 0), some (.inl a), some (.inl b), some (.inl 1), none, none] [] M) ∧ (¬ (0 ≤ wr (b - 20) ∧ wr (b - 20) < M 3 8) →
    ((0 ≤ wr (b - 40) ∧ wr (b - 40) < M 3 8 →
    Go (km 7 mX11_tried Q) 39 [some (.inr 0), some (.inl a), some (.inl b), some (.inl 1), none, none] [] M) ∧ (¬ (0 ≤ wr (b - 40) ∧ wr (b - 40) < M 3 8) →
    ((0 ≤ wr (b - 60) ∧ wr (b - 60) < M 3 8 →
    Go (km 7 mX11_tried Q) 39 [some (.inr 0), some (.inl a), some (.inl b), some (.inl 1), none, none] [] M) ∧ (¬ (0 ≤ wr (b - 60) ∧ wr (b - 60) < M 3 8) →
    Go (km 7 mX11_tried Q) 39 [some (.inr 0), some (.inl a), some (.inl b), some (.inl 0), none, none] [] M))))))) :
    Go (km 7 mX11_tried Q) 0 [some (.inr 0), some (.inl a), some (.inl b), none, none, none] [] M := by
  refine a_aload_n (pc := 0) dX11_tried_0 rfl ?_
  refine a_iload_n (pc := 1) dX11_tried_1 rfl ?_
  refine a_bipush (pc := 2) dX11_tried_2 (by decide) (cnb rfl) ?_
  refine a_isubw (pc := 4) dX11_tried_4 ?_
  refine a_callVi (pc := 5) (d := 0) (st := []) (o := 0) [.inl (wr (b - 20))] dX11_tried_5 l_X11_104 in_X11_isCut se_X11_isCut rfl rfl rfl ⟨Nat.le_of_ble_eq_true rfl, Nat.le_of_ble_eq_true rfl⟩ ⟨Nat.le_of_ble_eq_true rfl, Nat.le_of_ble_eq_true rfl⟩ (Nat.le_of_ble_eq_true rfl) ?_
  refine p_X11_isCut ⟨fun hc => ?_, fun hc => ?_⟩
  · replace h := h.1 hc
    refine a_if_ne (pc := 8) 33 dX11_tried_8 rfl ⟨fun _ => ?_, fun hc => absurd hc (by decide)⟩
    refine a_iconst (pc := 33) dX11_tried_33 (cnb rfl) ?_
    refine a_goto (pc := 34) 38 dX11_tried_34 rfl ?_
    refine a_istore_n (pc := 38) dX11_tried_38 (Nat.le_of_ble_eq_true rfl) ?_
    exact h
  · replace h := h.2 hc
    refine a_if_ne (pc := 8) 33 dX11_tried_8 rfl ⟨fun hc => absurd hc (by decide), fun _ => ?_⟩
    refine a_aload_n (pc := 11) dX11_tried_11 rfl ?_
    refine a_iload_n (pc := 12) dX11_tried_12 rfl ?_
    refine a_bipush (pc := 13) dX11_tried_13 (by decide) (cnb rfl) ?_
    refine a_isubw (pc := 15) dX11_tried_15 ?_
    refine a_callVi (pc := 16) (d := 0) (st := []) (o := 0) [.inl (wr (b - 40))] dX11_tried_16 l_X11_104 in_X11_isCut se_X11_isCut rfl rfl rfl ⟨Nat.le_of_ble_eq_true rfl, Nat.le_of_ble_eq_true rfl⟩ ⟨Nat.le_of_ble_eq_true rfl, Nat.le_of_ble_eq_true rfl⟩ (Nat.le_of_ble_eq_true rfl) ?_
    refine p_X11_isCut ⟨fun hc => ?_, fun hc => ?_⟩
    · replace h := h.1 hc
      refine a_if_ne (pc := 19) 33 dX11_tried_19 rfl ⟨fun _ => ?_, fun hc => absurd hc (by decide)⟩
      refine a_iconst (pc := 33) dX11_tried_33 (cnb rfl) ?_
      refine a_goto (pc := 34) 38 dX11_tried_34 rfl ?_
      refine a_istore_n (pc := 38) dX11_tried_38 (Nat.le_of_ble_eq_true rfl) ?_
      exact h
    · replace h := h.2 hc
      refine a_if_ne (pc := 19) 33 dX11_tried_19 rfl ⟨fun hc => absurd hc (by decide), fun _ => ?_⟩
      refine a_aload_n (pc := 22) dX11_tried_22 rfl ?_
      refine a_iload_n (pc := 23) dX11_tried_23 rfl ?_
      refine a_bipush (pc := 24) dX11_tried_24 (by decide) (cnb rfl) ?_
      refine a_isubw (pc := 26) dX11_tried_26 ?_
      refine a_callVi (pc := 27) (d := 0) (st := []) (o := 0) [.inl (wr (b - 60))] dX11_tried_27 l_X11_104 in_X11_isCut se_X11_isCut rfl rfl rfl ⟨Nat.le_of_ble_eq_true rfl, Nat.le_of_ble_eq_true rfl⟩ ⟨Nat.le_of_ble_eq_true rfl, Nat.le_of_ble_eq_true rfl⟩ (Nat.le_of_ble_eq_true rfl) ?_
      refine p_X11_isCut ⟨fun hc => ?_, fun hc => ?_⟩
      · replace h := h.1 hc
        refine a_if_eq (pc := 30) 37 dX11_tried_30 rfl ⟨fun hc => absurd hc (by decide), fun _ => ?_⟩
        refine a_iconst (pc := 33) dX11_tried_33 (cnb rfl) ?_
        refine a_goto (pc := 34) 38 dX11_tried_34 rfl ?_
        refine a_istore_n (pc := 38) dX11_tried_38 (Nat.le_of_ble_eq_true rfl) ?_
        exact h
      · replace h := h.2 hc
        refine a_if_eq (pc := 30) 37 dX11_tried_30 rfl ⟨fun _ => ?_, fun hc => absurd hc (by decide)⟩
        refine a_iconst (pc := 37) dX11_tried_37 (cnb rfl) ?_
        refine a_istore_n (pc := 38) dX11_tried_38 (Nat.le_of_ble_eq_true rfl) ?_
        exact h
set_option maxRecDepth 20000 in
theorem e_X11_tried {Q : Int → Me → Prop}  {a b : Int} {M : Me} (h :
    ((0 ≤ wr (b - 20) ∧ wr (b - 20) < M 3 8 →
    Go (km 7 mX11_tried Q) 39 [some (.inr 0), some (.inl a), some (.inl b), some (.inl 1), none, none] [] M) ∧ (¬ (0 ≤ wr (b - 20) ∧ wr (b - 20) < M 3 8) →
    ((0 ≤ wr (b - 40) ∧ wr (b - 40) < M 3 8 →
    Go (km 7 mX11_tried Q) 39 [some (.inr 0), some (.inl a), some (.inl b), some (.inl 1), none, none] [] M) ∧ (¬ (0 ≤ wr (b - 40) ∧ wr (b - 40) < M 3 8) →
    ((0 ≤ wr (b - 60) ∧ wr (b - 60) < M 3 8 →
    Go (km 7 mX11_tried Q) 39 [some (.inr 0), some (.inl a), some (.inl b), some (.inl 1), none, none] [] M) ∧ (¬ (0 ≤ wr (b - 60) ∧ wr (b - 60) < M 3 8) →
    Go (km 7 mX11_tried Q) 39 [some (.inr 0), some (.inl a), some (.inl b), some (.inl 0), none, none] [] M))))))) : Calls 7 mX11_tried [.inr 0, .inl a, .inl b] M Q := Calls.of (by decide) (Nat.le_of_ble_eq_true rfl) (s_X11_tried_0  a b M h)
set_option maxRecDepth 20000 in
theorem s_X11_tried_39 {Q : Int → Me → Prop}  (x1 x2 x3 : Int) (M : Me) (h :
    ((x2 < 0 →
    Go (km 7 mX11_tried Q) 55 [some (.inr 0), some (.inl x1), some (.inl x2), some (.inl x3), some (.inl 0), none] [] M) ∧ (0 ≤ x2 →
    ((2 < x2 →
    Go (km 7 mX11_tried Q) 55 [some (.inr 0), some (.inl x1), some (.inl x2), some (.inl x3), some (.inl 0), none] [] M) ∧ (x2 ≤ 2 →
    Go (km 7 mX11_tried Q) 55 [some (.inr 0), some (.inl x1), some (.inl x2), some (.inl x3), some (.inl 1), none] [] M))))) :
    Go (km 7 mX11_tried Q) 39 [some (.inr 0), some (.inl x1), some (.inl x2), some (.inl x3), none, none] [] M := by
  refine a_iload_n (pc := 39) dX11_tried_39 rfl ?_
  refine a_if_lt (pc := 40) 52 dX11_tried_40 rfl ⟨fun hc => ?_, fun hc => ?_⟩
  · replace h := h.1 hc
    refine a_iconst (pc := 52) dX11_tried_52 (cnb rfl) ?_
    refine a_istore (pc := 53) dX11_tried_53 (Nat.le_of_ble_eq_true rfl) ?_
    exact h
  · replace h := h.2 hc
    refine a_iload_n (pc := 43) dX11_tried_43 rfl ?_
    refine a_iconst (pc := 44) dX11_tried_44 (cnb rfl) ?_
    refine a_icmp_gt (pc := 45) 52 dX11_tried_45 rfl ⟨fun hc => ?_, fun hc => ?_⟩
    · replace h := h.1 hc
      refine a_iconst (pc := 52) dX11_tried_52 (cnb rfl) ?_
      refine a_istore (pc := 53) dX11_tried_53 (Nat.le_of_ble_eq_true rfl) ?_
      exact h
    · replace h := h.2 hc
      refine a_iconst (pc := 48) dX11_tried_48 (cnb rfl) ?_
      refine a_goto (pc := 49) 53 dX11_tried_49 rfl ?_
      refine a_istore (pc := 53) dX11_tried_53 (Nat.le_of_ble_eq_true rfl) ?_
      exact h
set_option maxRecDepth 20000 in
theorem s_X11_tried_55 {Q : Int → Me → Prop}  (x1 x2 x3 x4 : Int) (M : Me) (h :
    ((1 ≤ x1 ∧ x1 ≤ 100 →
    ((x3 ≠ 0 →
    Go (km 7 mX11_tried Q) 73 [some (.inr 0), some (.inl x1), some (.inl x2), none, some (.inl x4), none] [] M) ∧ (x3 = 0 →
    ((x4 ≠ 0 →
    Go (km 7 mX11_tried Q) 73 [some (.inr 0), some (.inl x1), some (.inl x2), none, some (.inl x4), none] [] M) ∧ (x4 = 0 →
    Q (-1) M))))) ∧ (¬ (1 ≤ x1 ∧ x1 ≤ 100) →
    Q (-1) M))) :
    Go (km 7 mX11_tried Q) 55 [some (.inr 0), some (.inl x1), some (.inl x2), some (.inl x3), some (.inl x4), none] [] M := by
  refine a_iload_n (pc := 55) dX11_tried_55 rfl ?_
  refine a_callSi (pc := 56) (d := 0) (st := []) [.inl x1] dX11_tried_56 l_X11_148 st_X11_isSpan rfl ⟨Nat.le_of_ble_eq_true rfl, Nat.le_of_ble_eq_true rfl⟩ ⟨Nat.le_of_ble_eq_true rfl, Nat.le_of_ble_eq_true rfl⟩ (Nat.le_of_ble_eq_true rfl) ?_
  refine p_X11_isSpan ⟨fun hc => ?_, fun hc => ?_⟩
  · replace h := h.1 hc
    refine a_if_eq (pc := 59) 71 dX11_tried_59 rfl ⟨fun hc => absurd hc (by decide), fun _ => ?_⟩
    refine a_iload_n (pc := 62) dX11_tried_62 rfl ?_
    refine a_if_ne (pc := 63) 73 dX11_tried_63 rfl ⟨fun hc => ?_, fun hc => ?_⟩
    · replace h := h.1 hc
      exact Go.weak h (And.intro rfl (And.intro rfl (And.intro rfl (And.intro rfl True.intro))))
    · replace h := h.2 hc
      refine a_iload (pc := 66) dX11_tried_66 rfl ?_
      refine a_if_ne (pc := 68) 73 dX11_tried_68 rfl ⟨fun hc => ?_, fun hc => ?_⟩
      · replace h := h.1 hc
        exact Go.weak h (And.intro rfl (And.intro rfl (And.intro rfl (And.intro rfl True.intro))))
      · replace h := h.2 hc
        refine a_iconst (pc := 71) dX11_tried_71 (cnb rfl) ?_
        exact a_iretI (pc := 72) dX11_tried_72 rfl h
  · replace h := h.2 hc
    refine a_if_eq (pc := 59) 71 dX11_tried_59 rfl ⟨fun _ => ?_, fun hc => absurd hc (by decide)⟩
    refine a_iconst (pc := 71) dX11_tried_71 (cnb rfl) ?_
    exact a_iretI (pc := 72) dX11_tried_72 rfl h
set_option maxRecDepth 20000 in
theorem s_X11_tried_73 {Q : Int → Me → Prop}  (x1 x2 x4 : Int) (M : Me) (h :
    Calls 1 mX8_copyOf [.inr 49, .inr 37, .inl (M 3 8)] M (fun r88 M88 =>
    Calls 6 mX10_go [.inr 55, .inr 49, .inl x1] M88 (fun r100 M100 =>
    ((x2 ≠ 0 →
    ((x4 = 0 →
    ((0 ≤ wr (x2 - 20) ∧ wr (x2 - 20) < M100 3 8 →
    (0 ≤ wr (x2 - 20) ∧ wr (x2 - 20) < 16) ∧
    Q (M100 51 (wr (x2 - 20))) M100) ∧ (¬ (0 ≤ wr (x2 - 20) ∧ wr (x2 - 20) < M100 3 8) →
    ((0 ≤ wr (x2 - 40) ∧ wr (x2 - 40) < M100 3 8 →
    (0 ≤ wr (x2 - 40) ∧ wr (x2 - 40) < 16) ∧
    Q (M100 52 (wr (x2 - 40))) M100) ∧ (¬ (0 ≤ wr (x2 - 40) ∧ wr (x2 - 40) < M100 3 8) →
    (0 ≤ wr (x2 - 60) ∧ wr (x2 - 60) < 16) ∧
    Q (M100 50 (wr (x2 - 60))) M100))))) ∧ (x4 ≠ 0 →
    ((x2 ≠ 1 →
    Calls 0 mX8_bitsOf [.inr 49, .inl 4, .inl (M100 3 8)] M100 (fun r138 M138 =>
    Q r138 M138)) ∧ (x2 = 1 →
    Calls 0 mX8_bitsOf [.inr 49, .inl 3, .inl (M100 3 8)] M100 (fun r138 M138 =>
    Q r138 M138)))))) ∧ (x2 = 0 →
    Q r100 M100))))) :
    Go (km 7 mX11_tried Q) 73 [some (.inr 0), some (.inl x1), some (.inl x2), none, some (.inl x4), none] [] M := by
  refine a_aload_n (pc := 73) dX11_tried_73 rfl ?_
  refine a_getr (pc := 74) dX11_tried_74 f_X11_56 rfl ?_
  refine a_aload_n (pc := 77) dX11_tried_77 rfl ?_
  refine a_getr (pc := 78) dX11_tried_78 f_X11_49 rfl ?_
  refine a_aload_n (pc := 81) dX11_tried_81 rfl ?_
  refine a_getr (pc := 82) dX11_tried_82 f_X11_19 rfl ?_
  refine a_geti (pc := 85) 8 dX11_tried_85 f_X11_155 rfl rfl ?_
  refine a_callVv (pc := 88) (d := 1) (st := []) (o := 49) [.inr 37, .inl (M 3 8)] dX11_tried_88 l_X11_156 in_X8_copyOf se_X8_copyOf rfl rfl rfl ⟨Nat.le_of_ble_eq_true rfl, Nat.le_of_ble_eq_true rfl⟩ ⟨Nat.le_of_ble_eq_true rfl, Nat.le_of_ble_eq_true rfl⟩ (Nat.le_of_ble_eq_true rfl) ?_
  refine Calls.mono (fun r88 M88 hr88 hM88 h => ?_) h
  refine a_aload_n (pc := 91) dX11_tried_91 rfl ?_
  refine a_getr (pc := 92) dX11_tried_92 f_X11_64 rfl ?_
  refine a_aload_n (pc := 95) dX11_tried_95 rfl ?_
  refine a_getr (pc := 96) dX11_tried_96 f_X11_56 rfl ?_
  refine a_iload_n (pc := 99) dX11_tried_99 rfl ?_
  refine a_callVi (pc := 100) (d := 6) (st := []) (o := 55) [.inr 49, .inl x1] dX11_tried_100 l_X11_151 in_X10_go se_X10_go rfl rfl rfl ⟨Nat.le_of_ble_eq_true rfl, Nat.le_of_ble_eq_true rfl⟩ ⟨Nat.le_of_ble_eq_true rfl, Nat.le_of_ble_eq_true rfl⟩ (Nat.le_of_ble_eq_true rfl) ?_
  refine Calls.mono (fun r100 M100 hr100 hM100 h => ?_) h
  refine a_istore (pc := 103) dX11_tried_103 (Nat.le_of_ble_eq_true rfl) ?_
  refine a_iload_n (pc := 105) dX11_tried_105 rfl ?_
  refine a_if_ne (pc := 106) 112 dX11_tried_106 rfl ⟨fun hc => ?_, fun hc => ?_⟩
  · replace h := h.1 hc
    refine a_iload (pc := 112) dX11_tried_112 rfl ?_
    refine a_if_eq (pc := 114) 142 dX11_tried_114 rfl ⟨fun hc => ?_, fun hc => ?_⟩
    · replace h := h.1 hc
      refine a_aload_n (pc := 142) dX11_tried_142 rfl ?_
      refine a_iload_n (pc := 143) dX11_tried_143 rfl ?_
      refine a_bipush (pc := 144) dX11_tried_144 (by decide) (cnb rfl) ?_
      refine a_isubw (pc := 146) dX11_tried_146 ?_
      refine a_callVi (pc := 147) (d := 0) (st := []) (o := 0) [.inl (wr (x2 - 20))] dX11_tried_147 l_X11_104 in_X11_isCut se_X11_isCut rfl rfl rfl ⟨Nat.le_of_ble_eq_true rfl, Nat.le_of_ble_eq_true rfl⟩ ⟨Nat.le_of_ble_eq_true rfl, Nat.le_of_ble_eq_true rfl⟩ (Nat.le_of_ble_eq_true rfl) ?_
      refine p_X11_isCut ⟨fun hc => ?_, fun hc => ?_⟩
      · replace h := h.1 hc
        refine a_if_eq (pc := 150) 166 dX11_tried_150 rfl ⟨fun hc => absurd hc (by decide), fun _ => ?_⟩
        refine a_aload_n (pc := 153) dX11_tried_153 rfl ?_
        refine a_getr (pc := 154) dX11_tried_154 f_X11_56 rfl ?_
        refine a_getr (pc := 157) dX11_tried_157 f_X11_163 rfl ?_
        refine a_iload_n (pc := 160) dX11_tried_160 rfl ?_
        refine a_bipush (pc := 161) dX11_tried_161 (by decide) (cnb rfl) ?_
        refine a_isubw (pc := 163) dX11_tried_163 ?_
        refine a_iald (pc := 164) dX11_tried_164 rfl h.1.1 h.1.2  ?_
        replace h := h.2
        exact a_iretI (pc := 165) dX11_tried_165 rfl h
      · replace h := h.2 hc
        refine a_if_eq (pc := 150) 166 dX11_tried_150 rfl ⟨fun _ => ?_, fun hc => absurd hc (by decide)⟩
        refine a_aload_n (pc := 166) dX11_tried_166 rfl ?_
        refine a_iload_n (pc := 167) dX11_tried_167 rfl ?_
        refine a_bipush (pc := 168) dX11_tried_168 (by decide) (cnb rfl) ?_
        refine a_isubw (pc := 170) dX11_tried_170 ?_
        refine a_callVi (pc := 171) (d := 0) (st := []) (o := 0) [.inl (wr (x2 - 40))] dX11_tried_171 l_X11_104 in_X11_isCut se_X11_isCut rfl rfl rfl ⟨Nat.le_of_ble_eq_true rfl, Nat.le_of_ble_eq_true rfl⟩ ⟨Nat.le_of_ble_eq_true rfl, Nat.le_of_ble_eq_true rfl⟩ (Nat.le_of_ble_eq_true rfl) ?_
        refine p_X11_isCut ⟨fun hc => ?_, fun hc => ?_⟩
        · replace h := h.1 hc
          refine a_if_eq (pc := 174) 192 dX11_tried_174 rfl ⟨fun hc => absurd hc (by decide), fun _ => ?_⟩
          refine a_aload_n (pc := 177) dX11_tried_177 rfl ?_
          refine a_getr (pc := 178) dX11_tried_178 f_X11_56 rfl ?_
          refine a_getr (pc := 181) dX11_tried_181 f_X11_166 rfl ?_
          refine a_iload_n (pc := 184) dX11_tried_184 rfl ?_
          refine a_bipush (pc := 185) dX11_tried_185 (by decide) (cnb rfl) ?_
          refine a_isubw (pc := 187) dX11_tried_187 ?_
          refine a_iald (pc := 188) dX11_tried_188 rfl h.1.1 h.1.2  ?_
          replace h := h.2
          refine a_goto (pc := 189) 204 dX11_tried_189 rfl ?_
          exact a_iretI (pc := 204) dX11_tried_204 rfl h
        · replace h := h.2 hc
          refine a_if_eq (pc := 174) 192 dX11_tried_174 rfl ⟨fun _ => ?_, fun hc => absurd hc (by decide)⟩
          refine a_aload_n (pc := 192) dX11_tried_192 rfl ?_
          refine a_getr (pc := 193) dX11_tried_193 f_X11_56 rfl ?_
          refine a_getr (pc := 196) dX11_tried_196 f_X11_169 rfl ?_
          refine a_iload_n (pc := 199) dX11_tried_199 rfl ?_
          refine a_bipush (pc := 200) dX11_tried_200 (by decide) (cnb rfl) ?_
          refine a_isubw (pc := 202) dX11_tried_202 ?_
          refine a_iald (pc := 203) dX11_tried_203 rfl h.1.1 h.1.2  ?_
          replace h := h.2
          exact a_iretI (pc := 204) dX11_tried_204 rfl h
    · replace h := h.2 hc
      refine a_aload_n (pc := 117) dX11_tried_117 rfl ?_
      refine a_getr (pc := 118) dX11_tried_118 f_X11_56 rfl ?_
      refine a_iload_n (pc := 121) dX11_tried_121 rfl ?_
      refine a_iconst (pc := 122) dX11_tried_122 (cnb rfl) ?_
      refine a_icmp_ne (pc := 123) 130 dX11_tried_123 rfl ⟨fun hc => ?_, fun hc => ?_⟩
      · replace h := h.1 hc
        refine a_iconst (pc := 130) dX11_tried_130 (cnb rfl) ?_
        refine a_aload_n (pc := 131) dX11_tried_131 rfl ?_
        refine a_getr (pc := 132) dX11_tried_132 f_X11_19 rfl ?_
        refine a_geti (pc := 135) 8 dX11_tried_135 f_X11_155 rfl rfl ?_
        refine a_callVi (pc := 138) (d := 0) (st := []) (o := 49) [.inl 4, .inl (M100 3 8)] dX11_tried_138 l_X11_159 in_X8_bitsOf se_X8_bitsOf rfl rfl rfl ⟨Nat.le_of_ble_eq_true rfl, Nat.le_of_ble_eq_true rfl⟩ ⟨Nat.le_of_ble_eq_true rfl, Nat.le_of_ble_eq_true rfl⟩ (Nat.le_of_ble_eq_true rfl) ?_
        refine Calls.mono (fun r138 M138 hr138 hM138 h => ?_) h
        exact a_iretI (pc := 141) dX11_tried_141 rfl h
      · replace h := h.2 hc
        refine a_iconst (pc := 126) dX11_tried_126 (cnb rfl) ?_
        refine a_goto (pc := 127) 131 dX11_tried_127 rfl ?_
        refine a_aload_n (pc := 131) dX11_tried_131 rfl ?_
        refine a_getr (pc := 132) dX11_tried_132 f_X11_19 rfl ?_
        refine a_geti (pc := 135) 8 dX11_tried_135 f_X11_155 rfl rfl ?_
        refine a_callVi (pc := 138) (d := 0) (st := []) (o := 49) [.inl 3, .inl (M100 3 8)] dX11_tried_138 l_X11_159 in_X8_bitsOf se_X8_bitsOf rfl rfl rfl ⟨Nat.le_of_ble_eq_true rfl, Nat.le_of_ble_eq_true rfl⟩ ⟨Nat.le_of_ble_eq_true rfl, Nat.le_of_ble_eq_true rfl⟩ (Nat.le_of_ble_eq_true rfl) ?_
        refine Calls.mono (fun r138 M138 hr138 hM138 h => ?_) h
        exact a_iretI (pc := 141) dX11_tried_141 rfl h
  · replace h := h.2 hc
    refine a_iload (pc := 109) dX11_tried_109 rfl ?_
    exact a_iretI (pc := 111) dX11_tried_111 rfl h
set_option maxRecDepth 20000 in
theorem s_X12_tried_0 {Q : Int → Me → Prop}  (a b : Int) (M : Me) (h :
    ((1 ≤ a ∧ a ≤ 100 →
    ((0 ≤ b ∧ b ≤ 2 →
    Go (km 6 mX12_tried Q) 54 [some (.inr 76), some (.inl a), some (.inl b), none] [] M) ∧ (¬ (0 ≤ b ∧ b ≤ 2) →
    0 ≤ M 76 11 ∧
    ((0 ≤ wr (b - 20) ∧ wr (b - 20) < M 76 11 →
    Go (km 6 mX12_tried Q) 54 [some (.inr 76), some (.inl a), some (.inl b), none] [] M) ∧ (¬ (0 ≤ wr (b - 20) ∧ wr (b - 20) < M 76 11) →
    0 ≤ M 76 11 ∧
    ((0 ≤ wr (b - 40) ∧ wr (b - 40) < M 76 11 →
    Go (km 6 mX12_tried Q) 54 [some (.inr 76), some (.inl a), some (.inl b), none] [] M) ∧ (¬ (0 ≤ wr (b - 40) ∧ wr (b - 40) < M 76 11) →
    0 ≤ M 76 11 ∧
    ((0 ≤ wr (b - 60) ∧ wr (b - 60) < M 76 11 →
    Go (km 6 mX12_tried Q) 54 [some (.inr 76), some (.inl a), some (.inl b), none] [] M) ∧ (¬ (0 ≤ wr (b - 60) ∧ wr (b - 60) < M 76 11) →
    Q (-1) M))))))))) ∧ (¬ (1 ≤ a ∧ a ≤ 100) →
    Q (-1) M))) :
    Go (km 6 mX12_tried Q) 0 [some (.inr 76), some (.inl a), some (.inl b), none] [] M := by
  refine a_iload_n (pc := 0) dX12_tried_0 rfl ?_
  refine a_iconst (pc := 1) dX12_tried_1 (cnb rfl) ?_
  refine a_bipush (pc := 2) dX12_tried_2 (by decide) (cnb rfl) ?_
  refine a_callSi (pc := 4) (d := 0) (st := []) [.inl a, .inl 1, .inl 100] dX12_tried_4 l_X12_156 st_X12_in rfl ⟨Nat.le_of_ble_eq_true rfl, Nat.le_of_ble_eq_true rfl⟩ ⟨Nat.le_of_ble_eq_true rfl, Nat.le_of_ble_eq_true rfl⟩ (Nat.le_of_ble_eq_true rfl) ?_
  refine p_X12_in ⟨fun hc => ?_, fun hc => ?_⟩
  · replace h := h.1 hc
    refine a_if_eq (pc := 7) 52 dX12_tried_7 rfl ⟨fun hc => absurd hc (by decide), fun _ => ?_⟩
    refine a_iload_n (pc := 10) dX12_tried_10 rfl ?_
    refine a_iconst (pc := 11) dX12_tried_11 (cnb rfl) ?_
    refine a_iconst (pc := 12) dX12_tried_12 (cnb rfl) ?_
    refine a_callSi (pc := 13) (d := 0) (st := []) [.inl b, .inl 0, .inl 2] dX12_tried_13 l_X12_156 st_X12_in rfl ⟨Nat.le_of_ble_eq_true rfl, Nat.le_of_ble_eq_true rfl⟩ ⟨Nat.le_of_ble_eq_true rfl, Nat.le_of_ble_eq_true rfl⟩ (Nat.le_of_ble_eq_true rfl) ?_
    refine p_X12_in ⟨fun hc => ?_, fun hc => ?_⟩
    · replace h := h.1 hc
      refine a_if_ne (pc := 16) 54 dX12_tried_16 rfl ⟨fun _ => ?_, fun hc => absurd hc (by decide)⟩
      exact h
    · replace h := h.2 hc
      refine a_if_ne (pc := 16) 54 dX12_tried_16 rfl ⟨fun hc => absurd hc (by decide), fun _ => ?_⟩
      refine a_aload_n (pc := 19) dX12_tried_19 rfl ?_
      refine a_iload_n (pc := 20) dX12_tried_20 rfl ?_
      refine a_bipush (pc := 21) dX12_tried_21 (by decide) (cnb rfl) ?_
      refine a_isubw (pc := 23) dX12_tried_23 ?_
      refine a_callVi (pc := 24) (d := 1) (st := []) (o := 76) [.inl (wr (b - 20))] dX12_tried_24 l_X12_164 in_X12_isCut se_X12_isCut rfl rfl rfl ⟨Nat.le_of_ble_eq_true rfl, Nat.le_of_ble_eq_true rfl⟩ ⟨Nat.le_of_ble_eq_true rfl, Nat.le_of_ble_eq_true rfl⟩ (Nat.le_of_ble_eq_true rfl) ?_
      have hp24_1 := h.1
      replace h := h.2
      refine p_X12_isCut hp24_1 ⟨fun hc => ?_, fun hc => ?_⟩
      · replace h := h.1 hc
        refine a_if_ne (pc := 27) 54 dX12_tried_27 rfl ⟨fun _ => ?_, fun hc => absurd hc (by decide)⟩
        exact h
      · replace h := h.2 hc
        refine a_if_ne (pc := 27) 54 dX12_tried_27 rfl ⟨fun hc => absurd hc (by decide), fun _ => ?_⟩
        refine a_aload_n (pc := 30) dX12_tried_30 rfl ?_
        refine a_iload_n (pc := 31) dX12_tried_31 rfl ?_
        refine a_bipush (pc := 32) dX12_tried_32 (by decide) (cnb rfl) ?_
        refine a_isubw (pc := 34) dX12_tried_34 ?_
        refine a_callVi (pc := 35) (d := 1) (st := []) (o := 76) [.inl (wr (b - 40))] dX12_tried_35 l_X12_164 in_X12_isCut se_X12_isCut rfl rfl rfl ⟨Nat.le_of_ble_eq_true rfl, Nat.le_of_ble_eq_true rfl⟩ ⟨Nat.le_of_ble_eq_true rfl, Nat.le_of_ble_eq_true rfl⟩ (Nat.le_of_ble_eq_true rfl) ?_
        have hp35_1 := h.1
        replace h := h.2
        refine p_X12_isCut hp35_1 ⟨fun hc => ?_, fun hc => ?_⟩
        · replace h := h.1 hc
          refine a_if_ne (pc := 38) 54 dX12_tried_38 rfl ⟨fun _ => ?_, fun hc => absurd hc (by decide)⟩
          exact h
        · replace h := h.2 hc
          refine a_if_ne (pc := 38) 54 dX12_tried_38 rfl ⟨fun hc => absurd hc (by decide), fun _ => ?_⟩
          refine a_aload_n (pc := 41) dX12_tried_41 rfl ?_
          refine a_iload_n (pc := 42) dX12_tried_42 rfl ?_
          refine a_bipush (pc := 43) dX12_tried_43 (by decide) (cnb rfl) ?_
          refine a_isubw (pc := 45) dX12_tried_45 ?_
          refine a_callVi (pc := 46) (d := 1) (st := []) (o := 76) [.inl (wr (b - 60))] dX12_tried_46 l_X12_164 in_X12_isCut se_X12_isCut rfl rfl rfl ⟨Nat.le_of_ble_eq_true rfl, Nat.le_of_ble_eq_true rfl⟩ ⟨Nat.le_of_ble_eq_true rfl, Nat.le_of_ble_eq_true rfl⟩ (Nat.le_of_ble_eq_true rfl) ?_
          have hp46_1 := h.1
          replace h := h.2
          refine p_X12_isCut hp46_1 ⟨fun hc => ?_, fun hc => ?_⟩
          · replace h := h.1 hc
            refine a_if_ne (pc := 49) 54 dX12_tried_49 rfl ⟨fun _ => ?_, fun hc => absurd hc (by decide)⟩
            exact h
          · replace h := h.2 hc
            refine a_if_ne (pc := 49) 54 dX12_tried_49 rfl ⟨fun hc => absurd hc (by decide), fun _ => ?_⟩
            refine a_iconst (pc := 52) dX12_tried_52 (cnb rfl) ?_
            exact a_iretI (pc := 53) dX12_tried_53 rfl h
  · replace h := h.2 hc
    refine a_if_eq (pc := 7) 52 dX12_tried_7 rfl ⟨fun _ => ?_, fun hc => absurd hc (by decide)⟩
    refine a_iconst (pc := 52) dX12_tried_52 (cnb rfl) ?_
    exact a_iretI (pc := 53) dX12_tried_53 rfl h
set_option maxRecDepth 20000 in
theorem e_X12_tried {Q : Int → Me → Prop}  {a b : Int} {M : Me} (h :
    ((1 ≤ a ∧ a ≤ 100 →
    ((0 ≤ b ∧ b ≤ 2 →
    Go (km 6 mX12_tried Q) 54 [some (.inr 76), some (.inl a), some (.inl b), none] [] M) ∧ (¬ (0 ≤ b ∧ b ≤ 2) →
    0 ≤ M 76 11 ∧
    ((0 ≤ wr (b - 20) ∧ wr (b - 20) < M 76 11 →
    Go (km 6 mX12_tried Q) 54 [some (.inr 76), some (.inl a), some (.inl b), none] [] M) ∧ (¬ (0 ≤ wr (b - 20) ∧ wr (b - 20) < M 76 11) →
    0 ≤ M 76 11 ∧
    ((0 ≤ wr (b - 40) ∧ wr (b - 40) < M 76 11 →
    Go (km 6 mX12_tried Q) 54 [some (.inr 76), some (.inl a), some (.inl b), none] [] M) ∧ (¬ (0 ≤ wr (b - 40) ∧ wr (b - 40) < M 76 11) →
    0 ≤ M 76 11 ∧
    ((0 ≤ wr (b - 60) ∧ wr (b - 60) < M 76 11 →
    Go (km 6 mX12_tried Q) 54 [some (.inr 76), some (.inl a), some (.inl b), none] [] M) ∧ (¬ (0 ≤ wr (b - 60) ∧ wr (b - 60) < M 76 11) →
    Q (-1) M))))))))) ∧ (¬ (1 ≤ a ∧ a ≤ 100) →
    Q (-1) M))) : Calls 6 mX12_tried [.inr 76, .inl a, .inl b] M Q := Calls.of (by decide) (Nat.le_of_ble_eq_true rfl) (s_X12_tried_0  a b M h)
set_option maxRecDepth 20000 in
theorem s_X12_tried_54 {Q : Int → Me → Prop}  (x1 x2 : Int) (M : Me) (h :
    Calls 0 mX12_copies [.inr 77, .inr 78] M (fun r62 M62 =>
    Calls 5 mX12_seasonsGo [.inr 76, .inl x1] M62 (fun r67 M67 =>
    ((x2 < 0 ∨ 2 < x2 →
    ((40 ≤ x2 →
    ((60 ≤ x2 →
    (0 ≤ wr ((wr (0 + x2)) - 60) ∧ wr ((wr (0 + x2)) - 60) < 82) ∧
    Calls 0 mX12_copies [.inr 78, .inr 77] M67 (fun r184 M184 =>
    Q (M67 77 (wr ((wr (0 + x2)) - 60))) M184)) ∧ (x2 < 60 →
    (0 ≤ wr ((wr (32 + x2)) - 40) ∧ wr ((wr (32 + x2)) - 40) < 82) ∧
    Calls 0 mX12_copies [.inr 78, .inr 77] M67 (fun r184 M184 =>
    Q (M67 77 (wr ((wr (32 + x2)) - 40))) M184)))) ∧ (x2 < 40 →
    (0 ≤ wr ((wr (16 + x2)) - 20) ∧ wr ((wr (16 + x2)) - 20) < 82) ∧
    Calls 0 mX12_copies [.inr 78, .inr 77] M67 (fun r184 M184 =>
    Q (M67 77 (wr ((wr (16 + x2)) - 20))) M184)))) ∧
    ((x2 = 0 →
    Calls 0 mX12_copies [.inr 78, .inr 77] M67 (fun r184 M184 =>
    Q (M67 76 44) M184)) ∧
    ((x2 = 1 →
    Calls 0 mX12_setOf [.inr 76, .inl 3] M67 (fun r106 M106 =>
    Calls 0 mX12_copies [.inr 78, .inr 77] M106 (fun r184 M184 =>
    Q r106 M184))) ∧
    (x2 = 2 →
    Calls 0 mX12_setOf [.inr 76, .inl 4] M67 (fun r115 M115 =>
    Calls 0 mX12_copies [.inr 78, .inr 77] M115 (fun r184 M184 =>
    Q r115 M184))))))))) :
    Go (km 6 mX12_tried Q) 54 [some (.inr 76), some (.inl x1), some (.inl x2), none] [] M := by
  refine a_aload_n (pc := 54) dX12_tried_54 rfl ?_
  refine a_getr (pc := 55) dX12_tried_55 f_X12_7 rfl ?_
  refine a_aload_n (pc := 58) dX12_tried_58 rfl ?_
  refine a_getr (pc := 59) dX12_tried_59 f_X12_13 rfl ?_
  refine a_callSv (pc := 62) (d := 0) (st := []) [.inr 77, .inr 78] dX12_tried_62 l_X12_346 st_X12_copies rfl ⟨Nat.le_of_ble_eq_true rfl, Nat.le_of_ble_eq_true rfl⟩ ⟨Nat.le_of_ble_eq_true rfl, Nat.le_of_ble_eq_true rfl⟩ (Nat.le_of_ble_eq_true rfl) ?_
  refine Calls.mono (fun r62 M62 hr62 hM62 h => ?_) h
  refine a_aload_n (pc := 65) dX12_tried_65 rfl ?_
  refine a_iload_n (pc := 66) dX12_tried_66 rfl ?_
  refine a_callVv (pc := 67) (d := 5) (st := []) (o := 76) [.inl x1] dX12_tried_67 l_X12_343 in_X12_seasonsGo se_X12_seasonsGo rfl rfl rfl ⟨Nat.le_of_ble_eq_true rfl, Nat.le_of_ble_eq_true rfl⟩ ⟨Nat.le_of_ble_eq_true rfl, Nat.le_of_ble_eq_true rfl⟩ (Nat.le_of_ble_eq_true rfl) ?_
  refine Calls.mono (fun r67 M67 hr67 hM67 h => ?_) h
  refine a_iload_n (pc := 70) dX12_tried_70 rfl ?_
  by_cases ho_71 : x2 < 0 ∨ 2 < x2
  · replace h := h.1 ho_71
    refine a_tableOut 122 dX12_tried_71 ho_71 rfl ?_
    refine a_iload_n (pc := 122) dX12_tried_122 rfl ?_
    refine a_bipush (pc := 123) dX12_tried_123 (by decide) (cnb rfl) ?_
    refine a_icmp_ge (pc := 125) 143 dX12_tried_125 rfl ⟨fun hc => ?_, fun hc => ?_⟩
    · replace h := h.1 hc
      refine a_iload_n (pc := 143) dX12_tried_143 rfl ?_
      refine a_bipush (pc := 144) dX12_tried_144 (by decide) (cnb rfl) ?_
      refine a_icmp_ge (pc := 146) 164 dX12_tried_146 rfl ⟨fun hc => ?_, fun hc => ?_⟩
      · replace h := h.1 hc
        refine a_aload_n (pc := 164) dX12_tried_164 rfl ?_
        refine a_getr (pc := 165) dX12_tried_165 f_X12_7 rfl ?_
        refine a_iconst (pc := 168) dX12_tried_168 (cnb rfl) ?_
        refine a_iload_n (pc := 169) dX12_tried_169 rfl ?_
        refine a_iaddw (pc := 170) dX12_tried_170 ?_
        refine a_bipush (pc := 171) dX12_tried_171 (by decide) (cnb rfl) ?_
        refine a_isubw (pc := 173) dX12_tried_173 ?_
        refine a_iald (pc := 174) dX12_tried_174 rfl h.1.1 h.1.2  ?_
        replace h := h.2
        refine a_istore_n (pc := 175) dX12_tried_175 (Nat.le_of_ble_eq_true rfl) ?_
        refine a_aload_n (pc := 176) dX12_tried_176 rfl ?_
        refine a_getr (pc := 177) dX12_tried_177 f_X12_13 rfl ?_
        refine a_aload_n (pc := 180) dX12_tried_180 rfl ?_
        refine a_getr (pc := 181) dX12_tried_181 f_X12_7 rfl ?_
        refine a_callSv (pc := 184) (d := 0) (st := []) [.inr 78, .inr 77] dX12_tried_184 l_X12_346 st_X12_copies rfl ⟨Nat.le_of_ble_eq_true rfl, Nat.le_of_ble_eq_true rfl⟩ ⟨Nat.le_of_ble_eq_true rfl, Nat.le_of_ble_eq_true rfl⟩ (Nat.le_of_ble_eq_true rfl) ?_
        refine Calls.mono (fun r184 M184 hr184 hM184 h => ?_) h
        refine a_iload_n (pc := 187) dX12_tried_187 rfl ?_
        exact a_iretI (pc := 188) dX12_tried_188 rfl h
      · replace h := h.2 hc
        refine a_aload_n (pc := 149) dX12_tried_149 rfl ?_
        refine a_getr (pc := 150) dX12_tried_150 f_X12_7 rfl ?_
        refine a_bipush (pc := 153) dX12_tried_153 (by decide) (cnb rfl) ?_
        refine a_iload_n (pc := 155) dX12_tried_155 rfl ?_
        refine a_iaddw (pc := 156) dX12_tried_156 ?_
        refine a_bipush (pc := 157) dX12_tried_157 (by decide) (cnb rfl) ?_
        refine a_isubw (pc := 159) dX12_tried_159 ?_
        refine a_iald (pc := 160) dX12_tried_160 rfl h.1.1 h.1.2  ?_
        replace h := h.2
        refine a_goto (pc := 161) 175 dX12_tried_161 rfl ?_
        refine a_istore_n (pc := 175) dX12_tried_175 (Nat.le_of_ble_eq_true rfl) ?_
        refine a_aload_n (pc := 176) dX12_tried_176 rfl ?_
        refine a_getr (pc := 177) dX12_tried_177 f_X12_13 rfl ?_
        refine a_aload_n (pc := 180) dX12_tried_180 rfl ?_
        refine a_getr (pc := 181) dX12_tried_181 f_X12_7 rfl ?_
        refine a_callSv (pc := 184) (d := 0) (st := []) [.inr 78, .inr 77] dX12_tried_184 l_X12_346 st_X12_copies rfl ⟨Nat.le_of_ble_eq_true rfl, Nat.le_of_ble_eq_true rfl⟩ ⟨Nat.le_of_ble_eq_true rfl, Nat.le_of_ble_eq_true rfl⟩ (Nat.le_of_ble_eq_true rfl) ?_
        refine Calls.mono (fun r184 M184 hr184 hM184 h => ?_) h
        refine a_iload_n (pc := 187) dX12_tried_187 rfl ?_
        exact a_iretI (pc := 188) dX12_tried_188 rfl h
    · replace h := h.2 hc
      refine a_aload_n (pc := 128) dX12_tried_128 rfl ?_
      refine a_getr (pc := 129) dX12_tried_129 f_X12_7 rfl ?_
      refine a_bipush (pc := 132) dX12_tried_132 (by decide) (cnb rfl) ?_
      refine a_iload_n (pc := 134) dX12_tried_134 rfl ?_
      refine a_iaddw (pc := 135) dX12_tried_135 ?_
      refine a_bipush (pc := 136) dX12_tried_136 (by decide) (cnb rfl) ?_
      refine a_isubw (pc := 138) dX12_tried_138 ?_
      refine a_iald (pc := 139) dX12_tried_139 rfl h.1.1 h.1.2  ?_
      replace h := h.2
      refine a_goto (pc := 140) 175 dX12_tried_140 rfl ?_
      refine a_istore_n (pc := 175) dX12_tried_175 (Nat.le_of_ble_eq_true rfl) ?_
      refine a_aload_n (pc := 176) dX12_tried_176 rfl ?_
      refine a_getr (pc := 177) dX12_tried_177 f_X12_13 rfl ?_
      refine a_aload_n (pc := 180) dX12_tried_180 rfl ?_
      refine a_getr (pc := 181) dX12_tried_181 f_X12_7 rfl ?_
      refine a_callSv (pc := 184) (d := 0) (st := []) [.inr 78, .inr 77] dX12_tried_184 l_X12_346 st_X12_copies rfl ⟨Nat.le_of_ble_eq_true rfl, Nat.le_of_ble_eq_true rfl⟩ ⟨Nat.le_of_ble_eq_true rfl, Nat.le_of_ble_eq_true rfl⟩ (Nat.le_of_ble_eq_true rfl) ?_
      refine Calls.mono (fun r184 M184 hr184 hM184 h => ?_) h
      refine a_iload_n (pc := 187) dX12_tried_187 rfl ?_
      exact a_iretI (pc := 188) dX12_tried_188 rfl h
  · replace h := h.2
    by_cases he_71_0 : x2 = 0
    · replace h := h.1 he_71_0
      refine a_tableIn 96 dX12_tried_71 (by omega) (by omega) (off := 25) (by rw [he_71_0]; rfl) rfl ?_
      refine a_aload_n (pc := 96) dX12_tried_96 rfl ?_
      refine a_geti (pc := 97) 44 dX12_tried_97 f_X12_312 rfl rfl ?_
      refine a_istore_n (pc := 100) dX12_tried_100 (Nat.le_of_ble_eq_true rfl) ?_
      refine a_goto (pc := 101) 176 dX12_tried_101 rfl ?_
      refine a_aload_n (pc := 176) dX12_tried_176 rfl ?_
      refine a_getr (pc := 177) dX12_tried_177 f_X12_13 rfl ?_
      refine a_aload_n (pc := 180) dX12_tried_180 rfl ?_
      refine a_getr (pc := 181) dX12_tried_181 f_X12_7 rfl ?_
      refine a_callSv (pc := 184) (d := 0) (st := []) [.inr 78, .inr 77] dX12_tried_184 l_X12_346 st_X12_copies rfl ⟨Nat.le_of_ble_eq_true rfl, Nat.le_of_ble_eq_true rfl⟩ ⟨Nat.le_of_ble_eq_true rfl, Nat.le_of_ble_eq_true rfl⟩ (Nat.le_of_ble_eq_true rfl) ?_
      refine Calls.mono (fun r184 M184 hr184 hM184 h => ?_) h
      refine a_iload_n (pc := 187) dX12_tried_187 rfl ?_
      exact a_iretI (pc := 188) dX12_tried_188 rfl h
    replace h := h.2
    by_cases he_71_1 : x2 = 1
    · replace h := h.1 he_71_1
      refine a_tableIn 104 dX12_tried_71 (by omega) (by omega) (off := 33) (by rw [he_71_1]; rfl) rfl ?_
      refine a_aload_n (pc := 104) dX12_tried_104 rfl ?_
      refine a_iconst (pc := 105) dX12_tried_105 (cnb rfl) ?_
      refine a_callVi (pc := 106) (d := 0) (st := []) (o := 76) [.inl 3] dX12_tried_106 l_X12_350 in_X12_setOf se_X12_setOf rfl rfl rfl ⟨Nat.le_of_ble_eq_true rfl, Nat.le_of_ble_eq_true rfl⟩ ⟨Nat.le_of_ble_eq_true rfl, Nat.le_of_ble_eq_true rfl⟩ (Nat.le_of_ble_eq_true rfl) ?_
      refine Calls.mono (fun r106 M106 hr106 hM106 h => ?_) h
      refine a_istore_n (pc := 109) dX12_tried_109 (Nat.le_of_ble_eq_true rfl) ?_
      refine a_goto (pc := 110) 176 dX12_tried_110 rfl ?_
      refine a_aload_n (pc := 176) dX12_tried_176 rfl ?_
      refine a_getr (pc := 177) dX12_tried_177 f_X12_13 rfl ?_
      refine a_aload_n (pc := 180) dX12_tried_180 rfl ?_
      refine a_getr (pc := 181) dX12_tried_181 f_X12_7 rfl ?_
      refine a_callSv (pc := 184) (d := 0) (st := []) [.inr 78, .inr 77] dX12_tried_184 l_X12_346 st_X12_copies rfl ⟨Nat.le_of_ble_eq_true rfl, Nat.le_of_ble_eq_true rfl⟩ ⟨Nat.le_of_ble_eq_true rfl, Nat.le_of_ble_eq_true rfl⟩ (Nat.le_of_ble_eq_true rfl) ?_
      refine Calls.mono (fun r184 M184 hr184 hM184 h => ?_) h
      refine a_iload_n (pc := 187) dX12_tried_187 rfl ?_
      exact a_iretI (pc := 188) dX12_tried_188 rfl h
    replace h := h.2
    by_cases he_71_2 : x2 = 2
    · replace h := h he_71_2
      refine a_tableIn 113 dX12_tried_71 (by omega) (by omega) (off := 42) (by rw [he_71_2]; rfl) rfl ?_
      refine a_aload_n (pc := 113) dX12_tried_113 rfl ?_
      refine a_iconst (pc := 114) dX12_tried_114 (cnb rfl) ?_
      refine a_callVi (pc := 115) (d := 0) (st := []) (o := 76) [.inl 4] dX12_tried_115 l_X12_350 in_X12_setOf se_X12_setOf rfl rfl rfl ⟨Nat.le_of_ble_eq_true rfl, Nat.le_of_ble_eq_true rfl⟩ ⟨Nat.le_of_ble_eq_true rfl, Nat.le_of_ble_eq_true rfl⟩ (Nat.le_of_ble_eq_true rfl) ?_
      refine Calls.mono (fun r115 M115 hr115 hM115 h => ?_) h
      refine a_istore_n (pc := 118) dX12_tried_118 (Nat.le_of_ble_eq_true rfl) ?_
      refine a_goto (pc := 119) 176 dX12_tried_119 rfl ?_
      refine a_aload_n (pc := 176) dX12_tried_176 rfl ?_
      refine a_getr (pc := 177) dX12_tried_177 f_X12_13 rfl ?_
      refine a_aload_n (pc := 180) dX12_tried_180 rfl ?_
      refine a_getr (pc := 181) dX12_tried_181 f_X12_7 rfl ?_
      refine a_callSv (pc := 184) (d := 0) (st := []) [.inr 78, .inr 77] dX12_tried_184 l_X12_346 st_X12_copies rfl ⟨Nat.le_of_ble_eq_true rfl, Nat.le_of_ble_eq_true rfl⟩ ⟨Nat.le_of_ble_eq_true rfl, Nat.le_of_ble_eq_true rfl⟩ (Nat.le_of_ble_eq_true rfl) ?_
      refine Calls.mono (fun r184 M184 hr184 hM184 h => ?_) h
      refine a_iload_n (pc := 187) dX12_tried_187 rfl ?_
      exact a_iretI (pc := 188) dX12_tried_188 rfl h
    exfalso; omega
set_option maxRecDepth 20000 in
theorem s_X8_areTogether_0 {Q : Int → Me → Prop} {o : Nat} (ho : isX8 o) (a b : Int) (M : Me) (h :
    (0 ≤ a ∧ a < 16) ∧
    ((M (o + 1) a ≠ 2 →
    Q 0 M) ∧ (M (o + 1) a = 2 →
    (0 ≤ b ∧ b < 16) ∧
    ((M (o + 1) b ≠ 2 →
    Q 0 M) ∧ (M (o + 1) b = 2 →
    (0 ≤ a ∧ a < 16) ∧
    (0 ≤ b ∧ b < 16) ∧
    ((M (o + 2) a ≠ M (o + 2) b →
    Q 0 M) ∧ (M (o + 2) a = M (o + 2) b →
    Q 1 M))))))) :
    Go (km 0 mX8_areTogether Q) 0 [some (.inr o), some (.inl a), some (.inl b)] [] M := by
  obtain ⟨ss_o, hs_o⟩ := ob_X8 ho
  refine a_aload_n (pc := 0) dX8_areTogether_0 rfl ?_
  refine a_getr (pc := 1) dX8_areTogether_1 f_X8_9 (fr_X8_0 ho) ?_
  refine a_iload_n (pc := 4) dX8_areTogether_4 rfl ?_
  refine a_iald (pc := 5) dX8_areTogether_5 (ar_X8_0 ho) h.1.1 h.1.2  ?_
  replace h := h.2
  refine a_iconst (pc := 6) dX8_areTogether_6 (cnb rfl) ?_
  refine a_icmp_ne (pc := 7) 39 dX8_areTogether_7 rfl ⟨fun hc => ?_, fun hc => ?_⟩
  · replace h := h.1 hc
    refine a_iconst (pc := 39) dX8_areTogether_39 (cnb rfl) ?_
    exact a_iretZ (pc := 40) dX8_areTogether_40 rfl (by decide) h
  · replace h := h.2 hc
    refine a_aload_n (pc := 10) dX8_areTogether_10 rfl ?_
    refine a_getr (pc := 11) dX8_areTogether_11 f_X8_9 (fr_X8_0 ho) ?_
    refine a_iload_n (pc := 14) dX8_areTogether_14 rfl ?_
    refine a_iald (pc := 15) dX8_areTogether_15 (ar_X8_0 ho) h.1.1 h.1.2  ?_
    replace h := h.2
    refine a_iconst (pc := 16) dX8_areTogether_16 (cnb rfl) ?_
    refine a_icmp_ne (pc := 17) 39 dX8_areTogether_17 rfl ⟨fun hc => ?_, fun hc => ?_⟩
    · replace h := h.1 hc
      refine a_iconst (pc := 39) dX8_areTogether_39 (cnb rfl) ?_
      exact a_iretZ (pc := 40) dX8_areTogether_40 rfl (by decide) h
    · replace h := h.2 hc
      refine a_aload_n (pc := 20) dX8_areTogether_20 rfl ?_
      refine a_getr (pc := 21) dX8_areTogether_21 f_X8_15 (fr_X8_1 ho) ?_
      refine a_iload_n (pc := 24) dX8_areTogether_24 rfl ?_
      refine a_iald (pc := 25) dX8_areTogether_25 (ar_X8_1 ho) h.1.1 h.1.2  ?_
      replace h := h.2
      refine a_aload_n (pc := 26) dX8_areTogether_26 rfl ?_
      refine a_getr (pc := 27) dX8_areTogether_27 f_X8_15 (fr_X8_1 ho) ?_
      refine a_iload_n (pc := 30) dX8_areTogether_30 rfl ?_
      refine a_iald (pc := 31) dX8_areTogether_31 (ar_X8_1 ho) h.1.1 h.1.2  ?_
      replace h := h.2
      refine a_icmp_ne (pc := 32) 39 dX8_areTogether_32 rfl ⟨fun hc => ?_, fun hc => ?_⟩
      · replace h := h.1 hc
        refine a_iconst (pc := 39) dX8_areTogether_39 (cnb rfl) ?_
        exact a_iretZ (pc := 40) dX8_areTogether_40 rfl (by decide) h
      · replace h := h.2 hc
        refine a_iconst (pc := 35) dX8_areTogether_35 (cnb rfl) ?_
        refine a_goto (pc := 36) 40 dX8_areTogether_36 rfl ?_
        exact a_iretZ (pc := 40) dX8_areTogether_40 rfl (by decide) h
set_option maxRecDepth 20000 in
theorem e_X8_areTogether {Q : Int → Me → Prop} {o : Nat} (ho : isX8 o) {a b : Int} {M : Me} (h :
    (0 ≤ a ∧ a < 16) ∧
    ((M (o + 1) a ≠ 2 →
    Q 0 M) ∧ (M (o + 1) a = 2 →
    (0 ≤ b ∧ b < 16) ∧
    ((M (o + 1) b ≠ 2 →
    Q 0 M) ∧ (M (o + 1) b = 2 →
    (0 ≤ a ∧ a < 16) ∧
    (0 ≤ b ∧ b < 16) ∧
    ((M (o + 2) a ≠ M (o + 2) b →
    Q 0 M) ∧ (M (o + 2) a = M (o + 2) b →
    Q 1 M))))))) : Calls 0 mX8_areTogether [.inr o, .inl a, .inl b] M Q := Calls.of (by decide) (Nat.le_of_ble_eq_true rfl) (s_X8_areTogether_0 ho a b M h)
set_option maxRecDepth 20000 in
theorem s_X11_meet_0 {Q : Int → Me → Prop}  (a b c : Int) (M : Me) (h :
    ((0 ≤ a ∧ a < M 3 8 →
    ((0 ≤ b ∧ b < M 3 8 →
    ((a = b →
    Q (-1) M) ∧ (a ≠ b →
    ((1 ≤ c ∧ c ≤ 100 →
    Calls 1 mX8_copyOf [.inr 49, .inr 37, .inl (M 3 8)] M (fun r45 M45 =>
    Go (km 6 mX11_meet Q) 51 [some (.inr 0), some (.inl a), some (.inl b), some (.inl c), some (.inl 0)] [] M45)) ∧ (¬ (1 ≤ c ∧ c ≤ 100) →
    Q (-1) M))))) ∧ (¬ (0 ≤ b ∧ b < M 3 8) →
    Q (-1) M))) ∧ (¬ (0 ≤ a ∧ a < M 3 8) →
    Q (-1) M))) :
    Go (km 6 mX11_meet Q) 0 [some (.inr 0), some (.inl a), some (.inl b), some (.inl c), none] [] M := by
  refine a_aload_n (pc := 0) dX11_meet_0 rfl ?_
  refine a_iload_n (pc := 1) dX11_meet_1 rfl ?_
  refine a_callVi (pc := 2) (d := 0) (st := []) (o := 0) [.inl a] dX11_meet_2 l_X11_104 in_X11_isCut se_X11_isCut rfl rfl rfl ⟨Nat.le_of_ble_eq_true rfl, Nat.le_of_ble_eq_true rfl⟩ ⟨Nat.le_of_ble_eq_true rfl, Nat.le_of_ble_eq_true rfl⟩ (Nat.le_of_ble_eq_true rfl) ?_
  refine p_X11_isCut ⟨fun hc => ?_, fun hc => ?_⟩
  · replace h := h.1 hc
    refine a_if_eq (pc := 5) 28 dX11_meet_5 rfl ⟨fun hc => absurd hc (by decide), fun _ => ?_⟩
    refine a_aload_n (pc := 8) dX11_meet_8 rfl ?_
    refine a_iload_n (pc := 9) dX11_meet_9 rfl ?_
    refine a_callVi (pc := 10) (d := 0) (st := []) (o := 0) [.inl b] dX11_meet_10 l_X11_104 in_X11_isCut se_X11_isCut rfl rfl rfl ⟨Nat.le_of_ble_eq_true rfl, Nat.le_of_ble_eq_true rfl⟩ ⟨Nat.le_of_ble_eq_true rfl, Nat.le_of_ble_eq_true rfl⟩ (Nat.le_of_ble_eq_true rfl) ?_
    refine p_X11_isCut ⟨fun hc => ?_, fun hc => ?_⟩
    · replace h := h.1 hc
      refine a_if_eq (pc := 13) 28 dX11_meet_13 rfl ⟨fun hc => absurd hc (by decide), fun _ => ?_⟩
      refine a_iload_n (pc := 16) dX11_meet_16 rfl ?_
      refine a_iload_n (pc := 17) dX11_meet_17 rfl ?_
      refine a_icmp_eq (pc := 18) 28 dX11_meet_18 rfl ⟨fun hc => ?_, fun hc => ?_⟩
      · replace h := h.1 hc
        refine a_iconst (pc := 28) dX11_meet_28 (cnb rfl) ?_
        exact a_iretI (pc := 29) dX11_meet_29 rfl h
      · replace h := h.2 hc
        refine a_iload_n (pc := 21) dX11_meet_21 rfl ?_
        refine a_callSi (pc := 22) (d := 0) (st := []) [.inl c] dX11_meet_22 l_X11_148 st_X11_isSpan rfl ⟨Nat.le_of_ble_eq_true rfl, Nat.le_of_ble_eq_true rfl⟩ ⟨Nat.le_of_ble_eq_true rfl, Nat.le_of_ble_eq_true rfl⟩ (Nat.le_of_ble_eq_true rfl) ?_
        refine p_X11_isSpan ⟨fun hc => ?_, fun hc => ?_⟩
        · replace h := h.1 hc
          refine a_if_ne (pc := 25) 30 dX11_meet_25 rfl ⟨fun _ => ?_, fun hc => absurd hc (by decide)⟩
          refine a_aload_n (pc := 30) dX11_meet_30 rfl ?_
          refine a_getr (pc := 31) dX11_meet_31 f_X11_56 rfl ?_
          refine a_aload_n (pc := 34) dX11_meet_34 rfl ?_
          refine a_getr (pc := 35) dX11_meet_35 f_X11_49 rfl ?_
          refine a_aload_n (pc := 38) dX11_meet_38 rfl ?_
          refine a_getr (pc := 39) dX11_meet_39 f_X11_19 rfl ?_
          refine a_geti (pc := 42) 8 dX11_meet_42 f_X11_155 rfl rfl ?_
          refine a_callVv (pc := 45) (d := 1) (st := []) (o := 49) [.inr 37, .inl (M 3 8)] dX11_meet_45 l_X11_156 in_X8_copyOf se_X8_copyOf rfl rfl rfl ⟨Nat.le_of_ble_eq_true rfl, Nat.le_of_ble_eq_true rfl⟩ ⟨Nat.le_of_ble_eq_true rfl, Nat.le_of_ble_eq_true rfl⟩ (Nat.le_of_ble_eq_true rfl) ?_
          refine Calls.mono (fun r45 M45 hr45 hM45 h => ?_) h
          refine a_iconst (pc := 48) dX11_meet_48 (cnb rfl) ?_
          refine a_istore (pc := 49) dX11_meet_49 (Nat.le_of_ble_eq_true rfl) ?_
          exact h
        · replace h := h.2 hc
          refine a_if_ne (pc := 25) 30 dX11_meet_25 rfl ⟨fun hc => absurd hc (by decide), fun _ => ?_⟩
          refine a_iconst (pc := 28) dX11_meet_28 (cnb rfl) ?_
          exact a_iretI (pc := 29) dX11_meet_29 rfl h
    · replace h := h.2 hc
      refine a_if_eq (pc := 13) 28 dX11_meet_13 rfl ⟨fun _ => ?_, fun hc => absurd hc (by decide)⟩
      refine a_iconst (pc := 28) dX11_meet_28 (cnb rfl) ?_
      exact a_iretI (pc := 29) dX11_meet_29 rfl h
  · replace h := h.2 hc
    refine a_if_eq (pc := 5) 28 dX11_meet_5 rfl ⟨fun _ => ?_, fun hc => absurd hc (by decide)⟩
    refine a_iconst (pc := 28) dX11_meet_28 (cnb rfl) ?_
    exact a_iretI (pc := 29) dX11_meet_29 rfl h
set_option maxRecDepth 20000 in
theorem e_X11_meet {Q : Int → Me → Prop}  {a b c : Int} {M : Me} (h :
    ((0 ≤ a ∧ a < M 3 8 →
    ((0 ≤ b ∧ b < M 3 8 →
    ((a = b →
    Q (-1) M) ∧ (a ≠ b →
    ((1 ≤ c ∧ c ≤ 100 →
    Calls 1 mX8_copyOf [.inr 49, .inr 37, .inl (M 3 8)] M (fun r45 M45 =>
    Go (km 6 mX11_meet Q) 51 [some (.inr 0), some (.inl a), some (.inl b), some (.inl c), some (.inl 0)] [] M45)) ∧ (¬ (1 ≤ c ∧ c ≤ 100) →
    Q (-1) M))))) ∧ (¬ (0 ≤ b ∧ b < M 3 8) →
    Q (-1) M))) ∧ (¬ (0 ≤ a ∧ a < M 3 8) →
    Q (-1) M))) : Calls 6 mX11_meet [.inr 0, .inl a, .inl b, .inl c] M Q := Calls.of (by decide) (Nat.le_of_ble_eq_true rfl) (s_X11_meet_0  a b c M h)
set_option maxRecDepth 20000 in
theorem s_X11_meet_51 {Q : Int → Me → Prop}  (x1 x2 x3 x4 : Int) (M : Me) (h :
    ((x3 < x4 →
    Q (-2) M) ∧ (x4 ≤ x3 →
    Calls 0 mX8_areTogether [.inr 49, .inl x1, .inl x2] M (fun r63 M63 =>
    ((r63 = 0 →
    Calls 5 mX10_season [.inr 55, .inr 49] M63 (fun r80 M80 =>
    cn (x4 + 1) ∧
    Go (km 6 mX11_meet Q) 51 [some (.inr 0), some (.inl x1), some (.inl x2), some (.inl x3), some (.inl (x4 + 1))] [] M80)) ∧ (r63 ≠ 0 →
    Q x4 M63)))))) :
    Go (km 6 mX11_meet Q) 51 [some (.inr 0), some (.inl x1), some (.inl x2), some (.inl x3), some (.inl x4)] [] M := by
  refine a_iload (pc := 51) dX11_meet_51 rfl ?_
  refine a_iload_n (pc := 53) dX11_meet_53 rfl ?_
  refine a_icmp_gt (pc := 54) 90 dX11_meet_54 rfl ⟨fun hc => ?_, fun hc => ?_⟩
  · replace h := h.1 hc
    refine a_bipush (pc := 90) dX11_meet_90 (by decide) (cnb rfl) ?_
    exact a_iretI (pc := 92) dX11_meet_92 rfl h
  · replace h := h.2 hc
    refine a_aload_n (pc := 57) dX11_meet_57 rfl ?_
    refine a_getr (pc := 58) dX11_meet_58 f_X11_56 rfl ?_
    refine a_iload_n (pc := 61) dX11_meet_61 rfl ?_
    refine a_iload_n (pc := 62) dX11_meet_62 rfl ?_
    refine a_callVi (pc := 63) (d := 0) (st := []) (o := 49) [.inl x1, .inl x2] dX11_meet_63 l_X11_199 in_X8_areTogether se_X8_areTogether rfl rfl rfl ⟨Nat.le_of_ble_eq_true rfl, Nat.le_of_ble_eq_true rfl⟩ ⟨Nat.le_of_ble_eq_true rfl, Nat.le_of_ble_eq_true rfl⟩ (Nat.le_of_ble_eq_true rfl) ?_
    refine Calls.mono (fun r63 M63 hr63 hM63 h => ?_) h
    refine a_if_eq (pc := 66) 72 dX11_meet_66 rfl ⟨fun hc => ?_, fun hc => ?_⟩
    · replace h := h.1 hc
      refine a_aload_n (pc := 72) dX11_meet_72 rfl ?_
      refine a_getr (pc := 73) dX11_meet_73 f_X11_64 rfl ?_
      refine a_aload_n (pc := 76) dX11_meet_76 rfl ?_
      refine a_getr (pc := 77) dX11_meet_77 f_X11_56 rfl ?_
      refine a_callVi (pc := 80) (d := 5) (st := []) (o := 55) [.inr 49] dX11_meet_80 l_X11_203 in_X10_season se_X10_season rfl rfl rfl ⟨Nat.le_of_ble_eq_true rfl, Nat.le_of_ble_eq_true rfl⟩ ⟨Nat.le_of_ble_eq_true rfl, Nat.le_of_ble_eq_true rfl⟩ (Nat.le_of_ble_eq_true rfl) ?_
      refine Calls.mono (fun r80 M80 hr80 hM80 h => ?_) h
      refine a_pop (pc := 83) dX11_meet_83 ?_
      refine a_iinc (pc := 84) dX11_meet_84 rfl h.1 (Nat.le_of_ble_eq_true rfl) ?_
      replace h := h.2
      refine a_goto (pc := 87) 51 dX11_meet_87 rfl ?_
      exact h
    · replace h := h.2 hc
      refine a_iload (pc := 69) dX11_meet_69 rfl ?_
      exact a_iretI (pc := 71) dX11_meet_71 rfl h
set_option maxRecDepth 20000 in
theorem s_X12_areMet_0 {Q : Int → Me → Prop}  (a b : Int) (M : Me) (h :
    cn (0 + a) ∧
    (0 ≤ 0 + a ∧ 0 + a < 82) ∧
    ((M 77 (0 + a) ≠ 2 →
    Q 0 M) ∧ (M 77 (0 + a) = 2 →
    cn (0 + b) ∧
    (0 ≤ 0 + b ∧ 0 + b < 82) ∧
    ((M 77 (0 + b) ≠ 2 →
    Q 0 M) ∧ (M 77 (0 + b) = 2 →
    cn (16 + a) ∧
    (0 ≤ 16 + a ∧ 16 + a < 82) ∧
    cn (16 + b) ∧
    (0 ≤ 16 + b ∧ 16 + b < 82) ∧
    ((M 77 (16 + a) ≠ M 77 (16 + b) →
    Q 0 M) ∧ (M 77 (16 + a) = M 77 (16 + b) →
    Q 1 M))))))) :
    Go (km 0 mX12_areMet Q) 0 [some (.inr 76), some (.inl a), some (.inl b)] [] M := by
  refine a_aload_n (pc := 0) dX12_areMet_0 rfl ?_
  refine a_getr (pc := 1) dX12_areMet_1 f_X12_7 rfl ?_
  refine a_iconst (pc := 4) dX12_areMet_4 (cnb rfl) ?_
  refine a_iload_n (pc := 5) dX12_areMet_5 rfl ?_
  refine a_iadd (pc := 6) dX12_areMet_6 h.1 ?_
  replace h := h.2
  refine a_iald (pc := 7) dX12_areMet_7 rfl h.1.1 h.1.2  ?_
  replace h := h.2
  refine a_iconst (pc := 8) dX12_areMet_8 (cnb rfl) ?_
  refine a_icmp_ne (pc := 9) 49 dX12_areMet_9 rfl ⟨fun hc => ?_, fun hc => ?_⟩
  · replace h := h.1 hc
    refine a_iconst (pc := 49) dX12_areMet_49 (cnb rfl) ?_
    exact a_iretZ (pc := 50) dX12_areMet_50 rfl (by decide) h
  · replace h := h.2 hc
    refine a_aload_n (pc := 12) dX12_areMet_12 rfl ?_
    refine a_getr (pc := 13) dX12_areMet_13 f_X12_7 rfl ?_
    refine a_iconst (pc := 16) dX12_areMet_16 (cnb rfl) ?_
    refine a_iload_n (pc := 17) dX12_areMet_17 rfl ?_
    refine a_iadd (pc := 18) dX12_areMet_18 h.1 ?_
    replace h := h.2
    refine a_iald (pc := 19) dX12_areMet_19 rfl h.1.1 h.1.2  ?_
    replace h := h.2
    refine a_iconst (pc := 20) dX12_areMet_20 (cnb rfl) ?_
    refine a_icmp_ne (pc := 21) 49 dX12_areMet_21 rfl ⟨fun hc => ?_, fun hc => ?_⟩
    · replace h := h.1 hc
      refine a_iconst (pc := 49) dX12_areMet_49 (cnb rfl) ?_
      exact a_iretZ (pc := 50) dX12_areMet_50 rfl (by decide) h
    · replace h := h.2 hc
      refine a_aload_n (pc := 24) dX12_areMet_24 rfl ?_
      refine a_getr (pc := 25) dX12_areMet_25 f_X12_7 rfl ?_
      refine a_bipush (pc := 28) dX12_areMet_28 (by decide) (cnb rfl) ?_
      refine a_iload_n (pc := 30) dX12_areMet_30 rfl ?_
      refine a_iadd (pc := 31) dX12_areMet_31 h.1 ?_
      replace h := h.2
      refine a_iald (pc := 32) dX12_areMet_32 rfl h.1.1 h.1.2  ?_
      replace h := h.2
      refine a_aload_n (pc := 33) dX12_areMet_33 rfl ?_
      refine a_getr (pc := 34) dX12_areMet_34 f_X12_7 rfl ?_
      refine a_bipush (pc := 37) dX12_areMet_37 (by decide) (cnb rfl) ?_
      refine a_iload_n (pc := 39) dX12_areMet_39 rfl ?_
      refine a_iadd (pc := 40) dX12_areMet_40 h.1 ?_
      replace h := h.2
      refine a_iald (pc := 41) dX12_areMet_41 rfl h.1.1 h.1.2  ?_
      replace h := h.2
      refine a_icmp_ne (pc := 42) 49 dX12_areMet_42 rfl ⟨fun hc => ?_, fun hc => ?_⟩
      · replace h := h.1 hc
        refine a_iconst (pc := 49) dX12_areMet_49 (cnb rfl) ?_
        exact a_iretZ (pc := 50) dX12_areMet_50 rfl (by decide) h
      · replace h := h.2 hc
        refine a_iconst (pc := 45) dX12_areMet_45 (cnb rfl) ?_
        refine a_goto (pc := 46) 50 dX12_areMet_46 rfl ?_
        exact a_iretZ (pc := 50) dX12_areMet_50 rfl (by decide) h
set_option maxRecDepth 20000 in
theorem e_X12_areMet {Q : Int → Me → Prop}  {a b : Int} {M : Me} (h :
    cn (0 + a) ∧
    (0 ≤ 0 + a ∧ 0 + a < 82) ∧
    ((M 77 (0 + a) ≠ 2 →
    Q 0 M) ∧ (M 77 (0 + a) = 2 →
    cn (0 + b) ∧
    (0 ≤ 0 + b ∧ 0 + b < 82) ∧
    ((M 77 (0 + b) ≠ 2 →
    Q 0 M) ∧ (M 77 (0 + b) = 2 →
    cn (16 + a) ∧
    (0 ≤ 16 + a ∧ 16 + a < 82) ∧
    cn (16 + b) ∧
    (0 ≤ 16 + b ∧ 16 + b < 82) ∧
    ((M 77 (16 + a) ≠ M 77 (16 + b) →
    Q 0 M) ∧ (M 77 (16 + a) = M 77 (16 + b) →
    Q 1 M))))))) : Calls 0 mX12_areMet [.inr 76, .inl a, .inl b] M Q := Calls.of (by decide) (Nat.le_of_ble_eq_true rfl) (s_X12_areMet_0  a b M h)
set_option maxRecDepth 20000 in
theorem s_X12_meet_0 {Q : Int → Me → Prop}  (a b c : Int) (M : Me) (h :
    0 ≤ M 76 11 ∧
    ((0 ≤ a ∧ a < M 76 11 →
    0 ≤ M 76 11 ∧
    ((0 ≤ b ∧ b < M 76 11 →
    ((a = b →
    Q (-1) M) ∧ (a ≠ b →
    ((1 ≤ c ∧ c ≤ 100 →
    Calls 0 mX12_copies [.inr 77, .inr 78] M (fun r41 M41 =>
    Go (km 5 mX12_meet Q) 47 [some (.inr 76), some (.inl a), some (.inl b), some (.inl c), some (.inl 0), none] [] M41)) ∧ (¬ (1 ≤ c ∧ c ≤ 100) →
    Q (-1) M))))) ∧ (¬ (0 ≤ b ∧ b < M 76 11) →
    Q (-1) M))) ∧ (¬ (0 ≤ a ∧ a < M 76 11) →
    Q (-1) M))) :
    Go (km 5 mX12_meet Q) 0 [some (.inr 76), some (.inl a), some (.inl b), some (.inl c), none, none] [] M := by
  refine a_aload_n (pc := 0) dX12_meet_0 rfl ?_
  refine a_iload_n (pc := 1) dX12_meet_1 rfl ?_
  refine a_callVi (pc := 2) (d := 1) (st := []) (o := 76) [.inl a] dX12_meet_2 l_X12_164 in_X12_isCut se_X12_isCut rfl rfl rfl ⟨Nat.le_of_ble_eq_true rfl, Nat.le_of_ble_eq_true rfl⟩ ⟨Nat.le_of_ble_eq_true rfl, Nat.le_of_ble_eq_true rfl⟩ (Nat.le_of_ble_eq_true rfl) ?_
  have hp2_1 := h.1
  replace h := h.2
  refine p_X12_isCut hp2_1 ⟨fun hc => ?_, fun hc => ?_⟩
  · replace h := h.1 hc
    refine a_if_eq (pc := 5) 31 dX12_meet_5 rfl ⟨fun hc => absurd hc (by decide), fun _ => ?_⟩
    refine a_aload_n (pc := 8) dX12_meet_8 rfl ?_
    refine a_iload_n (pc := 9) dX12_meet_9 rfl ?_
    refine a_callVi (pc := 10) (d := 1) (st := []) (o := 76) [.inl b] dX12_meet_10 l_X12_164 in_X12_isCut se_X12_isCut rfl rfl rfl ⟨Nat.le_of_ble_eq_true rfl, Nat.le_of_ble_eq_true rfl⟩ ⟨Nat.le_of_ble_eq_true rfl, Nat.le_of_ble_eq_true rfl⟩ (Nat.le_of_ble_eq_true rfl) ?_
    have hp10_1 := h.1
    replace h := h.2
    refine p_X12_isCut hp10_1 ⟨fun hc => ?_, fun hc => ?_⟩
    · replace h := h.1 hc
      refine a_if_eq (pc := 13) 31 dX12_meet_13 rfl ⟨fun hc => absurd hc (by decide), fun _ => ?_⟩
      refine a_iload_n (pc := 16) dX12_meet_16 rfl ?_
      refine a_iload_n (pc := 17) dX12_meet_17 rfl ?_
      refine a_icmp_eq (pc := 18) 31 dX12_meet_18 rfl ⟨fun hc => ?_, fun hc => ?_⟩
      · replace h := h.1 hc
        refine a_iconst (pc := 31) dX12_meet_31 (cnb rfl) ?_
        exact a_iretI (pc := 32) dX12_meet_32 rfl h
      · replace h := h.2 hc
        refine a_iload_n (pc := 21) dX12_meet_21 rfl ?_
        refine a_iconst (pc := 22) dX12_meet_22 (cnb rfl) ?_
        refine a_bipush (pc := 23) dX12_meet_23 (by decide) (cnb rfl) ?_
        refine a_callSi (pc := 25) (d := 0) (st := []) [.inl c, .inl 1, .inl 100] dX12_meet_25 l_X12_156 st_X12_in rfl ⟨Nat.le_of_ble_eq_true rfl, Nat.le_of_ble_eq_true rfl⟩ ⟨Nat.le_of_ble_eq_true rfl, Nat.le_of_ble_eq_true rfl⟩ (Nat.le_of_ble_eq_true rfl) ?_
        refine p_X12_in ⟨fun hc => ?_, fun hc => ?_⟩
        · replace h := h.1 hc
          refine a_if_ne (pc := 28) 33 dX12_meet_28 rfl ⟨fun _ => ?_, fun hc => absurd hc (by decide)⟩
          refine a_aload_n (pc := 33) dX12_meet_33 rfl ?_
          refine a_getr (pc := 34) dX12_meet_34 f_X12_7 rfl ?_
          refine a_aload_n (pc := 37) dX12_meet_37 rfl ?_
          refine a_getr (pc := 38) dX12_meet_38 f_X12_13 rfl ?_
          refine a_callSv (pc := 41) (d := 0) (st := []) [.inr 77, .inr 78] dX12_meet_41 l_X12_346 st_X12_copies rfl ⟨Nat.le_of_ble_eq_true rfl, Nat.le_of_ble_eq_true rfl⟩ ⟨Nat.le_of_ble_eq_true rfl, Nat.le_of_ble_eq_true rfl⟩ (Nat.le_of_ble_eq_true rfl) ?_
          refine Calls.mono (fun r41 M41 hr41 hM41 h => ?_) h
          refine a_iconst (pc := 44) dX12_meet_44 (cnb rfl) ?_
          refine a_istore (pc := 45) dX12_meet_45 (Nat.le_of_ble_eq_true rfl) ?_
          exact h
        · replace h := h.2 hc
          refine a_if_ne (pc := 28) 33 dX12_meet_28 rfl ⟨fun hc => absurd hc (by decide), fun _ => ?_⟩
          refine a_iconst (pc := 31) dX12_meet_31 (cnb rfl) ?_
          exact a_iretI (pc := 32) dX12_meet_32 rfl h
    · replace h := h.2 hc
      refine a_if_eq (pc := 13) 31 dX12_meet_13 rfl ⟨fun _ => ?_, fun hc => absurd hc (by decide)⟩
      refine a_iconst (pc := 31) dX12_meet_31 (cnb rfl) ?_
      exact a_iretI (pc := 32) dX12_meet_32 rfl h
  · replace h := h.2 hc
    refine a_if_eq (pc := 5) 31 dX12_meet_5 rfl ⟨fun _ => ?_, fun hc => absurd hc (by decide)⟩
    refine a_iconst (pc := 31) dX12_meet_31 (cnb rfl) ?_
    exact a_iretI (pc := 32) dX12_meet_32 rfl h
set_option maxRecDepth 20000 in
theorem e_X12_meet {Q : Int → Me → Prop}  {a b c : Int} {M : Me} (h :
    0 ≤ M 76 11 ∧
    ((0 ≤ a ∧ a < M 76 11 →
    0 ≤ M 76 11 ∧
    ((0 ≤ b ∧ b < M 76 11 →
    ((a = b →
    Q (-1) M) ∧ (a ≠ b →
    ((1 ≤ c ∧ c ≤ 100 →
    Calls 0 mX12_copies [.inr 77, .inr 78] M (fun r41 M41 =>
    Go (km 5 mX12_meet Q) 47 [some (.inr 76), some (.inl a), some (.inl b), some (.inl c), some (.inl 0), none] [] M41)) ∧ (¬ (1 ≤ c ∧ c ≤ 100) →
    Q (-1) M))))) ∧ (¬ (0 ≤ b ∧ b < M 76 11) →
    Q (-1) M))) ∧ (¬ (0 ≤ a ∧ a < M 76 11) →
    Q (-1) M))) : Calls 5 mX12_meet [.inr 76, .inl a, .inl b, .inl c] M Q := Calls.of (by decide) (Nat.le_of_ble_eq_true rfl) (s_X12_meet_0  a b c M h)
set_option maxRecDepth 20000 in
theorem s_X12_meet_47 {Q : Int → Me → Prop}  (x1 x2 x3 x4 : Int) (M : Me) (h :
    Calls 0 mX12_areMet [.inr 76, .inl x1, .inl x2] M (fun r50 M50 =>
    ((r50 ≠ 0 →
    Calls 0 mX12_areMet [.inr 76, .inl x1, .inl x2] M50 (fun r91 M91 =>
    Calls 0 mX12_copies [.inr 78, .inr 77] M91 (fun r104 M104 =>
    ((r91 = 0 →
    Q (-2) M104) ∧ (r91 ≠ 0 →
    Q x4 M104))))) ∧ (r50 = 0 →
    ((x3 ≤ x4 →
    Calls 0 mX12_areMet [.inr 76, .inl x1, .inl x2] M50 (fun r91 M91 =>
    Calls 0 mX12_copies [.inr 78, .inr 77] M91 (fun r104 M104 =>
    ((r91 = 0 →
    Q (-2) M104) ∧ (r91 ≠ 0 →
    Q x4 M104))))) ∧ (x4 < x3 →
    ((9999 ≤ M50 77 80 →
    Calls 0 mX12_areMet [.inr 76, .inl x1, .inl x2] M50 (fun r91 M91 =>
    Calls 0 mX12_copies [.inr 78, .inr 77] M91 (fun r104 M104 =>
    ((r91 = 0 →
    Q (-2) M104) ∧ (r91 ≠ 0 →
    Q x4 M104))))) ∧ (M50 77 80 < 9999 →
    Calls 4 mX12_seasonGoes [.inr 76] M50 (fun r76 M76 =>
    cn (x4 + 1) ∧
    Go (km 5 mX12_meet Q) 47 [some (.inr 76), some (.inl x1), some (.inl x2), some (.inl x3), some (.inl (x4 + 1)), none] [] M76))))))))) :
    Go (km 5 mX12_meet Q) 47 [some (.inr 76), some (.inl x1), some (.inl x2), some (.inl x3), some (.inl x4), none] [] M := by
  refine a_aload_n (pc := 47) dX12_meet_47 rfl ?_
  refine a_iload_n (pc := 48) dX12_meet_48 rfl ?_
  refine a_iload_n (pc := 49) dX12_meet_49 rfl ?_
  refine a_callVi (pc := 50) (d := 0) (st := []) (o := 76) [.inl x1, .inl x2] dX12_meet_50 l_X12_353 in_X12_areMet se_X12_areMet rfl rfl rfl ⟨Nat.le_of_ble_eq_true rfl, Nat.le_of_ble_eq_true rfl⟩ ⟨Nat.le_of_ble_eq_true rfl, Nat.le_of_ble_eq_true rfl⟩ (Nat.le_of_ble_eq_true rfl) ?_
  refine Calls.mono (fun r50 M50 hr50 hM50 h => ?_) h
  refine a_if_ne (pc := 53) 88 dX12_meet_53 rfl ⟨fun hc => ?_, fun hc => ?_⟩
  · replace h := h.1 hc
    refine a_aload_n (pc := 88) dX12_meet_88 rfl ?_
    refine a_iload_n (pc := 89) dX12_meet_89 rfl ?_
    refine a_iload_n (pc := 90) dX12_meet_90 rfl ?_
    refine a_callVi (pc := 91) (d := 0) (st := []) (o := 76) [.inl x1, .inl x2] dX12_meet_91 l_X12_353 in_X12_areMet se_X12_areMet rfl rfl rfl ⟨Nat.le_of_ble_eq_true rfl, Nat.le_of_ble_eq_true rfl⟩ ⟨Nat.le_of_ble_eq_true rfl, Nat.le_of_ble_eq_true rfl⟩ (Nat.le_of_ble_eq_true rfl) ?_
    refine Calls.mono (fun r91 M91 hr91 hM91 h => ?_) h
    refine a_istore (pc := 94) dX12_meet_94 (Nat.le_of_ble_eq_true rfl) ?_
    refine a_aload_n (pc := 96) dX12_meet_96 rfl ?_
    refine a_getr (pc := 97) dX12_meet_97 f_X12_13 rfl ?_
    refine a_aload_n (pc := 100) dX12_meet_100 rfl ?_
    refine a_getr (pc := 101) dX12_meet_101 f_X12_7 rfl ?_
    refine a_callSv (pc := 104) (d := 0) (st := []) [.inr 78, .inr 77] dX12_meet_104 l_X12_346 st_X12_copies rfl ⟨Nat.le_of_ble_eq_true rfl, Nat.le_of_ble_eq_true rfl⟩ ⟨Nat.le_of_ble_eq_true rfl, Nat.le_of_ble_eq_true rfl⟩ (Nat.le_of_ble_eq_true rfl) ?_
    refine Calls.mono (fun r104 M104 hr104 hM104 h => ?_) h
    refine a_iload (pc := 107) dX12_meet_107 rfl ?_
    refine a_if_eq (pc := 109) 117 dX12_meet_109 rfl ⟨fun hc => ?_, fun hc => ?_⟩
    · replace h := h.1 hc
      refine a_bipush (pc := 117) dX12_meet_117 (by decide) (cnb rfl) ?_
      exact a_iretI (pc := 119) dX12_meet_119 rfl h
    · replace h := h.2 hc
      refine a_iload (pc := 112) dX12_meet_112 rfl ?_
      refine a_goto (pc := 114) 119 dX12_meet_114 rfl ?_
      exact a_iretI (pc := 119) dX12_meet_119 rfl h
  · replace h := h.2 hc
    refine a_iload (pc := 56) dX12_meet_56 rfl ?_
    refine a_iload_n (pc := 58) dX12_meet_58 rfl ?_
    refine a_icmp_ge (pc := 59) 88 dX12_meet_59 rfl ⟨fun hc => ?_, fun hc => ?_⟩
    · replace h := h.1 hc
      refine a_aload_n (pc := 88) dX12_meet_88 rfl ?_
      refine a_iload_n (pc := 89) dX12_meet_89 rfl ?_
      refine a_iload_n (pc := 90) dX12_meet_90 rfl ?_
      refine a_callVi (pc := 91) (d := 0) (st := []) (o := 76) [.inl x1, .inl x2] dX12_meet_91 l_X12_353 in_X12_areMet se_X12_areMet rfl rfl rfl ⟨Nat.le_of_ble_eq_true rfl, Nat.le_of_ble_eq_true rfl⟩ ⟨Nat.le_of_ble_eq_true rfl, Nat.le_of_ble_eq_true rfl⟩ (Nat.le_of_ble_eq_true rfl) ?_
      refine Calls.mono (fun r91 M91 hr91 hM91 h => ?_) h
      refine a_istore (pc := 94) dX12_meet_94 (Nat.le_of_ble_eq_true rfl) ?_
      refine a_aload_n (pc := 96) dX12_meet_96 rfl ?_
      refine a_getr (pc := 97) dX12_meet_97 f_X12_13 rfl ?_
      refine a_aload_n (pc := 100) dX12_meet_100 rfl ?_
      refine a_getr (pc := 101) dX12_meet_101 f_X12_7 rfl ?_
      refine a_callSv (pc := 104) (d := 0) (st := []) [.inr 78, .inr 77] dX12_meet_104 l_X12_346 st_X12_copies rfl ⟨Nat.le_of_ble_eq_true rfl, Nat.le_of_ble_eq_true rfl⟩ ⟨Nat.le_of_ble_eq_true rfl, Nat.le_of_ble_eq_true rfl⟩ (Nat.le_of_ble_eq_true rfl) ?_
      refine Calls.mono (fun r104 M104 hr104 hM104 h => ?_) h
      refine a_iload (pc := 107) dX12_meet_107 rfl ?_
      refine a_if_eq (pc := 109) 117 dX12_meet_109 rfl ⟨fun hc => ?_, fun hc => ?_⟩
      · replace h := h.1 hc
        refine a_bipush (pc := 117) dX12_meet_117 (by decide) (cnb rfl) ?_
        exact a_iretI (pc := 119) dX12_meet_119 rfl h
      · replace h := h.2 hc
        refine a_iload (pc := 112) dX12_meet_112 rfl ?_
        refine a_goto (pc := 114) 119 dX12_meet_114 rfl ?_
        exact a_iretI (pc := 119) dX12_meet_119 rfl h
    · replace h := h.2 hc
      refine a_aload_n (pc := 62) dX12_meet_62 rfl ?_
      refine a_getr (pc := 63) dX12_meet_63 f_X12_7 rfl ?_
      refine a_bipush (pc := 66) dX12_meet_66 (by decide) (cnb rfl) ?_
      refine a_iald (pc := 68) dX12_meet_68 rfl (by decide) (by decide)  ?_
      refine a_sipush (pc := 69) dX12_meet_69 (by decide) (cnb rfl) ?_
      refine a_icmp_ge (pc := 72) 88 dX12_meet_72 rfl ⟨fun hc => ?_, fun hc => ?_⟩
      · replace h := h.1 hc
        refine a_aload_n (pc := 88) dX12_meet_88 rfl ?_
        refine a_iload_n (pc := 89) dX12_meet_89 rfl ?_
        refine a_iload_n (pc := 90) dX12_meet_90 rfl ?_
        refine a_callVi (pc := 91) (d := 0) (st := []) (o := 76) [.inl x1, .inl x2] dX12_meet_91 l_X12_353 in_X12_areMet se_X12_areMet rfl rfl rfl ⟨Nat.le_of_ble_eq_true rfl, Nat.le_of_ble_eq_true rfl⟩ ⟨Nat.le_of_ble_eq_true rfl, Nat.le_of_ble_eq_true rfl⟩ (Nat.le_of_ble_eq_true rfl) ?_
        refine Calls.mono (fun r91 M91 hr91 hM91 h => ?_) h
        refine a_istore (pc := 94) dX12_meet_94 (Nat.le_of_ble_eq_true rfl) ?_
        refine a_aload_n (pc := 96) dX12_meet_96 rfl ?_
        refine a_getr (pc := 97) dX12_meet_97 f_X12_13 rfl ?_
        refine a_aload_n (pc := 100) dX12_meet_100 rfl ?_
        refine a_getr (pc := 101) dX12_meet_101 f_X12_7 rfl ?_
        refine a_callSv (pc := 104) (d := 0) (st := []) [.inr 78, .inr 77] dX12_meet_104 l_X12_346 st_X12_copies rfl ⟨Nat.le_of_ble_eq_true rfl, Nat.le_of_ble_eq_true rfl⟩ ⟨Nat.le_of_ble_eq_true rfl, Nat.le_of_ble_eq_true rfl⟩ (Nat.le_of_ble_eq_true rfl) ?_
        refine Calls.mono (fun r104 M104 hr104 hM104 h => ?_) h
        refine a_iload (pc := 107) dX12_meet_107 rfl ?_
        refine a_if_eq (pc := 109) 117 dX12_meet_109 rfl ⟨fun hc => ?_, fun hc => ?_⟩
        · replace h := h.1 hc
          refine a_bipush (pc := 117) dX12_meet_117 (by decide) (cnb rfl) ?_
          exact a_iretI (pc := 119) dX12_meet_119 rfl h
        · replace h := h.2 hc
          refine a_iload (pc := 112) dX12_meet_112 rfl ?_
          refine a_goto (pc := 114) 119 dX12_meet_114 rfl ?_
          exact a_iretI (pc := 119) dX12_meet_119 rfl h
      · replace h := h.2 hc
        refine a_aload_n (pc := 75) dX12_meet_75 rfl ?_
        refine a_callVv (pc := 76) (d := 4) (st := []) (o := 76) [] dX12_meet_76 l_X12_340 in_X12_seasonGoes se_X12_seasonGoes rfl rfl rfl ⟨Nat.le_of_ble_eq_true rfl, Nat.le_of_ble_eq_true rfl⟩ ⟨Nat.le_of_ble_eq_true rfl, Nat.le_of_ble_eq_true rfl⟩ (Nat.le_of_ble_eq_true rfl) ?_
        refine Calls.mono (fun r76 M76 hr76 hM76 h => ?_) h
        refine a_iload (pc := 79) dX12_meet_79 rfl ?_
        refine a_iconst (pc := 81) dX12_meet_81 (cnb rfl) ?_
        refine a_iadd (pc := 82) dX12_meet_82 h.1 ?_
        replace h := h.2
        refine a_istore (pc := 83) dX12_meet_83 (Nat.le_of_ble_eq_true rfl) ?_
        refine a_goto (pc := 85) 47 dX12_meet_85 rfl ?_
        exact h
set_option maxRecDepth 20000 in
theorem s_X11_roots_0 {Q : Int → Me → Prop}  (a b : Int) (M : Me) (h :
    ((0 ≤ a ∧ a < M 3 8 →
    ((1 ≤ b ∧ b ≤ 100 →
    Calls 1 mX8_copyOf [.inr 49, .inr 37, .inl (M 3 8)] M (fun r32 M32 =>
    Go (km 6 mX11_roots Q) 37 [some (.inr 0), some (.inl a), some (.inl b), some (.inl 0)] [] M32)) ∧ (¬ (1 ≤ b ∧ b ≤ 100) →
    Q (-1) M))) ∧ (¬ (0 ≤ a ∧ a < M 3 8) →
    Q (-1) M))) :
    Go (km 6 mX11_roots Q) 0 [some (.inr 0), some (.inl a), some (.inl b), none] [] M := by
  refine a_aload_n (pc := 0) dX11_roots_0 rfl ?_
  refine a_iload_n (pc := 1) dX11_roots_1 rfl ?_
  refine a_callVi (pc := 2) (d := 0) (st := []) (o := 0) [.inl a] dX11_roots_2 l_X11_104 in_X11_isCut se_X11_isCut rfl rfl rfl ⟨Nat.le_of_ble_eq_true rfl, Nat.le_of_ble_eq_true rfl⟩ ⟨Nat.le_of_ble_eq_true rfl, Nat.le_of_ble_eq_true rfl⟩ (Nat.le_of_ble_eq_true rfl) ?_
  refine p_X11_isCut ⟨fun hc => ?_, fun hc => ?_⟩
  · replace h := h.1 hc
    refine a_if_eq (pc := 5) 15 dX11_roots_5 rfl ⟨fun hc => absurd hc (by decide), fun _ => ?_⟩
    refine a_iload_n (pc := 8) dX11_roots_8 rfl ?_
    refine a_callSi (pc := 9) (d := 0) (st := []) [.inl b] dX11_roots_9 l_X11_148 st_X11_isSpan rfl ⟨Nat.le_of_ble_eq_true rfl, Nat.le_of_ble_eq_true rfl⟩ ⟨Nat.le_of_ble_eq_true rfl, Nat.le_of_ble_eq_true rfl⟩ (Nat.le_of_ble_eq_true rfl) ?_
    refine p_X11_isSpan ⟨fun hc => ?_, fun hc => ?_⟩
    · replace h := h.1 hc
      refine a_if_ne (pc := 12) 17 dX11_roots_12 rfl ⟨fun _ => ?_, fun hc => absurd hc (by decide)⟩
      refine a_aload_n (pc := 17) dX11_roots_17 rfl ?_
      refine a_getr (pc := 18) dX11_roots_18 f_X11_56 rfl ?_
      refine a_aload_n (pc := 21) dX11_roots_21 rfl ?_
      refine a_getr (pc := 22) dX11_roots_22 f_X11_49 rfl ?_
      refine a_aload_n (pc := 25) dX11_roots_25 rfl ?_
      refine a_getr (pc := 26) dX11_roots_26 f_X11_19 rfl ?_
      refine a_geti (pc := 29) 8 dX11_roots_29 f_X11_155 rfl rfl ?_
      refine a_callVv (pc := 32) (d := 1) (st := []) (o := 49) [.inr 37, .inl (M 3 8)] dX11_roots_32 l_X11_156 in_X8_copyOf se_X8_copyOf rfl rfl rfl ⟨Nat.le_of_ble_eq_true rfl, Nat.le_of_ble_eq_true rfl⟩ ⟨Nat.le_of_ble_eq_true rfl, Nat.le_of_ble_eq_true rfl⟩ (Nat.le_of_ble_eq_true rfl) ?_
      refine Calls.mono (fun r32 M32 hr32 hM32 h => ?_) h
      refine a_iconst (pc := 35) dX11_roots_35 (cnb rfl) ?_
      refine a_istore_n (pc := 36) dX11_roots_36 (Nat.le_of_ble_eq_true rfl) ?_
      exact h
    · replace h := h.2 hc
      refine a_if_ne (pc := 12) 17 dX11_roots_12 rfl ⟨fun hc => absurd hc (by decide), fun _ => ?_⟩
      refine a_iconst (pc := 15) dX11_roots_15 (cnb rfl) ?_
      exact a_iretI (pc := 16) dX11_roots_16 rfl h
  · replace h := h.2 hc
    refine a_if_eq (pc := 5) 15 dX11_roots_5 rfl ⟨fun _ => ?_, fun hc => absurd hc (by decide)⟩
    refine a_iconst (pc := 15) dX11_roots_15 (cnb rfl) ?_
    exact a_iretI (pc := 16) dX11_roots_16 rfl h
set_option maxRecDepth 20000 in
theorem e_X11_roots {Q : Int → Me → Prop}  {a b : Int} {M : Me} (h :
    ((0 ≤ a ∧ a < M 3 8 →
    ((1 ≤ b ∧ b ≤ 100 →
    Calls 1 mX8_copyOf [.inr 49, .inr 37, .inl (M 3 8)] M (fun r32 M32 =>
    Go (km 6 mX11_roots Q) 37 [some (.inr 0), some (.inl a), some (.inl b), some (.inl 0)] [] M32)) ∧ (¬ (1 ≤ b ∧ b ≤ 100) →
    Q (-1) M))) ∧ (¬ (0 ≤ a ∧ a < M 3 8) →
    Q (-1) M))) : Calls 6 mX11_roots [.inr 0, .inl a, .inl b] M Q := Calls.of (by decide) (Nat.le_of_ble_eq_true rfl) (s_X11_roots_0  a b M h)
set_option maxRecDepth 20000 in
theorem s_X11_roots_37 {Q : Int → Me → Prop}  (x1 x2 x3 : Int) (M : Me) (h :
    ((x2 < x3 →
    Q (-2) M) ∧ (x3 ≤ x2 →
    (0 ≤ x1 ∧ x1 < 16) ∧
    ((M 50 x1 ≠ 3 →
    Calls 5 mX10_season [.inr 55, .inr 49] M (fun r65 M65 =>
    cn (x3 + 1) ∧
    Go (km 6 mX11_roots Q) 37 [some (.inr 0), some (.inl x1), some (.inl x2), some (.inl (x3 + 1))] [] M65)) ∧ (M 50 x1 = 3 →
    Q x3 M))))) :
    Go (km 6 mX11_roots Q) 37 [some (.inr 0), some (.inl x1), some (.inl x2), some (.inl x3)] [] M := by
  refine a_iload_n (pc := 37) dX11_roots_37 rfl ?_
  refine a_iload_n (pc := 38) dX11_roots_38 rfl ?_
  refine a_icmp_gt (pc := 39) 75 dX11_roots_39 rfl ⟨fun hc => ?_, fun hc => ?_⟩
  · replace h := h.1 hc
    refine a_bipush (pc := 75) dX11_roots_75 (by decide) (cnb rfl) ?_
    exact a_iretI (pc := 77) dX11_roots_77 rfl h
  · replace h := h.2 hc
    refine a_aload_n (pc := 42) dX11_roots_42 rfl ?_
    refine a_getr (pc := 43) dX11_roots_43 f_X11_56 rfl ?_
    refine a_getr (pc := 46) dX11_roots_46 f_X11_169 rfl ?_
    refine a_iload_n (pc := 49) dX11_roots_49 rfl ?_
    refine a_iald (pc := 50) dX11_roots_50 rfl h.1.1 h.1.2  ?_
    replace h := h.2
    refine a_iconst (pc := 51) dX11_roots_51 (cnb rfl) ?_
    refine a_icmp_ne (pc := 52) 57 dX11_roots_52 rfl ⟨fun hc => ?_, fun hc => ?_⟩
    · replace h := h.1 hc
      refine a_aload_n (pc := 57) dX11_roots_57 rfl ?_
      refine a_getr (pc := 58) dX11_roots_58 f_X11_64 rfl ?_
      refine a_aload_n (pc := 61) dX11_roots_61 rfl ?_
      refine a_getr (pc := 62) dX11_roots_62 f_X11_56 rfl ?_
      refine a_callVi (pc := 65) (d := 5) (st := []) (o := 55) [.inr 49] dX11_roots_65 l_X11_203 in_X10_season se_X10_season rfl rfl rfl ⟨Nat.le_of_ble_eq_true rfl, Nat.le_of_ble_eq_true rfl⟩ ⟨Nat.le_of_ble_eq_true rfl, Nat.le_of_ble_eq_true rfl⟩ (Nat.le_of_ble_eq_true rfl) ?_
      refine Calls.mono (fun r65 M65 hr65 hM65 h => ?_) h
      refine a_pop (pc := 68) dX11_roots_68 ?_
      refine a_iinc (pc := 69) dX11_roots_69 rfl h.1 (Nat.le_of_ble_eq_true rfl) ?_
      replace h := h.2
      refine a_goto (pc := 72) 37 dX11_roots_72 rfl ?_
      exact h
    · replace h := h.2 hc
      refine a_iload_n (pc := 55) dX11_roots_55 rfl ?_
      exact a_iretI (pc := 56) dX11_roots_56 rfl h
set_option maxRecDepth 20000 in
theorem s_X12_roots_0 {Q : Int → Me → Prop}  (a b : Int) (M : Me) (h :
    0 ≤ M 76 11 ∧
    ((0 ≤ a ∧ a < M 76 11 →
    ((1 ≤ b ∧ b ≤ 100 →
    Calls 0 mX12_copies [.inr 77, .inr 78] M (fun r28 M28 =>
    Go (km 5 mX12_roots Q) 33 [some (.inr 76), some (.inl a), some (.inl b), some (.inl 0), none] [] M28)) ∧ (¬ (1 ≤ b ∧ b ≤ 100) →
    Q (-1) M))) ∧ (¬ (0 ≤ a ∧ a < M 76 11) →
    Q (-1) M))) :
    Go (km 5 mX12_roots Q) 0 [some (.inr 76), some (.inl a), some (.inl b), none, none] [] M := by
  refine a_aload_n (pc := 0) dX12_roots_0 rfl ?_
  refine a_iload_n (pc := 1) dX12_roots_1 rfl ?_
  refine a_callVi (pc := 2) (d := 1) (st := []) (o := 76) [.inl a] dX12_roots_2 l_X12_164 in_X12_isCut se_X12_isCut rfl rfl rfl ⟨Nat.le_of_ble_eq_true rfl, Nat.le_of_ble_eq_true rfl⟩ ⟨Nat.le_of_ble_eq_true rfl, Nat.le_of_ble_eq_true rfl⟩ (Nat.le_of_ble_eq_true rfl) ?_
  have hp2_1 := h.1
  replace h := h.2
  refine p_X12_isCut hp2_1 ⟨fun hc => ?_, fun hc => ?_⟩
  · replace h := h.1 hc
    refine a_if_eq (pc := 5) 18 dX12_roots_5 rfl ⟨fun hc => absurd hc (by decide), fun _ => ?_⟩
    refine a_iload_n (pc := 8) dX12_roots_8 rfl ?_
    refine a_iconst (pc := 9) dX12_roots_9 (cnb rfl) ?_
    refine a_bipush (pc := 10) dX12_roots_10 (by decide) (cnb rfl) ?_
    refine a_callSi (pc := 12) (d := 0) (st := []) [.inl b, .inl 1, .inl 100] dX12_roots_12 l_X12_156 st_X12_in rfl ⟨Nat.le_of_ble_eq_true rfl, Nat.le_of_ble_eq_true rfl⟩ ⟨Nat.le_of_ble_eq_true rfl, Nat.le_of_ble_eq_true rfl⟩ (Nat.le_of_ble_eq_true rfl) ?_
    refine p_X12_in ⟨fun hc => ?_, fun hc => ?_⟩
    · replace h := h.1 hc
      refine a_if_ne (pc := 15) 20 dX12_roots_15 rfl ⟨fun _ => ?_, fun hc => absurd hc (by decide)⟩
      refine a_aload_n (pc := 20) dX12_roots_20 rfl ?_
      refine a_getr (pc := 21) dX12_roots_21 f_X12_7 rfl ?_
      refine a_aload_n (pc := 24) dX12_roots_24 rfl ?_
      refine a_getr (pc := 25) dX12_roots_25 f_X12_13 rfl ?_
      refine a_callSv (pc := 28) (d := 0) (st := []) [.inr 77, .inr 78] dX12_roots_28 l_X12_346 st_X12_copies rfl ⟨Nat.le_of_ble_eq_true rfl, Nat.le_of_ble_eq_true rfl⟩ ⟨Nat.le_of_ble_eq_true rfl, Nat.le_of_ble_eq_true rfl⟩ (Nat.le_of_ble_eq_true rfl) ?_
      refine Calls.mono (fun r28 M28 hr28 hM28 h => ?_) h
      refine a_iconst (pc := 31) dX12_roots_31 (cnb rfl) ?_
      refine a_istore_n (pc := 32) dX12_roots_32 (Nat.le_of_ble_eq_true rfl) ?_
      exact h
    · replace h := h.2 hc
      refine a_if_ne (pc := 15) 20 dX12_roots_15 rfl ⟨fun hc => absurd hc (by decide), fun _ => ?_⟩
      refine a_iconst (pc := 18) dX12_roots_18 (cnb rfl) ?_
      exact a_iretI (pc := 19) dX12_roots_19 rfl h
  · replace h := h.2 hc
    refine a_if_eq (pc := 5) 18 dX12_roots_5 rfl ⟨fun _ => ?_, fun hc => absurd hc (by decide)⟩
    refine a_iconst (pc := 18) dX12_roots_18 (cnb rfl) ?_
    exact a_iretI (pc := 19) dX12_roots_19 rfl h
set_option maxRecDepth 20000 in
theorem e_X12_roots {Q : Int → Me → Prop}  {a b : Int} {M : Me} (h :
    0 ≤ M 76 11 ∧
    ((0 ≤ a ∧ a < M 76 11 →
    ((1 ≤ b ∧ b ≤ 100 →
    Calls 0 mX12_copies [.inr 77, .inr 78] M (fun r28 M28 =>
    Go (km 5 mX12_roots Q) 33 [some (.inr 76), some (.inl a), some (.inl b), some (.inl 0), none] [] M28)) ∧ (¬ (1 ≤ b ∧ b ≤ 100) →
    Q (-1) M))) ∧ (¬ (0 ≤ a ∧ a < M 76 11) →
    Q (-1) M))) : Calls 5 mX12_roots [.inr 76, .inl a, .inl b] M Q := Calls.of (by decide) (Nat.le_of_ble_eq_true rfl) (s_X12_roots_0  a b M h)
set_option maxRecDepth 20000 in
theorem s_X12_roots_33 {Q : Int → Me → Prop}  (x1 x2 x3 : Int) (M : Me) (h :
    cn (0 + x1) ∧
    (0 ≤ 0 + x1 ∧ 0 + x1 < 82) ∧
    ((M 77 (0 + x1) = 3 →
    cn (0 + x1) ∧
    (0 ≤ 0 + x1 ∧ 0 + x1 < 82) ∧
    ((M 77 (0 + x1) ≠ 3 →
    Calls 0 mX12_copies [.inr 78, .inr 77] M (fun r101 M101 =>
    Q (-2) M101)) ∧ (M 77 (0 + x1) = 3 →
    Calls 0 mX12_copies [.inr 78, .inr 77] M (fun r101 M101 =>
    Q x3 M101)))) ∧ (M 77 (0 + x1) ≠ 3 →
    ((x2 ≤ x3 →
    cn (0 + x1) ∧
    (0 ≤ 0 + x1 ∧ 0 + x1 < 82) ∧
    ((M 77 (0 + x1) ≠ 3 →
    Calls 0 mX12_copies [.inr 78, .inr 77] M (fun r101 M101 =>
    Q (-2) M101)) ∧ (M 77 (0 + x1) = 3 →
    Calls 0 mX12_copies [.inr 78, .inr 77] M (fun r101 M101 =>
    Q x3 M101)))) ∧ (x3 < x2 →
    ((9999 ≤ M 77 80 →
    cn (0 + x1) ∧
    (0 ≤ 0 + x1 ∧ 0 + x1 < 82) ∧
    ((M 77 (0 + x1) ≠ 3 →
    Calls 0 mX12_copies [.inr 78, .inr 77] M (fun r101 M101 =>
    Q (-2) M101)) ∧ (M 77 (0 + x1) = 3 →
    Calls 0 mX12_copies [.inr 78, .inr 77] M (fun r101 M101 =>
    Q x3 M101)))) ∧ (M 77 80 < 9999 →
    Calls 4 mX12_seasonGoes [.inr 76] M (fun r64 M64 =>
    cn (x3 + 1) ∧
    Go (km 5 mX12_roots Q) 33 [some (.inr 76), some (.inl x1), some (.inl x2), some (.inl (x3 + 1)), none] [] M64)))))))) :
    Go (km 5 mX12_roots Q) 33 [some (.inr 76), some (.inl x1), some (.inl x2), some (.inl x3), none] [] M := by
  refine a_aload_n (pc := 33) dX12_roots_33 rfl ?_
  refine a_getr (pc := 34) dX12_roots_34 f_X12_7 rfl ?_
  refine a_iconst (pc := 37) dX12_roots_37 (cnb rfl) ?_
  refine a_iload_n (pc := 38) dX12_roots_38 rfl ?_
  refine a_iadd (pc := 39) dX12_roots_39 h.1 ?_
  replace h := h.2
  refine a_iald (pc := 40) dX12_roots_40 rfl h.1.1 h.1.2  ?_
  replace h := h.2
  refine a_iconst (pc := 41) dX12_roots_41 (cnb rfl) ?_
  refine a_icmp_eq (pc := 42) 74 dX12_roots_42 rfl ⟨fun hc => ?_, fun hc => ?_⟩
  · replace h := h.1 hc
    refine a_aload_n (pc := 74) dX12_roots_74 rfl ?_
    refine a_getr (pc := 75) dX12_roots_75 f_X12_7 rfl ?_
    refine a_iconst (pc := 78) dX12_roots_78 (cnb rfl) ?_
    refine a_iload_n (pc := 79) dX12_roots_79 rfl ?_
    refine a_iadd (pc := 80) dX12_roots_80 h.1 ?_
    replace h := h.2
    refine a_iald (pc := 81) dX12_roots_81 rfl h.1.1 h.1.2  ?_
    replace h := h.2
    refine a_iconst (pc := 82) dX12_roots_82 (cnb rfl) ?_
    refine a_icmp_ne (pc := 83) 90 dX12_roots_83 rfl ⟨fun hc => ?_, fun hc => ?_⟩
    · replace h := h.1 hc
      refine a_iconst (pc := 90) dX12_roots_90 (cnb rfl) ?_
      refine a_istore (pc := 91) dX12_roots_91 (Nat.le_of_ble_eq_true rfl) ?_
      refine a_aload_n (pc := 93) dX12_roots_93 rfl ?_
      refine a_getr (pc := 94) dX12_roots_94 f_X12_13 rfl ?_
      refine a_aload_n (pc := 97) dX12_roots_97 rfl ?_
      refine a_getr (pc := 98) dX12_roots_98 f_X12_7 rfl ?_
      refine a_callSv (pc := 101) (d := 0) (st := []) [.inr 78, .inr 77] dX12_roots_101 l_X12_346 st_X12_copies rfl ⟨Nat.le_of_ble_eq_true rfl, Nat.le_of_ble_eq_true rfl⟩ ⟨Nat.le_of_ble_eq_true rfl, Nat.le_of_ble_eq_true rfl⟩ (Nat.le_of_ble_eq_true rfl) ?_
      refine Calls.mono (fun r101 M101 hr101 hM101 h => ?_) h
      refine a_iload (pc := 104) dX12_roots_104 rfl ?_
      refine a_if_eq (pc := 106) 113 dX12_roots_106 rfl ⟨fun _ => ?_, fun hc => absurd hc (by decide)⟩
      refine a_bipush (pc := 113) dX12_roots_113 (by decide) (cnb rfl) ?_
      exact a_iretI (pc := 115) dX12_roots_115 rfl h
    · replace h := h.2 hc
      refine a_iconst (pc := 86) dX12_roots_86 (cnb rfl) ?_
      refine a_goto (pc := 87) 91 dX12_roots_87 rfl ?_
      refine a_istore (pc := 91) dX12_roots_91 (Nat.le_of_ble_eq_true rfl) ?_
      refine a_aload_n (pc := 93) dX12_roots_93 rfl ?_
      refine a_getr (pc := 94) dX12_roots_94 f_X12_13 rfl ?_
      refine a_aload_n (pc := 97) dX12_roots_97 rfl ?_
      refine a_getr (pc := 98) dX12_roots_98 f_X12_7 rfl ?_
      refine a_callSv (pc := 101) (d := 0) (st := []) [.inr 78, .inr 77] dX12_roots_101 l_X12_346 st_X12_copies rfl ⟨Nat.le_of_ble_eq_true rfl, Nat.le_of_ble_eq_true rfl⟩ ⟨Nat.le_of_ble_eq_true rfl, Nat.le_of_ble_eq_true rfl⟩ (Nat.le_of_ble_eq_true rfl) ?_
      refine Calls.mono (fun r101 M101 hr101 hM101 h => ?_) h
      refine a_iload (pc := 104) dX12_roots_104 rfl ?_
      refine a_if_eq (pc := 106) 113 dX12_roots_106 rfl ⟨fun hc => absurd hc (by decide), fun _ => ?_⟩
      refine a_iload_n (pc := 109) dX12_roots_109 rfl ?_
      refine a_goto (pc := 110) 115 dX12_roots_110 rfl ?_
      exact a_iretI (pc := 115) dX12_roots_115 rfl h
  · replace h := h.2 hc
    refine a_iload_n (pc := 45) dX12_roots_45 rfl ?_
    refine a_iload_n (pc := 46) dX12_roots_46 rfl ?_
    refine a_icmp_ge (pc := 47) 74 dX12_roots_47 rfl ⟨fun hc => ?_, fun hc => ?_⟩
    · replace h := h.1 hc
      refine a_aload_n (pc := 74) dX12_roots_74 rfl ?_
      refine a_getr (pc := 75) dX12_roots_75 f_X12_7 rfl ?_
      refine a_iconst (pc := 78) dX12_roots_78 (cnb rfl) ?_
      refine a_iload_n (pc := 79) dX12_roots_79 rfl ?_
      refine a_iadd (pc := 80) dX12_roots_80 h.1 ?_
      replace h := h.2
      refine a_iald (pc := 81) dX12_roots_81 rfl h.1.1 h.1.2  ?_
      replace h := h.2
      refine a_iconst (pc := 82) dX12_roots_82 (cnb rfl) ?_
      refine a_icmp_ne (pc := 83) 90 dX12_roots_83 rfl ⟨fun hc => ?_, fun hc => ?_⟩
      · replace h := h.1 hc
        refine a_iconst (pc := 90) dX12_roots_90 (cnb rfl) ?_
        refine a_istore (pc := 91) dX12_roots_91 (Nat.le_of_ble_eq_true rfl) ?_
        refine a_aload_n (pc := 93) dX12_roots_93 rfl ?_
        refine a_getr (pc := 94) dX12_roots_94 f_X12_13 rfl ?_
        refine a_aload_n (pc := 97) dX12_roots_97 rfl ?_
        refine a_getr (pc := 98) dX12_roots_98 f_X12_7 rfl ?_
        refine a_callSv (pc := 101) (d := 0) (st := []) [.inr 78, .inr 77] dX12_roots_101 l_X12_346 st_X12_copies rfl ⟨Nat.le_of_ble_eq_true rfl, Nat.le_of_ble_eq_true rfl⟩ ⟨Nat.le_of_ble_eq_true rfl, Nat.le_of_ble_eq_true rfl⟩ (Nat.le_of_ble_eq_true rfl) ?_
        refine Calls.mono (fun r101 M101 hr101 hM101 h => ?_) h
        refine a_iload (pc := 104) dX12_roots_104 rfl ?_
        refine a_if_eq (pc := 106) 113 dX12_roots_106 rfl ⟨fun _ => ?_, fun hc => absurd hc (by decide)⟩
        refine a_bipush (pc := 113) dX12_roots_113 (by decide) (cnb rfl) ?_
        exact a_iretI (pc := 115) dX12_roots_115 rfl h
      · replace h := h.2 hc
        refine a_iconst (pc := 86) dX12_roots_86 (cnb rfl) ?_
        refine a_goto (pc := 87) 91 dX12_roots_87 rfl ?_
        refine a_istore (pc := 91) dX12_roots_91 (Nat.le_of_ble_eq_true rfl) ?_
        refine a_aload_n (pc := 93) dX12_roots_93 rfl ?_
        refine a_getr (pc := 94) dX12_roots_94 f_X12_13 rfl ?_
        refine a_aload_n (pc := 97) dX12_roots_97 rfl ?_
        refine a_getr (pc := 98) dX12_roots_98 f_X12_7 rfl ?_
        refine a_callSv (pc := 101) (d := 0) (st := []) [.inr 78, .inr 77] dX12_roots_101 l_X12_346 st_X12_copies rfl ⟨Nat.le_of_ble_eq_true rfl, Nat.le_of_ble_eq_true rfl⟩ ⟨Nat.le_of_ble_eq_true rfl, Nat.le_of_ble_eq_true rfl⟩ (Nat.le_of_ble_eq_true rfl) ?_
        refine Calls.mono (fun r101 M101 hr101 hM101 h => ?_) h
        refine a_iload (pc := 104) dX12_roots_104 rfl ?_
        refine a_if_eq (pc := 106) 113 dX12_roots_106 rfl ⟨fun hc => absurd hc (by decide), fun _ => ?_⟩
        refine a_iload_n (pc := 109) dX12_roots_109 rfl ?_
        refine a_goto (pc := 110) 115 dX12_roots_110 rfl ?_
        exact a_iretI (pc := 115) dX12_roots_115 rfl h
    · replace h := h.2 hc
      refine a_aload_n (pc := 50) dX12_roots_50 rfl ?_
      refine a_getr (pc := 51) dX12_roots_51 f_X12_7 rfl ?_
      refine a_bipush (pc := 54) dX12_roots_54 (by decide) (cnb rfl) ?_
      refine a_iald (pc := 56) dX12_roots_56 rfl (by decide) (by decide)  ?_
      refine a_sipush (pc := 57) dX12_roots_57 (by decide) (cnb rfl) ?_
      refine a_icmp_ge (pc := 60) 74 dX12_roots_60 rfl ⟨fun hc => ?_, fun hc => ?_⟩
      · replace h := h.1 hc
        refine a_aload_n (pc := 74) dX12_roots_74 rfl ?_
        refine a_getr (pc := 75) dX12_roots_75 f_X12_7 rfl ?_
        refine a_iconst (pc := 78) dX12_roots_78 (cnb rfl) ?_
        refine a_iload_n (pc := 79) dX12_roots_79 rfl ?_
        refine a_iadd (pc := 80) dX12_roots_80 h.1 ?_
        replace h := h.2
        refine a_iald (pc := 81) dX12_roots_81 rfl h.1.1 h.1.2  ?_
        replace h := h.2
        refine a_iconst (pc := 82) dX12_roots_82 (cnb rfl) ?_
        refine a_icmp_ne (pc := 83) 90 dX12_roots_83 rfl ⟨fun hc => ?_, fun hc => ?_⟩
        · replace h := h.1 hc
          refine a_iconst (pc := 90) dX12_roots_90 (cnb rfl) ?_
          refine a_istore (pc := 91) dX12_roots_91 (Nat.le_of_ble_eq_true rfl) ?_
          refine a_aload_n (pc := 93) dX12_roots_93 rfl ?_
          refine a_getr (pc := 94) dX12_roots_94 f_X12_13 rfl ?_
          refine a_aload_n (pc := 97) dX12_roots_97 rfl ?_
          refine a_getr (pc := 98) dX12_roots_98 f_X12_7 rfl ?_
          refine a_callSv (pc := 101) (d := 0) (st := []) [.inr 78, .inr 77] dX12_roots_101 l_X12_346 st_X12_copies rfl ⟨Nat.le_of_ble_eq_true rfl, Nat.le_of_ble_eq_true rfl⟩ ⟨Nat.le_of_ble_eq_true rfl, Nat.le_of_ble_eq_true rfl⟩ (Nat.le_of_ble_eq_true rfl) ?_
          refine Calls.mono (fun r101 M101 hr101 hM101 h => ?_) h
          refine a_iload (pc := 104) dX12_roots_104 rfl ?_
          refine a_if_eq (pc := 106) 113 dX12_roots_106 rfl ⟨fun _ => ?_, fun hc => absurd hc (by decide)⟩
          refine a_bipush (pc := 113) dX12_roots_113 (by decide) (cnb rfl) ?_
          exact a_iretI (pc := 115) dX12_roots_115 rfl h
        · replace h := h.2 hc
          refine a_iconst (pc := 86) dX12_roots_86 (cnb rfl) ?_
          refine a_goto (pc := 87) 91 dX12_roots_87 rfl ?_
          refine a_istore (pc := 91) dX12_roots_91 (Nat.le_of_ble_eq_true rfl) ?_
          refine a_aload_n (pc := 93) dX12_roots_93 rfl ?_
          refine a_getr (pc := 94) dX12_roots_94 f_X12_13 rfl ?_
          refine a_aload_n (pc := 97) dX12_roots_97 rfl ?_
          refine a_getr (pc := 98) dX12_roots_98 f_X12_7 rfl ?_
          refine a_callSv (pc := 101) (d := 0) (st := []) [.inr 78, .inr 77] dX12_roots_101 l_X12_346 st_X12_copies rfl ⟨Nat.le_of_ble_eq_true rfl, Nat.le_of_ble_eq_true rfl⟩ ⟨Nat.le_of_ble_eq_true rfl, Nat.le_of_ble_eq_true rfl⟩ (Nat.le_of_ble_eq_true rfl) ?_
          refine Calls.mono (fun r101 M101 hr101 hM101 h => ?_) h
          refine a_iload (pc := 104) dX12_roots_104 rfl ?_
          refine a_if_eq (pc := 106) 113 dX12_roots_106 rfl ⟨fun hc => absurd hc (by decide), fun _ => ?_⟩
          refine a_iload_n (pc := 109) dX12_roots_109 rfl ?_
          refine a_goto (pc := 110) 115 dX12_roots_110 rfl ?_
          exact a_iretI (pc := 115) dX12_roots_115 rfl h
      · replace h := h.2 hc
        refine a_aload_n (pc := 63) dX12_roots_63 rfl ?_
        refine a_callVv (pc := 64) (d := 4) (st := []) (o := 76) [] dX12_roots_64 l_X12_340 in_X12_seasonGoes se_X12_seasonGoes rfl rfl rfl ⟨Nat.le_of_ble_eq_true rfl, Nat.le_of_ble_eq_true rfl⟩ ⟨Nat.le_of_ble_eq_true rfl, Nat.le_of_ble_eq_true rfl⟩ (Nat.le_of_ble_eq_true rfl) ?_
        refine Calls.mono (fun r64 M64 hr64 hM64 h => ?_) h
        refine a_iload_n (pc := 67) dX12_roots_67 rfl ?_
        refine a_iconst (pc := 68) dX12_roots_68 (cnb rfl) ?_
        refine a_iadd (pc := 69) dX12_roots_69 h.1 ?_
        replace h := h.2
        refine a_istore_n (pc := 70) dX12_roots_70 (Nat.le_of_ble_eq_true rfl) ?_
        refine a_goto (pc := 71) 33 dX12_roots_71 rfl ?_
        exact h
set_option maxRecDepth 20000 in
theorem s_X11_strays_0 {Q : Int → Me → Prop}  (a b : Int) (M : Me) (h :
    ((0 ≤ a ∧ a < M 3 8 →
    ((1 ≤ b ∧ b ≤ 100 →
    Calls 1 mX8_copyOf [.inr 49, .inr 37, .inl (M 3 8)] M (fun r32 M32 =>
    Go (km 6 mX11_strays Q) 40 [some (.inr 0), some (.inl a), some (.inl b), some (.inl 0), some (.inl 0)] [] M32)) ∧ (¬ (1 ≤ b ∧ b ≤ 100) →
    Q (-1) M))) ∧ (¬ (0 ≤ a ∧ a < M 3 8) →
    Q (-1) M))) :
    Go (km 6 mX11_strays Q) 0 [some (.inr 0), some (.inl a), some (.inl b), none, none] [] M := by
  refine a_aload_n (pc := 0) dX11_strays_0 rfl ?_
  refine a_iload_n (pc := 1) dX11_strays_1 rfl ?_
  refine a_callVi (pc := 2) (d := 0) (st := []) (o := 0) [.inl a] dX11_strays_2 l_X11_104 in_X11_isCut se_X11_isCut rfl rfl rfl ⟨Nat.le_of_ble_eq_true rfl, Nat.le_of_ble_eq_true rfl⟩ ⟨Nat.le_of_ble_eq_true rfl, Nat.le_of_ble_eq_true rfl⟩ (Nat.le_of_ble_eq_true rfl) ?_
  refine p_X11_isCut ⟨fun hc => ?_, fun hc => ?_⟩
  · replace h := h.1 hc
    refine a_if_eq (pc := 5) 15 dX11_strays_5 rfl ⟨fun hc => absurd hc (by decide), fun _ => ?_⟩
    refine a_iload_n (pc := 8) dX11_strays_8 rfl ?_
    refine a_callSi (pc := 9) (d := 0) (st := []) [.inl b] dX11_strays_9 l_X11_148 st_X11_isSpan rfl ⟨Nat.le_of_ble_eq_true rfl, Nat.le_of_ble_eq_true rfl⟩ ⟨Nat.le_of_ble_eq_true rfl, Nat.le_of_ble_eq_true rfl⟩ (Nat.le_of_ble_eq_true rfl) ?_
    refine p_X11_isSpan ⟨fun hc => ?_, fun hc => ?_⟩
    · replace h := h.1 hc
      refine a_if_ne (pc := 12) 17 dX11_strays_12 rfl ⟨fun _ => ?_, fun hc => absurd hc (by decide)⟩
      refine a_aload_n (pc := 17) dX11_strays_17 rfl ?_
      refine a_getr (pc := 18) dX11_strays_18 f_X11_56 rfl ?_
      refine a_aload_n (pc := 21) dX11_strays_21 rfl ?_
      refine a_getr (pc := 22) dX11_strays_22 f_X11_49 rfl ?_
      refine a_aload_n (pc := 25) dX11_strays_25 rfl ?_
      refine a_getr (pc := 26) dX11_strays_26 f_X11_19 rfl ?_
      refine a_geti (pc := 29) 8 dX11_strays_29 f_X11_155 rfl rfl ?_
      refine a_callVv (pc := 32) (d := 1) (st := []) (o := 49) [.inr 37, .inl (M 3 8)] dX11_strays_32 l_X11_156 in_X8_copyOf se_X8_copyOf rfl rfl rfl ⟨Nat.le_of_ble_eq_true rfl, Nat.le_of_ble_eq_true rfl⟩ ⟨Nat.le_of_ble_eq_true rfl, Nat.le_of_ble_eq_true rfl⟩ (Nat.le_of_ble_eq_true rfl) ?_
      refine Calls.mono (fun r32 M32 hr32 hM32 h => ?_) h
      refine a_iconst (pc := 35) dX11_strays_35 (cnb rfl) ?_
      refine a_istore_n (pc := 36) dX11_strays_36 (Nat.le_of_ble_eq_true rfl) ?_
      refine a_iconst (pc := 37) dX11_strays_37 (cnb rfl) ?_
      refine a_istore (pc := 38) dX11_strays_38 (Nat.le_of_ble_eq_true rfl) ?_
      exact h
    · replace h := h.2 hc
      refine a_if_ne (pc := 12) 17 dX11_strays_12 rfl ⟨fun hc => absurd hc (by decide), fun _ => ?_⟩
      refine a_iconst (pc := 15) dX11_strays_15 (cnb rfl) ?_
      exact a_iretI (pc := 16) dX11_strays_16 rfl h
  · replace h := h.2 hc
    refine a_if_eq (pc := 5) 15 dX11_strays_5 rfl ⟨fun _ => ?_, fun hc => absurd hc (by decide)⟩
    refine a_iconst (pc := 15) dX11_strays_15 (cnb rfl) ?_
    exact a_iretI (pc := 16) dX11_strays_16 rfl h
set_option maxRecDepth 20000 in
theorem e_X11_strays {Q : Int → Me → Prop}  {a b : Int} {M : Me} (h :
    ((0 ≤ a ∧ a < M 3 8 →
    ((1 ≤ b ∧ b ≤ 100 →
    Calls 1 mX8_copyOf [.inr 49, .inr 37, .inl (M 3 8)] M (fun r32 M32 =>
    Go (km 6 mX11_strays Q) 40 [some (.inr 0), some (.inl a), some (.inl b), some (.inl 0), some (.inl 0)] [] M32)) ∧ (¬ (1 ≤ b ∧ b ≤ 100) →
    Q (-1) M))) ∧ (¬ (0 ≤ a ∧ a < M 3 8) →
    Q (-1) M))) : Calls 6 mX11_strays [.inr 0, .inl a, .inl b] M Q := Calls.of (by decide) (Nat.le_of_ble_eq_true rfl) (s_X11_strays_0  a b M h)
set_option maxRecDepth 20000 in
theorem s_X11_strays_40 {Q : Int → Me → Prop}  (x1 x2 x3 x4 : Int) (M : Me) (h :
    ((x2 ≤ x4 →
    Q x3 M) ∧ (x4 < x2 →
    ((9999 ≤ M 49 5 →
    Q x3 M) ∧ (M 49 5 < 9999 →
    Calls 5 mX10_season [.inr 55, .inr 49] M (fun r67 M67 =>
    (0 ≤ x1 ∧ x1 < 16) ∧
    (0 ≤ x1 ∧ x1 < 16) ∧
    0 ≤ M67 4 x1 ∧
    0 ≤ M67 51 x1 ∧
    cn (x4 + 1) ∧
    Go (km 6 mX11_strays Q) 40 [some (.inr 0), some (.inl x1), some (.inl x2), some (.inl (max x3 (dst (M67 4 x1) (M67 51 x1)))), some (.inl (x4 + 1))] [] M67)))))) :
    Go (km 6 mX11_strays Q) 40 [some (.inr 0), some (.inl x1), some (.inl x2), some (.inl x3), some (.inl x4)] [] M := by
  refine a_iload (pc := 40) dX11_strays_40 rfl ?_
  refine a_iload_n (pc := 42) dX11_strays_42 rfl ?_
  refine a_icmp_ge (pc := 43) 103 dX11_strays_43 rfl ⟨fun hc => ?_, fun hc => ?_⟩
  · replace h := h.1 hc
    refine a_iload_n (pc := 103) dX11_strays_103 rfl ?_
    exact a_iretI (pc := 104) dX11_strays_104 rfl h
  · replace h := h.2 hc
    refine a_aload_n (pc := 46) dX11_strays_46 rfl ?_
    refine a_getr (pc := 47) dX11_strays_47 f_X11_56 rfl ?_
    refine a_geti (pc := 50) 5 dX11_strays_50 f_X11_213 rfl rfl ?_
    refine a_sipush (pc := 53) dX11_strays_53 (by decide) (cnb rfl) ?_
    refine a_icmp_ge (pc := 56) 103 dX11_strays_56 rfl ⟨fun hc => ?_, fun hc => ?_⟩
    · replace h := h.1 hc
      refine a_iload_n (pc := 103) dX11_strays_103 rfl ?_
      exact a_iretI (pc := 104) dX11_strays_104 rfl h
    · replace h := h.2 hc
      refine a_aload_n (pc := 59) dX11_strays_59 rfl ?_
      refine a_getr (pc := 60) dX11_strays_60 f_X11_64 rfl ?_
      refine a_aload_n (pc := 63) dX11_strays_63 rfl ?_
      refine a_getr (pc := 64) dX11_strays_64 f_X11_56 rfl ?_
      refine a_callVi (pc := 67) (d := 5) (st := []) (o := 55) [.inr 49] dX11_strays_67 l_X11_203 in_X10_season se_X10_season rfl rfl rfl ⟨Nat.le_of_ble_eq_true rfl, Nat.le_of_ble_eq_true rfl⟩ ⟨Nat.le_of_ble_eq_true rfl, Nat.le_of_ble_eq_true rfl⟩ (Nat.le_of_ble_eq_true rfl) ?_
      refine Calls.mono (fun r67 M67 hr67 hM67 h => ?_) h
      refine a_pop (pc := 70) dX11_strays_70 ?_
      refine a_iload_n (pc := 71) dX11_strays_71 rfl ?_
      refine a_aload_n (pc := 72) dX11_strays_72 rfl ?_
      refine a_getr (pc := 73) dX11_strays_73 f_X11_19 rfl ?_
      refine a_getr (pc := 76) dX11_strays_76 f_X11_172 rfl ?_
      refine a_iload_n (pc := 79) dX11_strays_79 rfl ?_
      refine a_iald (pc := 80) dX11_strays_80 rfl h.1.1 h.1.2  ?_
      replace h := h.2
      refine a_aload_n (pc := 81) dX11_strays_81 rfl ?_
      refine a_getr (pc := 82) dX11_strays_82 f_X11_56 rfl ?_
      refine a_getr (pc := 85) dX11_strays_85 f_X11_163 rfl ?_
      refine a_iload_n (pc := 88) dX11_strays_88 rfl ?_
      refine a_iald (pc := 89) dX11_strays_89 rfl h.1.1 h.1.2  ?_
      replace h := h.2
      refine a_callSi (pc := 90) (d := 1) (st := [.inl x3]) [.inl (M67 4 x1), .inl (M67 51 x1)] dX11_strays_90 l_X11_210 st_X11_steps rfl ⟨Nat.le_of_ble_eq_true rfl, Nat.le_of_ble_eq_true rfl⟩ ⟨Nat.le_of_ble_eq_true rfl, Nat.le_of_ble_eq_true rfl⟩ (Nat.le_of_ble_eq_true rfl) ?_
      have hp90_3 := h.1
      replace h := h.2
      have hp90_4 := h.1
      replace h := h.2
      refine p_X11_steps hp90_3 hp90_4 ?_
      refine a_mmax (pc := 93) dX11_strays_93 ml_X11_215 mt_st_max mt_ini mt_cd_max ⟨Nat.le_of_ble_eq_true rfl, Nat.le_of_ble_eq_true rfl⟩ ⟨Nat.le_of_ble_eq_true rfl, Nat.le_of_ble_eq_true rfl⟩ (Nat.le_of_ble_eq_true rfl) ?_
      refine a_istore_n (pc := 96) dX11_strays_96 (Nat.le_of_ble_eq_true rfl) ?_
      refine a_iinc (pc := 97) dX11_strays_97 rfl h.1 (Nat.le_of_ble_eq_true rfl) ?_
      replace h := h.2
      refine a_goto (pc := 100) 40 dX11_strays_100 rfl ?_
      exact h
set_option maxRecDepth 20000 in
theorem s_X12_strays_0 {Q : Int → Me → Prop}  (a b : Int) (M : Me) (h :
    0 ≤ M 76 11 ∧
    ((0 ≤ a ∧ a < M 76 11 →
    ((1 ≤ b ∧ b ≤ 100 →
    Calls 0 mX12_copies [.inr 77, .inr 78] M (fun r28 M28 =>
    Go (km 5 mX12_strays Q) 36 [some (.inr 76), some (.inl a), some (.inl b), some (.inl 0), some (.inl 0)] [] M28)) ∧ (¬ (1 ≤ b ∧ b ≤ 100) →
    Q (-1) M))) ∧ (¬ (0 ≤ a ∧ a < M 76 11) →
    Q (-1) M))) :
    Go (km 5 mX12_strays Q) 0 [some (.inr 76), some (.inl a), some (.inl b), none, none] [] M := by
  refine a_aload_n (pc := 0) dX12_strays_0 rfl ?_
  refine a_iload_n (pc := 1) dX12_strays_1 rfl ?_
  refine a_callVi (pc := 2) (d := 1) (st := []) (o := 76) [.inl a] dX12_strays_2 l_X12_164 in_X12_isCut se_X12_isCut rfl rfl rfl ⟨Nat.le_of_ble_eq_true rfl, Nat.le_of_ble_eq_true rfl⟩ ⟨Nat.le_of_ble_eq_true rfl, Nat.le_of_ble_eq_true rfl⟩ (Nat.le_of_ble_eq_true rfl) ?_
  have hp2_1 := h.1
  replace h := h.2
  refine p_X12_isCut hp2_1 ⟨fun hc => ?_, fun hc => ?_⟩
  · replace h := h.1 hc
    refine a_if_eq (pc := 5) 18 dX12_strays_5 rfl ⟨fun hc => absurd hc (by decide), fun _ => ?_⟩
    refine a_iload_n (pc := 8) dX12_strays_8 rfl ?_
    refine a_iconst (pc := 9) dX12_strays_9 (cnb rfl) ?_
    refine a_bipush (pc := 10) dX12_strays_10 (by decide) (cnb rfl) ?_
    refine a_callSi (pc := 12) (d := 0) (st := []) [.inl b, .inl 1, .inl 100] dX12_strays_12 l_X12_156 st_X12_in rfl ⟨Nat.le_of_ble_eq_true rfl, Nat.le_of_ble_eq_true rfl⟩ ⟨Nat.le_of_ble_eq_true rfl, Nat.le_of_ble_eq_true rfl⟩ (Nat.le_of_ble_eq_true rfl) ?_
    refine p_X12_in ⟨fun hc => ?_, fun hc => ?_⟩
    · replace h := h.1 hc
      refine a_if_ne (pc := 15) 20 dX12_strays_15 rfl ⟨fun _ => ?_, fun hc => absurd hc (by decide)⟩
      refine a_aload_n (pc := 20) dX12_strays_20 rfl ?_
      refine a_getr (pc := 21) dX12_strays_21 f_X12_7 rfl ?_
      refine a_aload_n (pc := 24) dX12_strays_24 rfl ?_
      refine a_getr (pc := 25) dX12_strays_25 f_X12_13 rfl ?_
      refine a_callSv (pc := 28) (d := 0) (st := []) [.inr 77, .inr 78] dX12_strays_28 l_X12_346 st_X12_copies rfl ⟨Nat.le_of_ble_eq_true rfl, Nat.le_of_ble_eq_true rfl⟩ ⟨Nat.le_of_ble_eq_true rfl, Nat.le_of_ble_eq_true rfl⟩ (Nat.le_of_ble_eq_true rfl) ?_
      refine Calls.mono (fun r28 M28 hr28 hM28 h => ?_) h
      refine a_iconst (pc := 31) dX12_strays_31 (cnb rfl) ?_
      refine a_istore_n (pc := 32) dX12_strays_32 (Nat.le_of_ble_eq_true rfl) ?_
      refine a_iconst (pc := 33) dX12_strays_33 (cnb rfl) ?_
      refine a_istore (pc := 34) dX12_strays_34 (Nat.le_of_ble_eq_true rfl) ?_
      exact h
    · replace h := h.2 hc
      refine a_if_ne (pc := 15) 20 dX12_strays_15 rfl ⟨fun hc => absurd hc (by decide), fun _ => ?_⟩
      refine a_iconst (pc := 18) dX12_strays_18 (cnb rfl) ?_
      exact a_iretI (pc := 19) dX12_strays_19 rfl h
  · replace h := h.2 hc
    refine a_if_eq (pc := 5) 18 dX12_strays_5 rfl ⟨fun _ => ?_, fun hc => absurd hc (by decide)⟩
    refine a_iconst (pc := 18) dX12_strays_18 (cnb rfl) ?_
    exact a_iretI (pc := 19) dX12_strays_19 rfl h
set_option maxRecDepth 20000 in
theorem e_X12_strays {Q : Int → Me → Prop}  {a b : Int} {M : Me} (h :
    0 ≤ M 76 11 ∧
    ((0 ≤ a ∧ a < M 76 11 →
    ((1 ≤ b ∧ b ≤ 100 →
    Calls 0 mX12_copies [.inr 77, .inr 78] M (fun r28 M28 =>
    Go (km 5 mX12_strays Q) 36 [some (.inr 76), some (.inl a), some (.inl b), some (.inl 0), some (.inl 0)] [] M28)) ∧ (¬ (1 ≤ b ∧ b ≤ 100) →
    Q (-1) M))) ∧ (¬ (0 ≤ a ∧ a < M 76 11) →
    Q (-1) M))) : Calls 5 mX12_strays [.inr 76, .inl a, .inl b] M Q := Calls.of (by decide) (Nat.le_of_ble_eq_true rfl) (s_X12_strays_0  a b M h)
set_option maxRecDepth 20000 in
theorem s_X12_strays_36 {Q : Int → Me → Prop}  (x1 x2 x3 x4 : Int) (M : Me) (h :
    ((x2 ≤ x4 →
    Calls 0 mX12_copies [.inr 78, .inr 77] M (fun r96 M96 =>
    Q x3 M96)) ∧ (x4 < x2 →
    ((9999 ≤ M 77 80 →
    Calls 0 mX12_copies [.inr 78, .inr 77] M (fun r96 M96 =>
    Q x3 M96)) ∧ (M 77 80 < 9999 →
    Calls 4 mX12_seasonGoes [.inr 76] M (fun r56 M56 =>
    cn (16 + x1) ∧
    (0 ≤ 16 + x1 ∧ 16 + x1 < 82) ∧
    (0 ≤ x1 ∧ x1 < 16) ∧
    0 ≤ M56 77 (16 + x1) ∧
    0 ≤ M56 80 x1 ∧
    cn (x4 + 1) ∧
    Go (km 5 mX12_strays Q) 36 [some (.inr 76), some (.inl x1), some (.inl x2), some (.inl (max x3 (dst (M56 77 (16 + x1)) (M56 80 x1)))), some (.inl (x4 + 1))] [] M56)))))) :
    Go (km 5 mX12_strays Q) 36 [some (.inr 76), some (.inl x1), some (.inl x2), some (.inl x3), some (.inl x4)] [] M := by
  refine a_iload (pc := 36) dX12_strays_36 rfl ?_
  refine a_iload_n (pc := 38) dX12_strays_38 rfl ?_
  refine a_icmp_ge (pc := 39) 88 dX12_strays_39 rfl ⟨fun hc => ?_, fun hc => ?_⟩
  · replace h := h.1 hc
    refine a_aload_n (pc := 88) dX12_strays_88 rfl ?_
    refine a_getr (pc := 89) dX12_strays_89 f_X12_13 rfl ?_
    refine a_aload_n (pc := 92) dX12_strays_92 rfl ?_
    refine a_getr (pc := 93) dX12_strays_93 f_X12_7 rfl ?_
    refine a_callSv (pc := 96) (d := 0) (st := []) [.inr 78, .inr 77] dX12_strays_96 l_X12_346 st_X12_copies rfl ⟨Nat.le_of_ble_eq_true rfl, Nat.le_of_ble_eq_true rfl⟩ ⟨Nat.le_of_ble_eq_true rfl, Nat.le_of_ble_eq_true rfl⟩ (Nat.le_of_ble_eq_true rfl) ?_
    refine Calls.mono (fun r96 M96 hr96 hM96 h => ?_) h
    refine a_iload_n (pc := 99) dX12_strays_99 rfl ?_
    exact a_iretI (pc := 100) dX12_strays_100 rfl h
  · replace h := h.2 hc
    refine a_aload_n (pc := 42) dX12_strays_42 rfl ?_
    refine a_getr (pc := 43) dX12_strays_43 f_X12_7 rfl ?_
    refine a_bipush (pc := 46) dX12_strays_46 (by decide) (cnb rfl) ?_
    refine a_iald (pc := 48) dX12_strays_48 rfl (by decide) (by decide)  ?_
    refine a_sipush (pc := 49) dX12_strays_49 (by decide) (cnb rfl) ?_
    refine a_icmp_ge (pc := 52) 88 dX12_strays_52 rfl ⟨fun hc => ?_, fun hc => ?_⟩
    · replace h := h.1 hc
      refine a_aload_n (pc := 88) dX12_strays_88 rfl ?_
      refine a_getr (pc := 89) dX12_strays_89 f_X12_13 rfl ?_
      refine a_aload_n (pc := 92) dX12_strays_92 rfl ?_
      refine a_getr (pc := 93) dX12_strays_93 f_X12_7 rfl ?_
      refine a_callSv (pc := 96) (d := 0) (st := []) [.inr 78, .inr 77] dX12_strays_96 l_X12_346 st_X12_copies rfl ⟨Nat.le_of_ble_eq_true rfl, Nat.le_of_ble_eq_true rfl⟩ ⟨Nat.le_of_ble_eq_true rfl, Nat.le_of_ble_eq_true rfl⟩ (Nat.le_of_ble_eq_true rfl) ?_
      refine Calls.mono (fun r96 M96 hr96 hM96 h => ?_) h
      refine a_iload_n (pc := 99) dX12_strays_99 rfl ?_
      exact a_iretI (pc := 100) dX12_strays_100 rfl h
    · replace h := h.2 hc
      refine a_aload_n (pc := 55) dX12_strays_55 rfl ?_
      refine a_callVv (pc := 56) (d := 4) (st := []) (o := 76) [] dX12_strays_56 l_X12_340 in_X12_seasonGoes se_X12_seasonGoes rfl rfl rfl ⟨Nat.le_of_ble_eq_true rfl, Nat.le_of_ble_eq_true rfl⟩ ⟨Nat.le_of_ble_eq_true rfl, Nat.le_of_ble_eq_true rfl⟩ (Nat.le_of_ble_eq_true rfl) ?_
      refine Calls.mono (fun r56 M56 hr56 hM56 h => ?_) h
      refine a_iload_n (pc := 59) dX12_strays_59 rfl ?_
      refine a_aload_n (pc := 60) dX12_strays_60 rfl ?_
      refine a_getr (pc := 61) dX12_strays_61 f_X12_7 rfl ?_
      refine a_bipush (pc := 64) dX12_strays_64 (by decide) (cnb rfl) ?_
      refine a_iload_n (pc := 66) dX12_strays_66 rfl ?_
      refine a_iadd (pc := 67) dX12_strays_67 h.1 ?_
      replace h := h.2
      refine a_iald (pc := 68) dX12_strays_68 rfl h.1.1 h.1.2  ?_
      replace h := h.2
      refine a_aload_n (pc := 69) dX12_strays_69 rfl ?_
      refine a_getr (pc := 70) dX12_strays_70 f_X12_19 rfl ?_
      refine a_iload_n (pc := 73) dX12_strays_73 rfl ?_
      refine a_iald (pc := 74) dX12_strays_74 rfl h.1.1 h.1.2  ?_
      replace h := h.2
      refine a_callSi (pc := 75) (d := 1) (st := [.inl x3]) [.inl (M56 77 (16 + x1)), .inl (M56 80 x1)] dX12_strays_75 l_X12_303 st_X12_stepsBetween rfl ⟨Nat.le_of_ble_eq_true rfl, Nat.le_of_ble_eq_true rfl⟩ ⟨Nat.le_of_ble_eq_true rfl, Nat.le_of_ble_eq_true rfl⟩ (Nat.le_of_ble_eq_true rfl) ?_
      have hp75_4 := h.1
      replace h := h.2
      have hp75_5 := h.1
      replace h := h.2
      refine p_X12_stepsBetween hp75_4 hp75_5 ?_
      refine a_callSi (pc := 78) (d := 0) (st := []) [.inl x3, .inl (dst (M56 77 (16 + x1)) (M56 80 x1))] dX12_strays_78 l_X12_334 st_X12_max rfl ⟨Nat.le_of_ble_eq_true rfl, Nat.le_of_ble_eq_true rfl⟩ ⟨Nat.le_of_ble_eq_true rfl, Nat.le_of_ble_eq_true rfl⟩ (Nat.le_of_ble_eq_true rfl) ?_
      refine p_X12_max ?_
      refine a_istore_n (pc := 81) dX12_strays_81 (Nat.le_of_ble_eq_true rfl) ?_
      refine a_iinc (pc := 82) dX12_strays_82 rfl h.1 (Nat.le_of_ble_eq_true rfl) ?_
      replace h := h.2
      refine a_goto (pc := 85) 36 dX12_strays_85 rfl ?_
      exact h
