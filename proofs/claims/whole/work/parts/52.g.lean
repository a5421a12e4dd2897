set_option maxRecDepth 20000 in
theorem s_X7_read_0 {Q : Int → Me → Prop}  (a : Int) (M : Me) (h :
    Go (km 1 mX7_read Q) 2 [some (.inr 66), some (.inr 1), some (.inl a), some (.inl 0), none, none, none, none] [] M) :
    Go (km 1 mX7_read Q) 0 [some (.inr 66), some (.inr 1), some (.inl a), none, none, none, none, none] [] M := by
  refine a_iconst (pc := 0) dX7_read_0 (cnb rfl) ?_
  refine a_istore_n (pc := 1) dX7_read_1 (Nat.le_of_ble_eq_true rfl) ?_
  exact h
set_option maxRecDepth 20000 in
theorem e_X7_read {Q : Int → Me → Prop}  {a : Int} {M : Me} (h :
    Go (km 1 mX7_read Q) 2 [some (.inr 66), some (.inr 1), some (.inl a), some (.inl 0), none, none, none, none] [] M) : Calls 1 mX7_read [.inr 66, .inr 1, .inl a] M Q := Calls.of (by decide) (Nat.le_of_ble_eq_true rfl) (s_X7_read_0  a M h)
set_option maxRecDepth 20000 in
theorem s_X7_read_2 {Q : Int → Me → Prop}  (x2 x3 : Int) (M : Me) (h :
    ((128 ≤ x3 →
    Go (km 1 mX7_read Q) 34 [some (.inr 66), some (.inr 1), some (.inl x2), some (.inl 0), some (.inl 0), none, none, none] [] (mput M 66 2 0)) ∧ (x3 < 128 →
    (0 ≤ x3 ∧ x3 < 128) ∧
    cn (x3 + 1) ∧
    Go (km 1 mX7_read Q) 2 [some (.inr 66), some (.inr 1), some (.inl x2), some (.inl (x3 + 1)), none, none, none, none] [] (mput M 68 x3 0)))) :
    Go (km 1 mX7_read Q) 2 [some (.inr 66), some (.inr 1), some (.inl x2), some (.inl x3), none, none, none, none] [] M := by
  refine a_iload_n (pc := 2) dX7_read_2 rfl ?_
  refine a_aload_n (pc := 3) dX7_read_3 rfl ?_
  refine a_getr (pc := 4) dX7_read_4 f_X7_15 rfl ?_
  refine a_alen (pc := 7) 128 dX7_read_7 rfl rfl (cnb rfl) ?_
  refine a_icmp_ge (pc := 8) 24 dX7_read_8 rfl ⟨fun hc => ?_, fun hc => ?_⟩
  · replace h := h.1 hc
    refine a_aload_n (pc := 24) dX7_read_24 rfl ?_
    refine a_iconst (pc := 25) dX7_read_25 (cnb rfl) ?_
    refine a_puti (pc := 26) 2 dX7_read_26 f_X7_18 rfl rfl (Or.inl rfl) ?_
    refine a_iconst (pc := 29) dX7_read_29 (cnb rfl) ?_
    refine a_istore_n (pc := 30) dX7_read_30 (Nat.le_of_ble_eq_true rfl) ?_
    refine a_iconst (pc := 31) dX7_read_31 (cnb rfl) ?_
    refine a_istore (pc := 32) dX7_read_32 (Nat.le_of_ble_eq_true rfl) ?_
    exact h
  · replace h := h.2 hc
    refine a_aload_n (pc := 11) dX7_read_11 rfl ?_
    refine a_getr (pc := 12) dX7_read_12 f_X7_15 rfl ?_
    refine a_iload_n (pc := 15) dX7_read_15 rfl ?_
    refine a_iconst (pc := 16) dX7_read_16 (cnb rfl) ?_
    refine a_iast (pc := 17) dX7_read_17 rfl h.1.1 h.1.2 ?_
    replace h := h.2
    refine a_iinc (pc := 18) dX7_read_18 rfl h.1 (Nat.le_of_ble_eq_true rfl) ?_
    replace h := h.2
    refine a_goto (pc := 21) 2 dX7_read_21 rfl ?_
    exact h
set_option maxRecDepth 20000 in
theorem s_X7_read_34 {Q : Int → Me → Prop}  (x2 x3 x4 : Int) (M : Me) (h :
    ((x2 ≤ x4 →
    ((x3 ≠ 0 →
    Q 0 M) ∧ (x3 = 0 →
    Q 1 M))) ∧ (x4 < x2 →
    M 1 1 ≤ 260 ∧
    ((0 ≤ x4 ∧ x4 < M 1 1 →
    ((M 2 x4 ≠ 255 →
    ((M 2 x4 < 0 →
    ((8 ≤ M 66 2 →
    Q 0 M) ∧ (M 66 2 < 8 →
    Q 0 M))) ∧ (0 ≤ M 2 x4 →
    ((16 ≤ M 2 x4 →
    ((8 ≤ M 66 2 →
    Q 0 M) ∧ (M 66 2 < 8 →
    Q 0 M))) ∧ (M 2 x4 < 16 →
    ((8 ≤ M 66 2 →
    Q 0 M) ∧ (M 66 2 < 8 →
    cn (16 * (M 66 2)) ∧
    cn ((16 * (M 66 2)) + (M 2 x4)) ∧
    (0 ≤ (16 * (M 66 2)) + (M 2 x4) ∧ (16 * (M 66 2)) + (M 2 x4) < 128) ∧
    cn ((M 68 ((16 * (M 66 2)) + (M 2 x4))) + 1) ∧
    (0 ≤ (16 * (M 66 2)) + (M 2 x4) ∧ (16 * (M 66 2)) + (M 2 x4) < 128) ∧
    cn (x3 + 1) ∧
    cn (x4 + 1) ∧
    Go (km 1 mX7_read Q) 34 [some (.inr 66), some (.inr 1), some (.inl x2), some (.inl (x3 + 1)), some (.inl (x4 + 1)), none, none, none] [] (mput M 68 ((16 * (M 66 2)) + (M 2 x4)) ((M 68 ((16 * (M 66 2)) + (M 2 x4))) + 1))))))))) ∧ (M 2 x4 = 255 →
    ((M 2 x4 < 0 →
    ((8 ≤ M 66 2 →
    Q 0 M) ∧ (M 66 2 < 8 →
    ((x3 = 0 →
    Q 0 M) ∧ (x3 ≠ 0 →
    cn ((M 66 2) + 1) ∧
    cn (x4 + 1) ∧
    Go (km 1 mX7_read Q) 34 [some (.inr 66), some (.inr 1), some (.inl x2), some (.inl 0), some (.inl (x4 + 1)), none, none, none] [] (mput M 66 2 ((M 66 2) + 1))))))) ∧ (0 ≤ M 2 x4 →
    ((16 ≤ M 2 x4 →
    ((8 ≤ M 66 2 →
    Q 0 M) ∧ (M 66 2 < 8 →
    ((x3 = 0 →
    Q 0 M) ∧ (x3 ≠ 0 →
    cn ((M 66 2) + 1) ∧
    cn (x4 + 1) ∧
    Go (km 1 mX7_read Q) 34 [some (.inr 66), some (.inr 1), some (.inl x2), some (.inl 0), some (.inl (x4 + 1)), none, none, none] [] (mput M 66 2 ((M 66 2) + 1))))))) ∧ (M 2 x4 < 16 →
    ((8 ≤ M 66 2 →
    Q 0 M) ∧ (M 66 2 < 8 →
    ((x3 = 0 →
    Q 0 M) ∧ (x3 ≠ 0 →
    cn ((M 66 2) + 1) ∧
    cn (x4 + 1) ∧
    Go (km 1 mX7_read Q) 34 [some (.inr 66), some (.inr 1), some (.inl x2), some (.inl 0), some (.inl (x4 + 1)), none, none, none] [] (mput M 66 2 ((M 66 2) + 1))))))))))))) ∧ (¬ (0 ≤ x4 ∧ x4 < M 1 1) →
    ((8 ≤ M 66 2 →
    Q 0 M) ∧ (M 66 2 < 8 →
    Q 0 M))))))) :
    Go (km 1 mX7_read Q) 34 [some (.inr 66), some (.inr 1), some (.inl x2), some (.inl x3), some (.inl x4), none, none, none] [] M := by
  refine a_iload (pc := 34) dX7_read_34 rfl ?_
  refine a_iload_n (pc := 36) dX7_read_36 rfl ?_
  refine a_icmp_ge (pc := 37) 160 dX7_read_37 rfl ⟨fun hc => ?_, fun hc => ?_⟩
  · replace h := h.1 hc
    refine a_iload_n (pc := 160) dX7_read_160 rfl ?_
    refine a_if_ne (pc := 161) 168 dX7_read_161 rfl ⟨fun hc => ?_, fun hc => ?_⟩
    · replace h := h.1 hc
      refine a_iconst (pc := 168) dX7_read_168 (cnb rfl) ?_
      exact a_iretZ (pc := 169) dX7_read_169 rfl (by decide) h
    · replace h := h.2 hc
      refine a_iconst (pc := 164) dX7_read_164 (cnb rfl) ?_
      refine a_goto (pc := 165) 169 dX7_read_165 rfl ?_
      exact a_iretZ (pc := 169) dX7_read_169 rfl (by decide) h
  · replace h := h.2 hc
    refine a_aload_n (pc := 40) dX7_read_40 rfl ?_
    refine a_iload (pc := 41) dX7_read_41 rfl ?_
    refine a_callVi (pc := 43) (d := 0) (st := []) (o := 1) [.inl x4] dX7_read_43 l_X7_22 in_X9_byteAt se_X9_byteAt rfl rfl rfl ⟨Nat.le_of_ble_eq_true rfl, Nat.le_of_ble_eq_true rfl⟩ ⟨Nat.le_of_ble_eq_true rfl, Nat.le_of_ble_eq_true rfl⟩ (Nat.le_of_ble_eq_true rfl) ?_
    have hp43_1 := h.1
    replace h := h.2
    refine p_X9_byteAt hp43_1 ⟨fun hc => ?_, fun hc => ?_⟩
    · replace h := h.1 hc
      refine a_istore (pc := 46) dX7_read_46 (Nat.le_of_ble_eq_true rfl) ?_
      refine a_iload (pc := 48) dX7_read_48 rfl ?_
      refine a_sipush (pc := 50) dX7_read_50 (by decide) (cnb rfl) ?_
      refine a_icmp_ne (pc := 53) 60 dX7_read_53 rfl ⟨fun hc => ?_, fun hc => ?_⟩
      · replace h := h.1 hc
        refine a_iconst (pc := 60) dX7_read_60 (cnb rfl) ?_
        refine a_istore (pc := 61) dX7_read_61 (Nat.le_of_ble_eq_true rfl) ?_
        refine a_iload (pc := 63) dX7_read_63 rfl ?_
        refine a_if_lt (pc := 65) 79 dX7_read_65 rfl ⟨fun hc => ?_, fun hc => ?_⟩
        · replace h := h.1 hc
          refine a_iconst (pc := 79) dX7_read_79 (cnb rfl) ?_
          refine a_istore (pc := 80) dX7_read_80 (Nat.le_of_ble_eq_true rfl) ?_
          refine a_aload_n (pc := 82) dX7_read_82 rfl ?_
          refine a_geti (pc := 83) 2 dX7_read_83 f_X7_18 rfl rfl ?_
          refine a_bipush (pc := 86) dX7_read_86 (by decide) (cnb rfl) ?_
          refine a_icmp_ge (pc := 88) 110 dX7_read_88 rfl ⟨fun hc => ?_, fun hc => ?_⟩
          · replace h := h.1 hc
            refine a_iconst (pc := 110) dX7_read_110 (cnb rfl) ?_
            exact a_iretZ (pc := 111) dX7_read_111 rfl (by decide) h
          · replace h := h.2 hc
            refine a_iload (pc := 91) dX7_read_91 rfl ?_
            refine a_if_eq (pc := 93) 100 dX7_read_93 rfl ⟨fun _ => ?_, fun hc => absurd hc (by decide)⟩
            refine a_iload (pc := 100) dX7_read_100 rfl ?_
            refine a_if_ne (pc := 102) 112 dX7_read_102 rfl ⟨fun hc => absurd hc (by decide), fun _ => ?_⟩
            refine a_iload (pc := 105) dX7_read_105 rfl ?_
            refine a_if_ne (pc := 107) 112 dX7_read_107 rfl ⟨fun hc => absurd hc (by decide), fun _ => ?_⟩
            refine a_iconst (pc := 110) dX7_read_110 (cnb rfl) ?_
            exact a_iretZ (pc := 111) dX7_read_111 rfl (by decide) h
        · replace h := h.2 hc
          refine a_iload (pc := 68) dX7_read_68 rfl ?_
          refine a_bipush (pc := 70) dX7_read_70 (by decide) (cnb rfl) ?_
          refine a_icmp_ge (pc := 72) 79 dX7_read_72 rfl ⟨fun hc => ?_, fun hc => ?_⟩
          · replace h := h.1 hc
            refine a_iconst (pc := 79) dX7_read_79 (cnb rfl) ?_
            refine a_istore (pc := 80) dX7_read_80 (Nat.le_of_ble_eq_true rfl) ?_
            refine a_aload_n (pc := 82) dX7_read_82 rfl ?_
            refine a_geti (pc := 83) 2 dX7_read_83 f_X7_18 rfl rfl ?_
            refine a_bipush (pc := 86) dX7_read_86 (by decide) (cnb rfl) ?_
            refine a_icmp_ge (pc := 88) 110 dX7_read_88 rfl ⟨fun hc => ?_, fun hc => ?_⟩
            · replace h := h.1 hc
              refine a_iconst (pc := 110) dX7_read_110 (cnb rfl) ?_
              exact a_iretZ (pc := 111) dX7_read_111 rfl (by decide) h
            · replace h := h.2 hc
              refine a_iload (pc := 91) dX7_read_91 rfl ?_
              refine a_if_eq (pc := 93) 100 dX7_read_93 rfl ⟨fun _ => ?_, fun hc => absurd hc (by decide)⟩
              refine a_iload (pc := 100) dX7_read_100 rfl ?_
              refine a_if_ne (pc := 102) 112 dX7_read_102 rfl ⟨fun hc => absurd hc (by decide), fun _ => ?_⟩
              refine a_iload (pc := 105) dX7_read_105 rfl ?_
              refine a_if_ne (pc := 107) 112 dX7_read_107 rfl ⟨fun hc => absurd hc (by decide), fun _ => ?_⟩
              refine a_iconst (pc := 110) dX7_read_110 (cnb rfl) ?_
              exact a_iretZ (pc := 111) dX7_read_111 rfl (by decide) h
          · replace h := h.2 hc
            refine a_iconst (pc := 75) dX7_read_75 (cnb rfl) ?_
            refine a_goto (pc := 76) 80 dX7_read_76 rfl ?_
            refine a_istore (pc := 80) dX7_read_80 (Nat.le_of_ble_eq_true rfl) ?_
            refine a_aload_n (pc := 82) dX7_read_82 rfl ?_
            refine a_geti (pc := 83) 2 dX7_read_83 f_X7_18 rfl rfl ?_
            refine a_bipush (pc := 86) dX7_read_86 (by decide) (cnb rfl) ?_
            refine a_icmp_ge (pc := 88) 110 dX7_read_88 rfl ⟨fun hc => ?_, fun hc => ?_⟩
            · replace h := h.1 hc
              refine a_iconst (pc := 110) dX7_read_110 (cnb rfl) ?_
              exact a_iretZ (pc := 111) dX7_read_111 rfl (by decide) h
            · replace h := h.2 hc
              refine a_iload (pc := 91) dX7_read_91 rfl ?_
              refine a_if_eq (pc := 93) 100 dX7_read_93 rfl ⟨fun _ => ?_, fun hc => absurd hc (by decide)⟩
              refine a_iload (pc := 100) dX7_read_100 rfl ?_
              refine a_if_ne (pc := 102) 112 dX7_read_102 rfl ⟨fun hc => absurd hc (by decide), fun _ => ?_⟩
              refine a_iload (pc := 105) dX7_read_105 rfl ?_
              refine a_if_ne (pc := 107) 112 dX7_read_107 rfl ⟨fun _ => ?_, fun hc => absurd hc (by decide)⟩
              refine a_iload (pc := 112) dX7_read_112 rfl ?_
              refine a_if_eq (pc := 114) 132 dX7_read_114 rfl ⟨fun _ => ?_, fun hc => absurd hc (by decide)⟩
              refine a_aload_n (pc := 132) dX7_read_132 rfl ?_
              refine a_getr (pc := 133) dX7_read_133 f_X7_15 rfl ?_
              refine a_bipush (pc := 136) dX7_read_136 (by decide) (cnb rfl) ?_
              refine a_aload_n (pc := 138) dX7_read_138 rfl ?_
              refine a_geti (pc := 139) 2 dX7_read_139 f_X7_18 rfl rfl ?_
              refine a_imul (pc := 142) dX7_read_142 h.1 ?_
              replace h := h.2
              refine a_iload (pc := 143) dX7_read_143 rfl ?_
              refine a_iadd (pc := 145) dX7_read_145 h.1 ?_
              replace h := h.2
              refine a_dup2 (pc := 146) dX7_read_146 ?_
              refine a_iald (pc := 147) dX7_read_147 rfl h.1.1 h.1.2  ?_
              replace h := h.2
              refine a_iconst (pc := 148) dX7_read_148 (cnb rfl) ?_
              refine a_iadd (pc := 149) dX7_read_149 h.1 ?_
              replace h := h.2
              refine a_iast (pc := 150) dX7_read_150 rfl h.1.1 h.1.2 ?_
              replace h := h.2
              refine a_iinc (pc := 151) dX7_read_151 rfl h.1 (Nat.le_of_ble_eq_true rfl) ?_
              replace h := h.2
              refine a_iinc (pc := 154) dX7_read_154 rfl h.1 (Nat.le_of_ble_eq_true rfl) ?_
              replace h := h.2
              refine a_goto (pc := 157) 34 dX7_read_157 rfl ?_
              exact Go.weak h (And.intro rfl (And.intro rfl (And.intro rfl (And.intro rfl (And.intro rfl True.intro)))))
      · replace h := h.2 hc
        refine a_iconst (pc := 56) dX7_read_56 (cnb rfl) ?_
        refine a_goto (pc := 57) 61 dX7_read_57 rfl ?_
        refine a_istore (pc := 61) dX7_read_61 (Nat.le_of_ble_eq_true rfl) ?_
        refine a_iload (pc := 63) dX7_read_63 rfl ?_
        refine a_if_lt (pc := 65) 79 dX7_read_65 rfl ⟨fun hc => ?_, fun hc => ?_⟩
        · replace h := h.1 hc
          refine a_iconst (pc := 79) dX7_read_79 (cnb rfl) ?_
          refine a_istore (pc := 80) dX7_read_80 (Nat.le_of_ble_eq_true rfl) ?_
          refine a_aload_n (pc := 82) dX7_read_82 rfl ?_
          refine a_geti (pc := 83) 2 dX7_read_83 f_X7_18 rfl rfl ?_
          refine a_bipush (pc := 86) dX7_read_86 (by decide) (cnb rfl) ?_
          refine a_icmp_ge (pc := 88) 110 dX7_read_88 rfl ⟨fun hc => ?_, fun hc => ?_⟩
          · replace h := h.1 hc
            refine a_iconst (pc := 110) dX7_read_110 (cnb rfl) ?_
            exact a_iretZ (pc := 111) dX7_read_111 rfl (by decide) h
          · replace h := h.2 hc
            refine a_iload (pc := 91) dX7_read_91 rfl ?_
            refine a_if_eq (pc := 93) 100 dX7_read_93 rfl ⟨fun hc => absurd hc (by decide), fun _ => ?_⟩
            refine a_iload_n (pc := 96) dX7_read_96 rfl ?_
            refine a_if_eq (pc := 97) 110 dX7_read_97 rfl ⟨fun hc => ?_, fun hc => ?_⟩
            · replace h := h.1 hc
              refine a_iconst (pc := 110) dX7_read_110 (cnb rfl) ?_
              exact a_iretZ (pc := 111) dX7_read_111 rfl (by decide) h
            · replace h := h.2 hc
              refine a_iload (pc := 100) dX7_read_100 rfl ?_
              refine a_if_ne (pc := 102) 112 dX7_read_102 rfl ⟨fun _ => ?_, fun hc => absurd hc (by decide)⟩
              refine a_iload (pc := 112) dX7_read_112 rfl ?_
              refine a_if_eq (pc := 114) 132 dX7_read_114 rfl ⟨fun hc => absurd hc (by decide), fun _ => ?_⟩
              refine a_aload_n (pc := 117) dX7_read_117 rfl ?_
              refine a_dup (pc := 118) dX7_read_118 ?_
              refine a_geti (pc := 119) 2 dX7_read_119 f_X7_18 rfl rfl ?_
              refine a_iconst (pc := 122) dX7_read_122 (cnb rfl) ?_
              refine a_iadd (pc := 123) dX7_read_123 h.1 ?_
              replace h := h.2
              refine a_puti (pc := 124) 2 dX7_read_124 f_X7_18 rfl rfl (Or.inl rfl) ?_
              refine a_iconst (pc := 127) dX7_read_127 (cnb rfl) ?_
              refine a_istore_n (pc := 128) dX7_read_128 (Nat.le_of_ble_eq_true rfl) ?_
              refine a_goto (pc := 129) 154 dX7_read_129 rfl ?_
              refine a_iinc (pc := 154) dX7_read_154 rfl h.1 (Nat.le_of_ble_eq_true rfl) ?_
              replace h := h.2
              refine a_goto (pc := 157) 34 dX7_read_157 rfl ?_
              exact Go.weak h (And.intro rfl (And.intro rfl (And.intro rfl (And.intro rfl (And.intro rfl True.intro)))))
        · replace h := h.2 hc
          refine a_iload (pc := 68) dX7_read_68 rfl ?_
          refine a_bipush (pc := 70) dX7_read_70 (by decide) (cnb rfl) ?_
          refine a_icmp_ge (pc := 72) 79 dX7_read_72 rfl ⟨fun hc => ?_, fun hc => ?_⟩
          · replace h := h.1 hc
            refine a_iconst (pc := 79) dX7_read_79 (cnb rfl) ?_
            refine a_istore (pc := 80) dX7_read_80 (Nat.le_of_ble_eq_true rfl) ?_
            refine a_aload_n (pc := 82) dX7_read_82 rfl ?_
            refine a_geti (pc := 83) 2 dX7_read_83 f_X7_18 rfl rfl ?_
            refine a_bipush (pc := 86) dX7_read_86 (by decide) (cnb rfl) ?_
            refine a_icmp_ge (pc := 88) 110 dX7_read_88 rfl ⟨fun hc => ?_, fun hc => ?_⟩
            · replace h := h.1 hc
              refine a_iconst (pc := 110) dX7_read_110 (cnb rfl) ?_
              exact a_iretZ (pc := 111) dX7_read_111 rfl (by decide) h
            · replace h := h.2 hc
              refine a_iload (pc := 91) dX7_read_91 rfl ?_
              refine a_if_eq (pc := 93) 100 dX7_read_93 rfl ⟨fun hc => absurd hc (by decide), fun _ => ?_⟩
              refine a_iload_n (pc := 96) dX7_read_96 rfl ?_
              refine a_if_eq (pc := 97) 110 dX7_read_97 rfl ⟨fun hc => ?_, fun hc => ?_⟩
              · replace h := h.1 hc
                refine a_iconst (pc := 110) dX7_read_110 (cnb rfl) ?_
                exact a_iretZ (pc := 111) dX7_read_111 rfl (by decide) h
              · replace h := h.2 hc
                refine a_iload (pc := 100) dX7_read_100 rfl ?_
                refine a_if_ne (pc := 102) 112 dX7_read_102 rfl ⟨fun _ => ?_, fun hc => absurd hc (by decide)⟩
                refine a_iload (pc := 112) dX7_read_112 rfl ?_
                refine a_if_eq (pc := 114) 132 dX7_read_114 rfl ⟨fun hc => absurd hc (by decide), fun _ => ?_⟩
                refine a_aload_n (pc := 117) dX7_read_117 rfl ?_
                refine a_dup (pc := 118) dX7_read_118 ?_
                refine a_geti (pc := 119) 2 dX7_read_119 f_X7_18 rfl rfl ?_
                refine a_iconst (pc := 122) dX7_read_122 (cnb rfl) ?_
                refine a_iadd (pc := 123) dX7_read_123 h.1 ?_
                replace h := h.2
                refine a_puti (pc := 124) 2 dX7_read_124 f_X7_18 rfl rfl (Or.inl rfl) ?_
                refine a_iconst (pc := 127) dX7_read_127 (cnb rfl) ?_
                refine a_istore_n (pc := 128) dX7_read_128 (Nat.le_of_ble_eq_true rfl) ?_
                refine a_goto (pc := 129) 154 dX7_read_129 rfl ?_
                refine a_iinc (pc := 154) dX7_read_154 rfl h.1 (Nat.le_of_ble_eq_true rfl) ?_
                replace h := h.2
                refine a_goto (pc := 157) 34 dX7_read_157 rfl ?_
                exact Go.weak h (And.intro rfl (And.intro rfl (And.intro rfl (And.intro rfl (And.intro rfl True.intro)))))
          · replace h := h.2 hc
            refine a_iconst (pc := 75) dX7_read_75 (cnb rfl) ?_
            refine a_goto (pc := 76) 80 dX7_read_76 rfl ?_
            refine a_istore (pc := 80) dX7_read_80 (Nat.le_of_ble_eq_true rfl) ?_
            refine a_aload_n (pc := 82) dX7_read_82 rfl ?_
            refine a_geti (pc := 83) 2 dX7_read_83 f_X7_18 rfl rfl ?_
            refine a_bipush (pc := 86) dX7_read_86 (by decide) (cnb rfl) ?_
            refine a_icmp_ge (pc := 88) 110 dX7_read_88 rfl ⟨fun hc => ?_, fun hc => ?_⟩
            · replace h := h.1 hc
              refine a_iconst (pc := 110) dX7_read_110 (cnb rfl) ?_
              exact a_iretZ (pc := 111) dX7_read_111 rfl (by decide) h
            · replace h := h.2 hc
              refine a_iload (pc := 91) dX7_read_91 rfl ?_
              refine a_if_eq (pc := 93) 100 dX7_read_93 rfl ⟨fun hc => absurd hc (by decide), fun _ => ?_⟩
              refine a_iload_n (pc := 96) dX7_read_96 rfl ?_
              refine a_if_eq (pc := 97) 110 dX7_read_97 rfl ⟨fun hc => ?_, fun hc => ?_⟩
              · replace h := h.1 hc
                refine a_iconst (pc := 110) dX7_read_110 (cnb rfl) ?_
                exact a_iretZ (pc := 111) dX7_read_111 rfl (by decide) h
              · replace h := h.2 hc
                refine a_iload (pc := 100) dX7_read_100 rfl ?_
                refine a_if_ne (pc := 102) 112 dX7_read_102 rfl ⟨fun _ => ?_, fun hc => absurd hc (by decide)⟩
                refine a_iload (pc := 112) dX7_read_112 rfl ?_
                refine a_if_eq (pc := 114) 132 dX7_read_114 rfl ⟨fun hc => absurd hc (by decide), fun _ => ?_⟩
                refine a_aload_n (pc := 117) dX7_read_117 rfl ?_
                refine a_dup (pc := 118) dX7_read_118 ?_
                refine a_geti (pc := 119) 2 dX7_read_119 f_X7_18 rfl rfl ?_
                refine a_iconst (pc := 122) dX7_read_122 (cnb rfl) ?_
                refine a_iadd (pc := 123) dX7_read_123 h.1 ?_
                replace h := h.2
                refine a_puti (pc := 124) 2 dX7_read_124 f_X7_18 rfl rfl (Or.inl rfl) ?_
                refine a_iconst (pc := 127) dX7_read_127 (cnb rfl) ?_
                refine a_istore_n (pc := 128) dX7_read_128 (Nat.le_of_ble_eq_true rfl) ?_
                refine a_goto (pc := 129) 154 dX7_read_129 rfl ?_
                refine a_iinc (pc := 154) dX7_read_154 rfl h.1 (Nat.le_of_ble_eq_true rfl) ?_
                replace h := h.2
                refine a_goto (pc := 157) 34 dX7_read_157 rfl ?_
                exact Go.weak h (And.intro rfl (And.intro rfl (And.intro rfl (And.intro rfl (And.intro rfl True.intro)))))
    · replace h := h.2 hc
      refine a_istore (pc := 46) dX7_read_46 (Nat.le_of_ble_eq_true rfl) ?_
      refine a_iload (pc := 48) dX7_read_48 rfl ?_
      refine a_sipush (pc := 50) dX7_read_50 (by decide) (cnb rfl) ?_
      refine a_icmp_ne (pc := 53) 60 dX7_read_53 rfl ⟨fun _ => ?_, fun hc => absurd hc (by decide)⟩
      refine a_iconst (pc := 60) dX7_read_60 (cnb rfl) ?_
      refine a_istore (pc := 61) dX7_read_61 (Nat.le_of_ble_eq_true rfl) ?_
      refine a_iload (pc := 63) dX7_read_63 rfl ?_
      refine a_if_lt (pc := 65) 79 dX7_read_65 rfl ⟨fun _ => ?_, fun hc => absurd hc (by decide)⟩
      refine a_iconst (pc := 79) dX7_read_79 (cnb rfl) ?_
      refine a_istore (pc := 80) dX7_read_80 (Nat.le_of_ble_eq_true rfl) ?_
      refine a_aload_n (pc := 82) dX7_read_82 rfl ?_
      refine a_geti (pc := 83) 2 dX7_read_83 f_X7_18 rfl rfl ?_
      refine a_bipush (pc := 86) dX7_read_86 (by decide) (cnb rfl) ?_
      refine a_icmp_ge (pc := 88) 110 dX7_read_88 rfl ⟨fun hc => ?_, fun hc => ?_⟩
      · replace h := h.1 hc
        refine a_iconst (pc := 110) dX7_read_110 (cnb rfl) ?_
        exact a_iretZ (pc := 111) dX7_read_111 rfl (by decide) h
      · replace h := h.2 hc
        refine a_iload (pc := 91) dX7_read_91 rfl ?_
        refine a_if_eq (pc := 93) 100 dX7_read_93 rfl ⟨fun _ => ?_, fun hc => absurd hc (by decide)⟩
        refine a_iload (pc := 100) dX7_read_100 rfl ?_
        refine a_if_ne (pc := 102) 112 dX7_read_102 rfl ⟨fun hc => absurd hc (by decide), fun _ => ?_⟩
        refine a_iload (pc := 105) dX7_read_105 rfl ?_
        refine a_if_ne (pc := 107) 112 dX7_read_107 rfl ⟨fun hc => absurd hc (by decide), fun _ => ?_⟩
        refine a_iconst (pc := 110) dX7_read_110 (cnb rfl) ?_
        exact a_iretZ (pc := 111) dX7_read_111 rfl (by decide) h
set_option maxRecDepth 20000 in
theorem s_X7_stock_0 {Q : Int → Me → Prop}  (M : Me) (h :
    Go (km 1 mX7_stock Q) 2 [some (.inr 66), some (.inr 3), some (.inr 37), some (.inl 0), none] [] M) :
    Go (km 1 mX7_stock Q) 0 [some (.inr 66), some (.inr 3), some (.inr 37), none, none] [] M := by
  refine a_iconst (pc := 0) dX7_stock_0 (cnb rfl) ?_
  refine a_istore_n (pc := 1) dX7_stock_1 (Nat.le_of_ble_eq_true rfl) ?_
  exact h
set_option maxRecDepth 20000 in
theorem e_X7_stock {Q : Int → Me → Prop}  {M : Me} (h :
    Go (km 1 mX7_stock Q) 2 [some (.inr 66), some (.inr 3), some (.inr 37), some (.inl 0), none] [] M) : Calls 1 mX7_stock [.inr 66, .inr 3, .inr 37] M Q := Calls.of (by decide) (Nat.le_of_ble_eq_true rfl) (s_X7_stock_0   M h)
set_option maxRecDepth 20000 in
theorem s_X7_stock_2 {Q : Int → Me → Prop}  (x3 : Int) (M : Me) (h :
    ((16 ≤ x3 →
    Q 0 M) ∧ (x3 < 16 →
    (0 ≤ x3 ∧ x3 < 16) ∧
    Go (km 1 mX7_stock Q) 18 [some (.inr 66), some (.inr 3), some (.inr 37), some (.inl x3), some (.inl 0)] [] (mput M 67 x3 0)))) :
    Go (km 1 mX7_stock Q) 2 [some (.inr 66), some (.inr 3), some (.inr 37), some (.inl x3), none] [] M := by
  refine a_iload_n (pc := 2) dX7_stock_2 rfl ?_
  refine a_bipush (pc := 3) dX7_stock_3 (by decide) (cnb rfl) ?_
  refine a_icmp_ge (pc := 5) 69 dX7_stock_5 rfl ⟨fun hc => ?_, fun hc => ?_⟩
  · replace h := h.1 hc
    exact a_ret (pc := 69) dX7_stock_69 rfl h
  · replace h := h.2 hc
    refine a_aload_n (pc := 8) dX7_stock_8 rfl ?_
    refine a_getr (pc := 9) dX7_stock_9 f_X7_9 rfl ?_
    refine a_iload_n (pc := 12) dX7_stock_12 rfl ?_
    refine a_iconst (pc := 13) dX7_stock_13 (cnb rfl) ?_
    refine a_iast (pc := 14) dX7_stock_14 rfl h.1.1 h.1.2 ?_
    replace h := h.2
    refine a_iconst (pc := 15) dX7_stock_15 (cnb rfl) ?_
    refine a_istore (pc := 16) dX7_stock_16 (Nat.le_of_ble_eq_true rfl) ?_
    exact h
set_option maxRecDepth 20000 in
theorem s_X7_stock_18 {Q : Int → Me → Prop}  (x3 x4 : Int) (M : Me) (h :
    ((M 3 8 ≤ x4 →
    cn (x3 + 1) ∧
    Go (km 1 mX7_stock Q) 2 [some (.inr 66), some (.inr 3), some (.inr 37), some (.inl (x3 + 1)), none] [] M) ∧ (x4 < M 3 8 →
    (0 ≤ x4 ∧ x4 < 16) ∧
    ((M 38 x4 ≠ 2 →
    cn (x4 + 1) ∧
    Go (km 1 mX7_stock Q) 18 [some (.inr 66), some (.inr 3), some (.inr 37), some (.inl x3), some (.inl (x4 + 1))] [] M) ∧ (M 38 x4 = 2 →
    (0 ≤ x3 ∧ x3 < 16) ∧
    (0 ≤ x4 ∧ x4 < 16) ∧
    ((0 ≤ M (3 + 3) x4 →
    cn ((M 67 x3) + (band (bshr (bor (bshl 1 (M (3 + 2) x4)) (bshl 1 (M (3 + 3) x4))) x3) 1)) ∧
    (0 ≤ x3 ∧ x3 < 16) ∧
    cn (x4 + 1) ∧
    Go (km 1 mX7_stock Q) 18 [some (.inr 66), some (.inr 3), some (.inr 37), some (.inl x3), some (.inl (x4 + 1))] [] (mput M 67 x3 ((M 67 x3) + (band (bshr (bor (bshl 1 (M (3 + 2) x4)) (bshl 1 (M (3 + 3) x4))) x3) 1)))) ∧ (¬ (0 ≤ M (3 + 3) x4) →
    cn ((M 67 x3) + (band (bshr (bshl 1 (M (3 + 2) x4)) x3) 1)) ∧
    (0 ≤ x3 ∧ x3 < 16) ∧
    cn (x4 + 1) ∧
    Go (km 1 mX7_stock Q) 18 [some (.inr 66), some (.inr 3), some (.inr 37), some (.inl x3), some (.inl (x4 + 1))] [] (mput M 67 x3 ((M 67 x3) + (band (bshr (bshl 1 (M (3 + 2) x4)) x3) 1)))))))))) :
    Go (km 1 mX7_stock Q) 18 [some (.inr 66), some (.inr 3), some (.inr 37), some (.inl x3), some (.inl x4)] [] M := by
  refine a_iload (pc := 18) dX7_stock_18 rfl ?_
  refine a_aload_n (pc := 20) dX7_stock_20 rfl ?_
  refine a_geti (pc := 21) 8 dX7_stock_21 f_X7_28 rfl rfl ?_
  refine a_icmp_ge (pc := 24) 63 dX7_stock_24 rfl ⟨fun hc => ?_, fun hc => ?_⟩
  · replace h := h.1 hc
    refine a_iinc (pc := 63) dX7_stock_63 rfl h.1 (Nat.le_of_ble_eq_true rfl) ?_
    replace h := h.2
    refine a_goto (pc := 66) 2 dX7_stock_66 rfl ?_
    exact Go.weak h (And.intro rfl (And.intro rfl (And.intro rfl (And.intro rfl True.intro))))
  · replace h := h.2 hc
    refine a_aload_n (pc := 27) dX7_stock_27 rfl ?_
    refine a_getr (pc := 28) dX7_stock_28 f_X7_31 rfl ?_
    refine a_iload (pc := 31) dX7_stock_31 rfl ?_
    refine a_iald (pc := 33) dX7_stock_33 rfl h.1.1 h.1.2  ?_
    replace h := h.2
    refine a_iconst (pc := 34) dX7_stock_34 (cnb rfl) ?_
    refine a_icmp_ne (pc := 35) 57 dX7_stock_35 rfl ⟨fun hc => ?_, fun hc => ?_⟩
    · replace h := h.1 hc
      refine a_iinc (pc := 57) dX7_stock_57 rfl h.1 (Nat.le_of_ble_eq_true rfl) ?_
      replace h := h.2
      refine a_goto (pc := 60) 18 dX7_stock_60 rfl ?_
      exact h
    · replace h := h.2 hc
      refine a_aload_n (pc := 38) dX7_stock_38 rfl ?_
      refine a_getr (pc := 39) dX7_stock_39 f_X7_9 rfl ?_
      refine a_iload_n (pc := 42) dX7_stock_42 rfl ?_
      refine a_dup2 (pc := 43) dX7_stock_43 ?_
      refine a_iald (pc := 44) dX7_stock_44 rfl h.1.1 h.1.2  ?_
      replace h := h.2
      refine a_aload_n (pc := 45) dX7_stock_45 rfl ?_
      refine a_iload (pc := 46) dX7_stock_46 rfl ?_
      refine a_callVi (pc := 48) (d := 0) (st := [.inl (M 67 x3), .inl x3, .inr 67]) (o := 3) [.inl x4] dX7_stock_48 l_X7_36 in_X1_letterBits se_X1_letterBits rfl rfl rfl ⟨Nat.le_of_ble_eq_true rfl, Nat.le_of_ble_eq_true rfl⟩ ⟨Nat.le_of_ble_eq_true rfl, Nat.le_of_ble_eq_true rfl⟩ (Nat.le_of_ble_eq_true rfl) ?_
      have hp48_2 := h.1
      replace h := h.2
      refine p_X1_letterBits (Or.inl rfl) hp48_2 ⟨fun hc => ?_, fun hc => ?_⟩
      · replace h := h.1 hc
        refine a_iload_n (pc := 51) dX7_stock_51 rfl ?_
        refine a_ishr (pc := 52) dX7_stock_52 ?_
        refine a_iconst (pc := 53) dX7_stock_53 (cnb rfl) ?_
        refine a_iand (pc := 54) dX7_stock_54 ?_
        refine a_iadd (pc := 55) dX7_stock_55 h.1 ?_
        replace h := h.2
        refine a_iast (pc := 56) dX7_stock_56 rfl h.1.1 h.1.2 ?_
        replace h := h.2
        refine a_iinc (pc := 57) dX7_stock_57 rfl h.1 (Nat.le_of_ble_eq_true rfl) ?_
        replace h := h.2
        refine a_goto (pc := 60) 18 dX7_stock_60 rfl ?_
        exact h
      · replace h := h.2 hc
        refine a_iload_n (pc := 51) dX7_stock_51 rfl ?_
        refine a_ishr (pc := 52) dX7_stock_52 ?_
        refine a_iconst (pc := 53) dX7_stock_53 (cnb rfl) ?_
        refine a_iand (pc := 54) dX7_stock_54 ?_
        refine a_iadd (pc := 55) dX7_stock_55 h.1 ?_
        replace h := h.2
        refine a_iast (pc := 56) dX7_stock_56 rfl h.1.1 h.1.2 ?_
        replace h := h.2
        refine a_iinc (pc := 57) dX7_stock_57 rfl h.1 (Nat.le_of_ble_eq_true rfl) ?_
        replace h := h.2
        refine a_goto (pc := 60) 18 dX7_stock_60 rfl ?_
        exact h
set_option maxRecDepth 20000 in
theorem s_X7_canSpell_0 {Q : Int → Me → Prop}  (a : Int) (M : Me) (h :
    Go (km 0 mX7_canSpell Q) 2 [some (.inr 66), some (.inl a), some (.inl 0), none, none] [] M) :
    Go (km 0 mX7_canSpell Q) 0 [some (.inr 66), some (.inl a), none, none, none] [] M := by
  refine a_iconst (pc := 0) dX7_canSpell_0 (cnb rfl) ?_
  refine a_istore_n (pc := 1) dX7_canSpell_1 (Nat.le_of_ble_eq_true rfl) ?_
  exact h
set_option maxRecDepth 20000 in
theorem e_X7_canSpell {Q : Int → Me → Prop}  {a : Int} {M : Me} (h :
    Go (km 0 mX7_canSpell Q) 2 [some (.inr 66), some (.inl a), some (.inl 0), none, none] [] M) : Calls 0 mX7_canSpell [.inr 66, .inl a] M Q := Calls.of (by decide) (Nat.le_of_ble_eq_true rfl) (s_X7_canSpell_0  a M h)
set_option maxRecDepth 20000 in
theorem s_X7_canSpell_2 {Q : Int → Me → Prop}  (x1 x2 : Int) (M : Me) (h :
    ((16 ≤ x2 →
    Q 1 M) ∧ (x2 < 16 →
    (0 ≤ x2 ∧ x2 < 16) ∧
    Go (km 0 mX7_canSpell Q) 18 [some (.inr 66), some (.inl x1), some (.inl x2), some (.inl (M 67 x2)), some (.inl 0)] [] M))) :
    Go (km 0 mX7_canSpell Q) 2 [some (.inr 66), some (.inl x1), some (.inl x2), none, none] [] M := by
  refine a_iload_n (pc := 2) dX7_canSpell_2 rfl ?_
  refine a_bipush (pc := 3) dX7_canSpell_3 (by decide) (cnb rfl) ?_
  refine a_icmp_ge (pc := 5) 67 dX7_canSpell_5 rfl ⟨fun hc => ?_, fun hc => ?_⟩
  · replace h := h.1 hc
    refine a_iconst (pc := 67) dX7_canSpell_67 (cnb rfl) ?_
    exact a_iretZ (pc := 68) dX7_canSpell_68 rfl (by decide) h
  · replace h := h.2 hc
    refine a_aload_n (pc := 8) dX7_canSpell_8 rfl ?_
    refine a_getr (pc := 9) dX7_canSpell_9 f_X7_9 rfl ?_
    refine a_iload_n (pc := 12) dX7_canSpell_12 rfl ?_
    refine a_iald (pc := 13) dX7_canSpell_13 rfl h.1.1 h.1.2  ?_
    replace h := h.2
    refine a_istore_n (pc := 14) dX7_canSpell_14 (Nat.le_of_ble_eq_true rfl) ?_
    refine a_iconst (pc := 15) dX7_canSpell_15 (cnb rfl) ?_
    refine a_istore (pc := 16) dX7_canSpell_16 (Nat.le_of_ble_eq_true rfl) ?_
    exact h
set_option maxRecDepth 20000 in
theorem s_X7_canSpell_18 {Q : Int → Me → Prop}  (x1 x2 x3 x4 : Int) (M : Me) (h :
    ((M 66 2 ≤ x4 →
    ((0 ≤ x3 →
    cn (x2 + 1) ∧
    Go (km 0 mX7_canSpell Q) 2 [some (.inr 66), some (.inl x1), some (.inl (x2 + 1)), none, none] [] M) ∧ (x3 < 0 →
    Q 0 M))) ∧ (x4 < M 66 2 →
    cn (16 * x4) ∧
    cn ((16 * x4) + x2) ∧
    (0 ≤ (16 * x4) + x2 ∧ (16 * x4) + x2 < 128) ∧
    cn ((band (bshr x1 x4) 1) * (M 68 ((16 * x4) + x2))) ∧
    cn (x3 - ((band (bshr x1 x4) 1) * (M 68 ((16 * x4) + x2)))) ∧
    cn (x4 + 1) ∧
    Go (km 0 mX7_canSpell Q) 18 [some (.inr 66), some (.inl x1), some (.inl x2), some (.inl (x3 - ((band (bshr x1 x4) 1) * (M 68 ((16 * x4) + x2))))), some (.inl (x4 + 1))] [] M))) :
    Go (km 0 mX7_canSpell Q) 18 [some (.inr 66), some (.inl x1), some (.inl x2), some (.inl x3), some (.inl x4)] [] M := by
  refine a_iload (pc := 18) dX7_canSpell_18 rfl ?_
  refine a_aload_n (pc := 20) dX7_canSpell_20 rfl ?_
  refine a_geti (pc := 21) 2 dX7_canSpell_21 f_X7_18 rfl rfl ?_
  refine a_icmp_ge (pc := 24) 55 dX7_canSpell_24 rfl ⟨fun hc => ?_, fun hc => ?_⟩
  · replace h := h.1 hc
    refine a_iload_n (pc := 55) dX7_canSpell_55 rfl ?_
    refine a_if_ge (pc := 56) 61 dX7_canSpell_56 rfl ⟨fun hc => ?_, fun hc => ?_⟩
    · replace h := h.1 hc
      refine a_iinc (pc := 61) dX7_canSpell_61 rfl h.1 (Nat.le_of_ble_eq_true rfl) ?_
      replace h := h.2
      refine a_goto (pc := 64) 2 dX7_canSpell_64 rfl ?_
      exact Go.weak h (And.intro rfl (And.intro rfl (And.intro rfl True.intro)))
    · replace h := h.2 hc
      refine a_iconst (pc := 59) dX7_canSpell_59 (cnb rfl) ?_
      exact a_iretZ (pc := 60) dX7_canSpell_60 rfl (by decide) h
  · replace h := h.2 hc
    refine a_iload_n (pc := 27) dX7_canSpell_27 rfl ?_
    refine a_iload_n (pc := 28) dX7_canSpell_28 rfl ?_
    refine a_iload (pc := 29) dX7_canSpell_29 rfl ?_
    refine a_ishr (pc := 31) dX7_canSpell_31 ?_
    refine a_iconst (pc := 32) dX7_canSpell_32 (cnb rfl) ?_
    refine a_iand (pc := 33) dX7_canSpell_33 ?_
    refine a_aload_n (pc := 34) dX7_canSpell_34 rfl ?_
    refine a_getr (pc := 35) dX7_canSpell_35 f_X7_15 rfl ?_
    refine a_bipush (pc := 38) dX7_canSpell_38 (by decide) (cnb rfl) ?_
    refine a_iload (pc := 40) dX7_canSpell_40 rfl ?_
    refine a_imul (pc := 42) dX7_canSpell_42 h.1 ?_
    replace h := h.2
    refine a_iload_n (pc := 43) dX7_canSpell_43 rfl ?_
    refine a_iadd (pc := 44) dX7_canSpell_44 h.1 ?_
    replace h := h.2
    refine a_iald (pc := 45) dX7_canSpell_45 rfl h.1.1 h.1.2  ?_
    replace h := h.2
    refine a_imul (pc := 46) dX7_canSpell_46 h.1 ?_
    replace h := h.2
    refine a_isub (pc := 47) dX7_canSpell_47 h.1 ?_
    replace h := h.2
    refine a_istore_n (pc := 48) dX7_canSpell_48 (Nat.le_of_ble_eq_true rfl) ?_
    refine a_iinc (pc := 49) dX7_canSpell_49 rfl h.1 (Nat.le_of_ble_eq_true rfl) ?_
    replace h := h.2
    refine a_goto (pc := 52) 18 dX7_canSpell_52 rfl ?_
    exact h
set_option maxRecDepth 20000 in
theorem s_X7_mostAtOnce_0 {Q : Int → Me → Prop}  (M : Me) (h :
    Go (km 1 mX7_mostAtOnce Q) 4 [some (.inr 66), some (.inl 0), some (.inl 1)] [] M) :
    Go (km 1 mX7_mostAtOnce Q) 0 [some (.inr 66), none, none] [] M := by
  refine a_iconst (pc := 0) dX7_mostAtOnce_0 (cnb rfl) ?_
  refine a_istore_n (pc := 1) dX7_mostAtOnce_1 (Nat.le_of_ble_eq_true rfl) ?_
  refine a_iconst (pc := 2) dX7_mostAtOnce_2 (cnb rfl) ?_
  refine a_istore_n (pc := 3) dX7_mostAtOnce_3 (Nat.le_of_ble_eq_true rfl) ?_
  exact h
set_option maxRecDepth 20000 in
theorem e_X7_mostAtOnce {Q : Int → Me → Prop}  {M : Me} (h :
    Go (km 1 mX7_mostAtOnce Q) 4 [some (.inr 66), some (.inl 0), some (.inl 1)] [] M) : Calls 1 mX7_mostAtOnce [.inr 66] M Q := Calls.of (by decide) (Nat.le_of_ble_eq_true rfl) (s_X7_mostAtOnce_0   M h)
set_option maxRecDepth 20000 in
theorem s_X7_mostAtOnce_4 {Q : Int → Me → Prop}  (x1 x2 : Int) (M : Me) (h :
    ((bshl 1 (M 66 2) ≤ x2 →
    Q x1 M) ∧ (x2 < bshl 1 (M 66 2) →
    Calls 0 mJ6_bitCount_0f7a4 [.inl x2] M (fun r15 M15 =>
    Calls 0 mJ6_bitCount_0f7a4 [.inl x1] M15 (fun r19 M19 =>
    ((r15 ≤ r19 →
    cn (x2 + 1) ∧
    Go (km 1 mX7_mostAtOnce Q) 4 [some (.inr 66), some (.inl x1), some (.inl (x2 + 1))] [] M19) ∧ (r19 < r15 →
    Calls 0 mX7_canSpell [.inr 66, .inl x2] M19 (fun r27 M27 =>
    ((r27 = 0 →
    cn (x2 + 1) ∧
    Go (km 1 mX7_mostAtOnce Q) 4 [some (.inr 66), some (.inl x1), some (.inl (x2 + 1))] [] M27) ∧ (r27 ≠ 0 →
    cn (x2 + 1) ∧
    Go (km 1 mX7_mostAtOnce Q) 4 [some (.inr 66), some (.inl x2), some (.inl (x2 + 1))] [] M27)))))))))) :
    Go (km 1 mX7_mostAtOnce Q) 4 [some (.inr 66), some (.inl x1), some (.inl x2)] [] M := by
  refine a_iload_n (pc := 4) dX7_mostAtOnce_4 rfl ?_
  refine a_iconst (pc := 5) dX7_mostAtOnce_5 (cnb rfl) ?_
  refine a_aload_n (pc := 6) dX7_mostAtOnce_6 rfl ?_
  refine a_geti (pc := 7) 2 dX7_mostAtOnce_7 f_X7_18 rfl rfl ?_
  refine a_ishl (pc := 10) dX7_mostAtOnce_10 ?_
  refine a_icmp_ge (pc := 11) 41 dX7_mostAtOnce_11 rfl ⟨fun hc => ?_, fun hc => ?_⟩
  · replace h := h.1 hc
    refine a_iload_n (pc := 41) dX7_mostAtOnce_41 rfl ?_
    exact a_iretI (pc := 42) dX7_mostAtOnce_42 rfl h
  · replace h := h.2 hc
    refine a_iload_n (pc := 14) dX7_mostAtOnce_14 rfl ?_
    refine a_callSi (pc := 15) (d := 0) (st := []) [.inl x2] dX7_mostAtOnce_15 l_X7_39 st_J6_bitCount_0f7a4 rfl ⟨Nat.le_of_ble_eq_true rfl, Nat.le_of_ble_eq_true rfl⟩ ⟨Nat.le_of_ble_eq_true rfl, Nat.le_of_ble_eq_true rfl⟩ (Nat.le_of_ble_eq_true rfl) ?_
    refine Calls.mono (fun r15 M15 hr15 hM15 h => ?_) h
    refine a_iload_n (pc := 18) dX7_mostAtOnce_18 rfl ?_
    refine a_callSi (pc := 19) (d := 0) (st := [.inl r15]) [.inl x1] dX7_mostAtOnce_19 l_X7_39 st_J6_bitCount_0f7a4 rfl ⟨Nat.le_of_ble_eq_true rfl, Nat.le_of_ble_eq_true rfl⟩ ⟨Nat.le_of_ble_eq_true rfl, Nat.le_of_ble_eq_true rfl⟩ (Nat.le_of_ble_eq_true rfl) ?_
    refine Calls.mono (fun r19 M19 hr19 hM19 h => ?_) h
    refine a_icmp_le (pc := 22) 35 dX7_mostAtOnce_22 rfl ⟨fun hc => ?_, fun hc => ?_⟩
    · replace h := h.1 hc
      refine a_iinc (pc := 35) dX7_mostAtOnce_35 rfl h.1 (Nat.le_of_ble_eq_true rfl) ?_
      replace h := h.2
      refine a_goto (pc := 38) 4 dX7_mostAtOnce_38 rfl ?_
      exact h
    · replace h := h.2 hc
      refine a_aload_n (pc := 25) dX7_mostAtOnce_25 rfl ?_
      refine a_iload_n (pc := 26) dX7_mostAtOnce_26 rfl ?_
      refine a_callVi (pc := 27) (d := 0) (st := []) (o := 66) [.inl x2] dX7_mostAtOnce_27 l_X7_44 in_X7_canSpell se_X7_canSpell rfl rfl rfl ⟨Nat.le_of_ble_eq_true rfl, Nat.le_of_ble_eq_true rfl⟩ ⟨Nat.le_of_ble_eq_true rfl, Nat.le_of_ble_eq_true rfl⟩ (Nat.le_of_ble_eq_true rfl) ?_
      refine Calls.mono (fun r27 M27 hr27 hM27 h => ?_) h
      refine a_if_eq (pc := 30) 35 dX7_mostAtOnce_30 rfl ⟨fun hc => ?_, fun hc => ?_⟩
      · replace h := h.1 hc
        refine a_iinc (pc := 35) dX7_mostAtOnce_35 rfl h.1 (Nat.le_of_ble_eq_true rfl) ?_
        replace h := h.2
        refine a_goto (pc := 38) 4 dX7_mostAtOnce_38 rfl ?_
        exact h
      · replace h := h.2 hc
        refine a_iload_n (pc := 33) dX7_mostAtOnce_33 rfl ?_
        refine a_istore_n (pc := 34) dX7_mostAtOnce_34 (Nat.le_of_ble_eq_true rfl) ?_
        refine a_iinc (pc := 35) dX7_mostAtOnce_35 rfl h.1 (Nat.le_of_ble_eq_true rfl) ?_
        replace h := h.2
        refine a_goto (pc := 38) 4 dX7_mostAtOnce_38 rfl ?_
        exact h
set_option maxRecDepth 20000 in
theorem s_X11_words_0 {Q : Int → Me → Prop}  (a b : Int) (M : Me) (h :
    ((a < 1 →
    Q (-1) M) ∧ (1 ≤ a →
    ((60 < a →
    Q (-1) M) ∧ (a ≤ 60 →
    ((M 1 1 < a →
    Q (-1) M) ∧ (a ≤ M 1 1 →
    ((b = 0 →
    Calls 1 mX7_read [.inr 66, .inr 1, .inl a] M (fun r42 M42 =>
    ((r42 ≠ 0 →
    Calls 1 mX7_stock [.inr 66, .inr 3, .inr 37] (mput M42 1 1 0) (fun r72 M72 =>
    Calls 1 mX7_mostAtOnce [.inr 66] M72 (fun r79 M79 =>
    ((b ≠ 0 →
    Q r79 M79) ∧ (b = 0 →
    Calls 0 mJ6_bitCount_0f7a4 [.inl r79] M79 (fun r90 M90 =>
    Q r90 M90)))))) ∧ (r42 = 0 →
    Q (-2) (mput M42 1 1 0))))) ∧ (b ≠ 0 →
    ((b = 1 →
    Calls 1 mX7_read [.inr 66, .inr 1, .inl a] M (fun r42 M42 =>
    ((r42 ≠ 0 →
    Calls 1 mX7_stock [.inr 66, .inr 3, .inr 37] (mput M42 1 1 0) (fun r72 M72 =>
    Calls 1 mX7_mostAtOnce [.inr 66] M72 (fun r79 M79 =>
    ((b ≠ 0 →
    Q r79 M79) ∧ (b = 0 →
    Calls 0 mJ6_bitCount_0f7a4 [.inl r79] M79 (fun r90 M90 =>
    Q r90 M90)))))) ∧ (r42 = 0 →
    Q (-2) (mput M42 1 1 0))))) ∧ (b ≠ 1 →
    Q (-1) M))))))))))) :
    Go (km 2 mX11_words Q) 0 [some (.inr 0), some (.inl a), some (.inl b), none, none] [] M := by
  refine a_iload_n (pc := 0) dX11_words_0 rfl ?_
  refine a_iconst (pc := 1) dX11_words_1 (cnb rfl) ?_
  refine a_icmp_lt (pc := 2) 31 dX11_words_2 rfl ⟨fun hc => ?_, fun hc => ?_⟩
  · replace h := h.1 hc
    refine a_iconst (pc := 31) dX11_words_31 (cnb rfl) ?_
    exact a_iretI (pc := 32) dX11_words_32 rfl h
  · replace h := h.2 hc
    refine a_iload_n (pc := 5) dX11_words_5 rfl ?_
    refine a_bipush (pc := 6) dX11_words_6 (by decide) (cnb rfl) ?_
    refine a_icmp_gt (pc := 8) 31 dX11_words_8 rfl ⟨fun hc => ?_, fun hc => ?_⟩
    · replace h := h.1 hc
      refine a_iconst (pc := 31) dX11_words_31 (cnb rfl) ?_
      exact a_iretI (pc := 32) dX11_words_32 rfl h
    · replace h := h.2 hc
      refine a_iload_n (pc := 11) dX11_words_11 rfl ?_
      refine a_aload_n (pc := 12) dX11_words_12 rfl ?_
      refine a_getr (pc := 13) dX11_words_13 f_X11_10 rfl ?_
      refine a_geti (pc := 16) 1 dX11_words_16 f_X11_118 rfl rfl ?_
      refine a_icmp_gt (pc := 19) 31 dX11_words_19 rfl ⟨fun hc => ?_, fun hc => ?_⟩
      · replace h := h.1 hc
        refine a_iconst (pc := 31) dX11_words_31 (cnb rfl) ?_
        exact a_iretI (pc := 32) dX11_words_32 rfl h
      · replace h := h.2 hc
        refine a_iload_n (pc := 22) dX11_words_22 rfl ?_
        refine a_if_eq (pc := 23) 33 dX11_words_23 rfl ⟨fun hc => ?_, fun hc => ?_⟩
        · replace h := h.1 hc
          refine a_aload_n (pc := 33) dX11_words_33 rfl ?_
          refine a_getr (pc := 34) dX11_words_34 f_X11_85 rfl ?_
          refine a_aload_n (pc := 37) dX11_words_37 rfl ?_
          refine a_getr (pc := 38) dX11_words_38 f_X11_10 rfl ?_
          refine a_iload_n (pc := 41) dX11_words_41 rfl ?_
          refine a_callVi (pc := 42) (d := 1) (st := []) (o := 66) [.inr 1, .inl a] dX11_words_42 l_X11_270 in_X7_read se_X7_read rfl rfl rfl ⟨Nat.le_of_ble_eq_true rfl, Nat.le_of_ble_eq_true rfl⟩ ⟨Nat.le_of_ble_eq_true rfl, Nat.le_of_ble_eq_true rfl⟩ (Nat.le_of_ble_eq_true rfl) ?_
          refine Calls.mono (fun r42 M42 hr42 hM42 h => ?_) h
          refine a_istore_n (pc := 45) dX11_words_45 (Nat.le_of_ble_eq_true rfl) ?_
          refine a_aload_n (pc := 46) dX11_words_46 rfl ?_
          refine a_getr (pc := 47) dX11_words_47 f_X11_10 rfl ?_
          refine a_callVv (pc := 50) (d := 0) (st := []) (o := 1) [] dX11_words_50 l_X11_129 in_X9_clear se_X9_clear rfl rfl rfl ⟨Nat.le_of_ble_eq_true rfl, Nat.le_of_ble_eq_true rfl⟩ ⟨Nat.le_of_ble_eq_true rfl, Nat.le_of_ble_eq_true rfl⟩ (Nat.le_of_ble_eq_true rfl) ?_
          refine p_X9_clear ?_
          refine a_iload_n (pc := 53) dX11_words_53 rfl ?_
          refine a_if_ne (pc := 54) 60 dX11_words_54 rfl ⟨fun hc => ?_, fun hc => ?_⟩
          · replace h := h.1 hc
            refine a_aload_n (pc := 60) dX11_words_60 rfl ?_
            refine a_getr (pc := 61) dX11_words_61 f_X11_85 rfl ?_
            refine a_aload_n (pc := 64) dX11_words_64 rfl ?_
            refine a_getr (pc := 65) dX11_words_65 f_X11_19 rfl ?_
            refine a_aload_n (pc := 68) dX11_words_68 rfl ?_
            refine a_getr (pc := 69) dX11_words_69 f_X11_49 rfl ?_
            refine a_callVv (pc := 72) (d := 1) (st := []) (o := 66) [.inr 3, .inr 37] dX11_words_72 l_X11_273 in_X7_stock se_X7_stock rfl rfl rfl ⟨Nat.le_of_ble_eq_true rfl, Nat.le_of_ble_eq_true rfl⟩ ⟨Nat.le_of_ble_eq_true rfl, Nat.le_of_ble_eq_true rfl⟩ (Nat.le_of_ble_eq_true rfl) ?_
            refine Calls.mono (fun r72 M72 hr72 hM72 h => ?_) h
            refine a_aload_n (pc := 75) dX11_words_75 rfl ?_
            refine a_getr (pc := 76) dX11_words_76 f_X11_85 rfl ?_
            refine a_callVi (pc := 79) (d := 1) (st := []) (o := 66) [] dX11_words_79 l_X11_276 in_X7_mostAtOnce se_X7_mostAtOnce rfl rfl rfl ⟨Nat.le_of_ble_eq_true rfl, Nat.le_of_ble_eq_true rfl⟩ ⟨Nat.le_of_ble_eq_true rfl, Nat.le_of_ble_eq_true rfl⟩ (Nat.le_of_ble_eq_true rfl) ?_
            refine Calls.mono (fun r79 M79 hr79 hM79 h => ?_) h
            refine a_istore (pc := 82) dX11_words_82 (Nat.le_of_ble_eq_true rfl) ?_
            refine a_iload_n (pc := 84) dX11_words_84 rfl ?_
            refine a_if_ne (pc := 85) 96 dX11_words_85 rfl ⟨fun hc => ?_, fun hc => ?_⟩
            · replace h := h.1 hc
              refine a_iload (pc := 96) dX11_words_96 rfl ?_
              exact a_iretI (pc := 98) dX11_words_98 rfl h
            · replace h := h.2 hc
              refine a_iload (pc := 88) dX11_words_88 rfl ?_
              refine a_callSi (pc := 90) (d := 0) (st := []) [.inl r79] dX11_words_90 l_X11_255 st_J6_bitCount_0f7a4 rfl ⟨Nat.le_of_ble_eq_true rfl, Nat.le_of_ble_eq_true rfl⟩ ⟨Nat.le_of_ble_eq_true rfl, Nat.le_of_ble_eq_true rfl⟩ (Nat.le_of_ble_eq_true rfl) ?_
              refine Calls.mono (fun r90 M90 hr90 hM90 h => ?_) h
              refine a_goto (pc := 93) 98 dX11_words_93 rfl ?_
              exact a_iretI (pc := 98) dX11_words_98 rfl h
          · replace h := h.2 hc
            refine a_bipush (pc := 57) dX11_words_57 (by decide) (cnb rfl) ?_
            exact a_iretI (pc := 59) dX11_words_59 rfl h
        · replace h := h.2 hc
          refine a_iload_n (pc := 26) dX11_words_26 rfl ?_
          refine a_iconst (pc := 27) dX11_words_27 (cnb rfl) ?_
          refine a_icmp_eq (pc := 28) 33 dX11_words_28 rfl ⟨fun hc => ?_, fun hc => ?_⟩
          · replace h := h.1 hc
            refine a_aload_n (pc := 33) dX11_words_33 rfl ?_
            refine a_getr (pc := 34) dX11_words_34 f_X11_85 rfl ?_
            refine a_aload_n (pc := 37) dX11_words_37 rfl ?_
            refine a_getr (pc := 38) dX11_words_38 f_X11_10 rfl ?_
            refine a_iload_n (pc := 41) dX11_words_41 rfl ?_
            refine a_callVi (pc := 42) (d := 1) (st := []) (o := 66) [.inr 1, .inl a] dX11_words_42 l_X11_270 in_X7_read se_X7_read rfl rfl rfl ⟨Nat.le_of_ble_eq_true rfl, Nat.le_of_ble_eq_true rfl⟩ ⟨Nat.le_of_ble_eq_true rfl, Nat.le_of_ble_eq_true rfl⟩ (Nat.le_of_ble_eq_true rfl) ?_
            refine Calls.mono (fun r42 M42 hr42 hM42 h => ?_) h
            refine a_istore_n (pc := 45) dX11_words_45 (Nat.le_of_ble_eq_true rfl) ?_
            refine a_aload_n (pc := 46) dX11_words_46 rfl ?_
            refine a_getr (pc := 47) dX11_words_47 f_X11_10 rfl ?_
            refine a_callVv (pc := 50) (d := 0) (st := []) (o := 1) [] dX11_words_50 l_X11_129 in_X9_clear se_X9_clear rfl rfl rfl ⟨Nat.le_of_ble_eq_true rfl, Nat.le_of_ble_eq_true rfl⟩ ⟨Nat.le_of_ble_eq_true rfl, Nat.le_of_ble_eq_true rfl⟩ (Nat.le_of_ble_eq_true rfl) ?_
            refine p_X9_clear ?_
            refine a_iload_n (pc := 53) dX11_words_53 rfl ?_
            refine a_if_ne (pc := 54) 60 dX11_words_54 rfl ⟨fun hc => ?_, fun hc => ?_⟩
            · replace h := h.1 hc
              refine a_aload_n (pc := 60) dX11_words_60 rfl ?_
              refine a_getr (pc := 61) dX11_words_61 f_X11_85 rfl ?_
              refine a_aload_n (pc := 64) dX11_words_64 rfl ?_
              refine a_getr (pc := 65) dX11_words_65 f_X11_19 rfl ?_
              refine a_aload_n (pc := 68) dX11_words_68 rfl ?_
              refine a_getr (pc := 69) dX11_words_69 f_X11_49 rfl ?_
              refine a_callVv (pc := 72) (d := 1) (st := []) (o := 66) [.inr 3, .inr 37] dX11_words_72 l_X11_273 in_X7_stock se_X7_stock rfl rfl rfl ⟨Nat.le_of_ble_eq_true rfl, Nat.le_of_ble_eq_true rfl⟩ ⟨Nat.le_of_ble_eq_true rfl, Nat.le_of_ble_eq_true rfl⟩ (Nat.le_of_ble_eq_true rfl) ?_
              refine Calls.mono (fun r72 M72 hr72 hM72 h => ?_) h
              refine a_aload_n (pc := 75) dX11_words_75 rfl ?_
              refine a_getr (pc := 76) dX11_words_76 f_X11_85 rfl ?_
              refine a_callVi (pc := 79) (d := 1) (st := []) (o := 66) [] dX11_words_79 l_X11_276 in_X7_mostAtOnce se_X7_mostAtOnce rfl rfl rfl ⟨Nat.le_of_ble_eq_true rfl, Nat.le_of_ble_eq_true rfl⟩ ⟨Nat.le_of_ble_eq_true rfl, Nat.le_of_ble_eq_true rfl⟩ (Nat.le_of_ble_eq_true rfl) ?_
              refine Calls.mono (fun r79 M79 hr79 hM79 h => ?_) h
              refine a_istore (pc := 82) dX11_words_82 (Nat.le_of_ble_eq_true rfl) ?_
              refine a_iload_n (pc := 84) dX11_words_84 rfl ?_
              refine a_if_ne (pc := 85) 96 dX11_words_85 rfl ⟨fun hc => ?_, fun hc => ?_⟩
              · replace h := h.1 hc
                refine a_iload (pc := 96) dX11_words_96 rfl ?_
                exact a_iretI (pc := 98) dX11_words_98 rfl h
              · replace h := h.2 hc
                refine a_iload (pc := 88) dX11_words_88 rfl ?_
                refine a_callSi (pc := 90) (d := 0) (st := []) [.inl r79] dX11_words_90 l_X11_255 st_J6_bitCount_0f7a4 rfl ⟨Nat.le_of_ble_eq_true rfl, Nat.le_of_ble_eq_true rfl⟩ ⟨Nat.le_of_ble_eq_true rfl, Nat.le_of_ble_eq_true rfl⟩ (Nat.le_of_ble_eq_true rfl) ?_
                refine Calls.mono (fun r90 M90 hr90 hM90 h => ?_) h
                refine a_goto (pc := 93) 98 dX11_words_93 rfl ?_
                exact a_iretI (pc := 98) dX11_words_98 rfl h
            · replace h := h.2 hc
              refine a_bipush (pc := 57) dX11_words_57 (by decide) (cnb rfl) ?_
              exact a_iretI (pc := 59) dX11_words_59 rfl h
          · replace h := h.2 hc
            refine a_iconst (pc := 31) dX11_words_31 (cnb rfl) ?_
            exact a_iretI (pc := 32) dX11_words_32 rfl h
set_option maxRecDepth 20000 in
theorem e_X11_words {Q : Int → Me → Prop}  {a b : Int} {M : Me} (h :
    ((a < 1 →
    Q (-1) M) ∧ (1 ≤ a →
    ((60 < a →
    Q (-1) M) ∧ (a ≤ 60 →
    ((M 1 1 < a →
    Q (-1) M) ∧ (a ≤ M 1 1 →
    ((b = 0 →
    Calls 1 mX7_read [.inr 66, .inr 1, .inl a] M (fun r42 M42 =>
    ((r42 ≠ 0 →
    Calls 1 mX7_stock [.inr 66, .inr 3, .inr 37] (mput M42 1 1 0) (fun r72 M72 =>
    Calls 1 mX7_mostAtOnce [.inr 66] M72 (fun r79 M79 =>
    ((b ≠ 0 →
    Q r79 M79) ∧ (b = 0 →
    Calls 0 mJ6_bitCount_0f7a4 [.inl r79] M79 (fun r90 M90 =>
    Q r90 M90)))))) ∧ (r42 = 0 →
    Q (-2) (mput M42 1 1 0))))) ∧ (b ≠ 0 →
    ((b = 1 →
    Calls 1 mX7_read [.inr 66, .inr 1, .inl a] M (fun r42 M42 =>
    ((r42 ≠ 0 →
    Calls 1 mX7_stock [.inr 66, .inr 3, .inr 37] (mput M42 1 1 0) (fun r72 M72 =>
    Calls 1 mX7_mostAtOnce [.inr 66] M72 (fun r79 M79 =>
    ((b ≠ 0 →
    Q r79 M79) ∧ (b = 0 →
    Calls 0 mJ6_bitCount_0f7a4 [.inl r79] M79 (fun r90 M90 =>
    Q r90 M90)))))) ∧ (r42 = 0 →
    Q (-2) (mput M42 1 1 0))))) ∧ (b ≠ 1 →
    Q (-1) M))))))))))) : Calls 2 mX11_words [.inr 0, .inl a, .inl b] M Q := Calls.of (by decide) (Nat.le_of_ble_eq_true rfl) (s_X11_words_0  a b M h)
set_option maxRecDepth 20000 in
theorem s_X12_readsWords_0 {Q : Int → Me → Prop}  (a : Int) (M : Me) (h :
    Go (km 1 mX12_readsWords Q) 2 [some (.inr 76), some (.inl a), some (.inl 0), none, none] [] M) :
    Go (km 1 mX12_readsWords Q) 0 [some (.inr 76), some (.inl a), none, none, none] [] M := by
  refine a_iconst (pc := 0) dX12_readsWords_0 (cnb rfl) ?_
  refine a_istore_n (pc := 1) dX12_readsWords_1 (Nat.le_of_ble_eq_true rfl) ?_
  exact h
set_option maxRecDepth 20000 in
theorem e_X12_readsWords {Q : Int → Me → Prop}  {a : Int} {M : Me} (h :
    Go (km 1 mX12_readsWords Q) 2 [some (.inr 76), some (.inl a), some (.inl 0), none, none] [] M) : Calls 1 mX12_readsWords [.inr 76, .inl a] M Q := Calls.of (by decide) (Nat.le_of_ble_eq_true rfl) (s_X12_readsWords_0  a M h)
set_option maxRecDepth 20000 in
theorem s_X12_readsWords_2 {Q : Int → Me → Prop}  (x1 x2 : Int) (M : Me) (h :
    ((128 ≤ x2 →
    Go (km 1 mX12_readsWords Q) 31 [some (.inr 76), some (.inl x1), some (.inl 0), some (.inl 0), none] [] (mput M 76 55 0)) ∧ (x2 < 128 →
    (0 ≤ x2 ∧ x2 < 128) ∧
    cn (x2 + 1) ∧
    Go (km 1 mX12_readsWords Q) 2 [some (.inr 76), some (.inl x1), some (.inl (x2 + 1)), none, none] [] (mput M 115 x2 0)))) :
    Go (km 1 mX12_readsWords Q) 2 [some (.inr 76), some (.inl x1), some (.inl x2), none, none] [] M := by
  refine a_iload_n (pc := 2) dX12_readsWords_2 rfl ?_
  refine a_sipush (pc := 3) dX12_readsWords_3 (by decide) (cnb rfl) ?_
  refine a_icmp_ge (pc := 6) 22 dX12_readsWords_6 rfl ⟨fun hc => ?_, fun hc => ?_⟩
  · replace h := h.1 hc
    refine a_aload_n (pc := 22) dX12_readsWords_22 rfl ?_
    refine a_iconst (pc := 23) dX12_readsWords_23 (cnb rfl) ?_
    refine a_puti (pc := 24) 55 dX12_readsWords_24 f_X12_404 rfl rfl (Or.inl rfl) ?_
    refine a_iconst (pc := 27) dX12_readsWords_27 (cnb rfl) ?_
    refine a_istore_n (pc := 28) dX12_readsWords_28 (Nat.le_of_ble_eq_true rfl) ?_
    refine a_iconst (pc := 29) dX12_readsWords_29 (cnb rfl) ?_
    refine a_istore_n (pc := 30) dX12_readsWords_30 (Nat.le_of_ble_eq_true rfl) ?_
    exact h
  · replace h := h.2 hc
    refine a_aload_n (pc := 9) dX12_readsWords_9 rfl ?_
    refine a_getr (pc := 10) dX12_readsWords_10 f_X12_125 rfl ?_
    refine a_iload_n (pc := 13) dX12_readsWords_13 rfl ?_
    refine a_iconst (pc := 14) dX12_readsWords_14 (cnb rfl) ?_
    refine a_iast (pc := 15) dX12_readsWords_15 rfl h.1.1 h.1.2 ?_
    replace h := h.2
    refine a_iinc (pc := 16) dX12_readsWords_16 rfl h.1 (Nat.le_of_ble_eq_true rfl) ?_
    replace h := h.2
    refine a_goto (pc := 19) 2 dX12_readsWords_19 rfl ?_
    exact h
set_option maxRecDepth 20000 in
theorem s_X12_readsWords_31 {Q : Int → Me → Prop}  (x1 x2 x3 : Int) (M : Me) (h :
    ((x1 ≤ x3 →
    ((x2 ≠ 0 →
    Q 0 M) ∧ (x2 = 0 →
    Q 1 M))) ∧ (x3 < x1 →
    (0 ≤ x3 ∧ x3 < 260) ∧
    ((band (M 88 x3) 255 ≠ 255 →
    ((16 ≤ band (M 88 x3) 255 →
    Q 0 M) ∧ (band (M 88 x3) 255 < 16 →
    ((M 76 55 ≠ 8 →
    cn (16 * (M 76 55)) ∧
    cn ((16 * (M 76 55)) + (band (M 88 x3) 255)) ∧
    cn (16 * (M 76 55)) ∧
    cn ((16 * (M 76 55)) + (band (M 88 x3) 255)) ∧
    (0 ≤ (16 * (M 76 55)) + (band (M 88 x3) 255) ∧ (16 * (M 76 55)) + (band (M 88 x3) 255) < 128) ∧
    cn ((M 115 ((16 * (M 76 55)) + (band (M 88 x3) 255))) + 1) ∧
    (0 ≤ (16 * (M 76 55)) + (band (M 88 x3) 255) ∧ (16 * (M 76 55)) + (band (M 88 x3) 255) < 128) ∧
    cn (x2 + 1) ∧
    cn (x3 + 1) ∧
    Go (km 1 mX12_readsWords Q) 31 [some (.inr 76), some (.inl x1), some (.inl (x2 + 1)), some (.inl (x3 + 1)), none] [] (mput M 115 ((16 * (M 76 55)) + (band (M 88 x3) 255)) ((M 115 ((16 * (M 76 55)) + (band (M 88 x3) 255))) + 1))) ∧ (M 76 55 = 8 →
    Q 0 M))))) ∧ (band (M 88 x3) 255 = 255 →
    ((x2 ≠ 0 →
    cn ((M 76 55) + 1) ∧
    cn (x3 + 1) ∧
    Go (km 1 mX12_readsWords Q) 31 [some (.inr 76), some (.inl x1), some (.inl 0), some (.inl (x3 + 1)), none] [] (mput M 76 55 ((M 76 55) + 1))) ∧ (x2 = 0 →
    Q 0 M))))))) :
    Go (km 1 mX12_readsWords Q) 31 [some (.inr 76), some (.inl x1), some (.inl x2), some (.inl x3), none] [] M := by
  refine a_iload_n (pc := 31) dX12_readsWords_31 rfl ?_
  refine a_iload_n (pc := 32) dX12_readsWords_32 rfl ?_
  refine a_icmp_ge (pc := 33) 132 dX12_readsWords_33 rfl ⟨fun hc => ?_, fun hc => ?_⟩
  · replace h := h.1 hc
    refine a_iload_n (pc := 132) dX12_readsWords_132 rfl ?_
    refine a_if_ne (pc := 133) 140 dX12_readsWords_133 rfl ⟨fun hc => ?_, fun hc => ?_⟩
    · replace h := h.1 hc
      refine a_iconst (pc := 140) dX12_readsWords_140 (cnb rfl) ?_
      exact a_iretZ (pc := 141) dX12_readsWords_141 rfl (by decide) h
    · replace h := h.2 hc
      refine a_iconst (pc := 136) dX12_readsWords_136 (cnb rfl) ?_
      refine a_goto (pc := 137) 141 dX12_readsWords_137 rfl ?_
      exact a_iretZ (pc := 141) dX12_readsWords_141 rfl (by decide) h
  · replace h := h.2 hc
    refine a_aload_n (pc := 36) dX12_readsWords_36 rfl ?_
    refine a_iload_n (pc := 37) dX12_readsWords_37 rfl ?_
    refine a_callVi (pc := 38) (d := 0) (st := []) (o := 76) [.inl x3] dX12_readsWords_38 l_X12_407 in_X12_octet se_X12_octet rfl rfl rfl ⟨Nat.le_of_ble_eq_true rfl, Nat.le_of_ble_eq_true rfl⟩ ⟨Nat.le_of_ble_eq_true rfl, Nat.le_of_ble_eq_true rfl⟩ (Nat.le_of_ble_eq_true rfl) ?_
    have hp38_1 := h.1
    replace h := h.2
    refine p_X12_octet hp38_1 ?_
    refine a_istore (pc := 41) dX12_readsWords_41 (Nat.le_of_ble_eq_true rfl) ?_
    refine a_iload (pc := 43) dX12_readsWords_43 rfl ?_
    refine a_sipush (pc := 45) dX12_readsWords_45 (by decide) (cnb rfl) ?_
    refine a_icmp_ne (pc := 48) 72 dX12_readsWords_48 rfl ⟨fun hc => ?_, fun hc => ?_⟩
    · replace h := h.1 hc
      refine a_iload (pc := 72) dX12_readsWords_72 rfl ?_
      refine a_bipush (pc := 74) dX12_readsWords_74 (by decide) (cnb rfl) ?_
      refine a_icmp_ge (pc := 76) 88 dX12_readsWords_76 rfl ⟨fun hc => ?_, fun hc => ?_⟩
      · replace h := h.1 hc
        refine a_iconst (pc := 88) dX12_readsWords_88 (cnb rfl) ?_
        exact a_iretZ (pc := 89) dX12_readsWords_89 rfl (by decide) h
      · replace h := h.2 hc
        refine a_aload_n (pc := 79) dX12_readsWords_79 rfl ?_
        refine a_geti (pc := 80) 55 dX12_readsWords_80 f_X12_404 rfl rfl ?_
        refine a_bipush (pc := 83) dX12_readsWords_83 (by decide) (cnb rfl) ?_
        refine a_icmp_ne (pc := 85) 90 dX12_readsWords_85 rfl ⟨fun hc => ?_, fun hc => ?_⟩
        · replace h := h.1 hc
          refine a_aload_n (pc := 90) dX12_readsWords_90 rfl ?_
          refine a_getr (pc := 91) dX12_readsWords_91 f_X12_125 rfl ?_
          refine a_bipush (pc := 94) dX12_readsWords_94 (by decide) (cnb rfl) ?_
          refine a_aload_n (pc := 96) dX12_readsWords_96 rfl ?_
          refine a_geti (pc := 97) 55 dX12_readsWords_97 f_X12_404 rfl rfl ?_
          refine a_imul (pc := 100) dX12_readsWords_100 h.1 ?_
          replace h := h.2
          refine a_iload (pc := 101) dX12_readsWords_101 rfl ?_
          refine a_iadd (pc := 103) dX12_readsWords_103 h.1 ?_
          replace h := h.2
          refine a_aload_n (pc := 104) dX12_readsWords_104 rfl ?_
          refine a_getr (pc := 105) dX12_readsWords_105 f_X12_125 rfl ?_
          refine a_bipush (pc := 108) dX12_readsWords_108 (by decide) (cnb rfl) ?_
          refine a_aload_n (pc := 110) dX12_readsWords_110 rfl ?_
          refine a_geti (pc := 111) 55 dX12_readsWords_111 f_X12_404 rfl rfl ?_
          refine a_imul (pc := 114) dX12_readsWords_114 h.1 ?_
          replace h := h.2
          refine a_iload (pc := 115) dX12_readsWords_115 rfl ?_
          refine a_iadd (pc := 117) dX12_readsWords_117 h.1 ?_
          replace h := h.2
          refine a_iald (pc := 118) dX12_readsWords_118 rfl h.1.1 h.1.2  ?_
          replace h := h.2
          refine a_iconst (pc := 119) dX12_readsWords_119 (cnb rfl) ?_
          refine a_iadd (pc := 120) dX12_readsWords_120 h.1 ?_
          replace h := h.2
          refine a_iast (pc := 121) dX12_readsWords_121 rfl h.1.1 h.1.2 ?_
          replace h := h.2
          refine a_iload_n (pc := 122) dX12_readsWords_122 rfl ?_
          refine a_iconst (pc := 123) dX12_readsWords_123 (cnb rfl) ?_
          refine a_iadd (pc := 124) dX12_readsWords_124 h.1 ?_
          replace h := h.2
          refine a_istore_n (pc := 125) dX12_readsWords_125 (Nat.le_of_ble_eq_true rfl) ?_
          refine a_iinc (pc := 126) dX12_readsWords_126 rfl h.1 (Nat.le_of_ble_eq_true rfl) ?_
          replace h := h.2
          refine a_goto (pc := 129) 31 dX12_readsWords_129 rfl ?_
          exact Go.weak h (And.intro rfl (And.intro rfl (And.intro rfl (And.intro rfl True.intro))))
        · replace h := h.2 hc
          refine a_iconst (pc := 88) dX12_readsWords_88 (cnb rfl) ?_
          exact a_iretZ (pc := 89) dX12_readsWords_89 rfl (by decide) h
    · replace h := h.2 hc
      refine a_iload_n (pc := 51) dX12_readsWords_51 rfl ?_
      refine a_if_ne (pc := 52) 57 dX12_readsWords_52 rfl ⟨fun hc => ?_, fun hc => ?_⟩
      · replace h := h.1 hc
        refine a_iconst (pc := 57) dX12_readsWords_57 (cnb rfl) ?_
        refine a_istore_n (pc := 58) dX12_readsWords_58 (Nat.le_of_ble_eq_true rfl) ?_
        refine a_aload_n (pc := 59) dX12_readsWords_59 rfl ?_
        refine a_aload_n (pc := 60) dX12_readsWords_60 rfl ?_
        refine a_geti (pc := 61) 55 dX12_readsWords_61 f_X12_404 rfl rfl ?_
        refine a_iconst (pc := 64) dX12_readsWords_64 (cnb rfl) ?_
        refine a_iadd (pc := 65) dX12_readsWords_65 h.1 ?_
        replace h := h.2
        refine a_puti (pc := 66) 55 dX12_readsWords_66 f_X12_404 rfl rfl (Or.inl rfl) ?_
        refine a_goto (pc := 69) 126 dX12_readsWords_69 rfl ?_
        refine a_iinc (pc := 126) dX12_readsWords_126 rfl h.1 (Nat.le_of_ble_eq_true rfl) ?_
        replace h := h.2
        refine a_goto (pc := 129) 31 dX12_readsWords_129 rfl ?_
        exact Go.weak h (And.intro rfl (And.intro rfl (And.intro rfl (And.intro rfl True.intro))))
      · replace h := h.2 hc
        refine a_iconst (pc := 55) dX12_readsWords_55 (cnb rfl) ?_
        exact a_iretZ (pc := 56) dX12_readsWords_56 rfl (by decide) h
set_option maxRecDepth 20000 in
theorem s_X12_counts_0 {Q : Int → Me → Prop}  (M : Me) (h :
    Go (km 0 mX12_counts Q) 2 [some (.inr 76), some (.inl 0)] [] M) :
    Go (km 0 mX12_counts Q) 0 [some (.inr 76), none] [] M := by
  refine a_iconst (pc := 0) dX12_counts_0 (cnb rfl) ?_
  refine a_istore_n (pc := 1) dX12_counts_1 (Nat.le_of_ble_eq_true rfl) ?_
  exact h
set_option maxRecDepth 20000 in
theorem e_X12_counts {Q : Int → Me → Prop}  {M : Me} (h :
    Go (km 0 mX12_counts Q) 2 [some (.inr 76), some (.inl 0)] [] M) : Calls 0 mX12_counts [.inr 76] M Q := Calls.of (by decide) (Nat.le_of_ble_eq_true rfl) (s_X12_counts_0   M h)
set_option maxRecDepth 20000 in
theorem s_X12_counts_2 {Q : Int → Me → Prop}  (x1 : Int) (M : Me) (h :
    ((16 ≤ x1 →
    Go (km 0 mX12_counts Q) 23 [some (.inr 76), some (.inl 0)] [] M) ∧ (x1 < 16 →
    (0 ≤ x1 ∧ x1 < 16) ∧
    cn (x1 + 1) ∧
    Go (km 0 mX12_counts Q) 2 [some (.inr 76), some (.inl (x1 + 1))] [] (mput M 114 x1 0)))) :
    Go (km 0 mX12_counts Q) 2 [some (.inr 76), some (.inl x1)] [] M := by
  refine a_iload_n (pc := 2) dX12_counts_2 rfl ?_
  refine a_bipush (pc := 3) dX12_counts_3 (by decide) (cnb rfl) ?_
  refine a_icmp_ge (pc := 5) 21 dX12_counts_5 rfl ⟨fun hc => ?_, fun hc => ?_⟩
  · replace h := h.1 hc
    refine a_iconst (pc := 21) dX12_counts_21 (cnb rfl) ?_
    refine a_istore_n (pc := 22) dX12_counts_22 (Nat.le_of_ble_eq_true rfl) ?_
    exact h
  · replace h := h.2 hc
    refine a_aload_n (pc := 8) dX12_counts_8 rfl ?_
    refine a_getr (pc := 9) dX12_counts_9 f_X12_122 rfl ?_
    refine a_iload_n (pc := 12) dX12_counts_12 rfl ?_
    refine a_iconst (pc := 13) dX12_counts_13 (cnb rfl) ?_
    refine a_iast (pc := 14) dX12_counts_14 rfl h.1.1 h.1.2 ?_
    replace h := h.2
    refine a_iinc (pc := 15) dX12_counts_15 rfl h.1 (Nat.le_of_ble_eq_true rfl) ?_
    replace h := h.2
    refine a_goto (pc := 18) 2 dX12_counts_18 rfl ?_
    exact h
set_option maxRecDepth 20000 in
theorem s_X12_counts_23 {Q : Int → Me → Prop}  (x1 : Int) (M : Me) (h :
    ((M 76 11 ≤ x1 →
    Q 0 M) ∧ (x1 < M 76 11 →
    cn (0 + x1) ∧
    (0 ≤ 0 + x1 ∧ 0 + x1 < 82) ∧
    ((M 77 (0 + x1) = 2 →
    (0 ≤ x1 ∧ x1 < 16) ∧
    (0 ≤ x1 ∧ x1 < 16) ∧
    (0 ≤ M 81 x1 ∧ M 81 x1 < 16) ∧
    cn ((M 114 (M 81 x1)) + 1) ∧
    (0 ≤ M 81 x1 ∧ M 81 x1 < 16) ∧
    (0 ≤ x1 ∧ x1 < 16) ∧
    ((M 82 x1 < 0 →
    cn (x1 + 1) ∧
    Go (km 0 mX12_counts Q) 23 [some (.inr 76), some (.inl (x1 + 1))] [] (mput M 114 (M 81 x1) ((M 114 (M 81 x1)) + 1))) ∧ (0 ≤ M 82 x1 →
    (0 ≤ x1 ∧ x1 < 16) ∧
    (0 ≤ x1 ∧ x1 < 16) ∧
    (0 ≤ M 82 x1 ∧ M 82 x1 < 16) ∧
    cn (((mput M 114 (M 81 x1) ((M 114 (M 81 x1)) + 1)) 114 (M 82 x1)) + 1) ∧
    (0 ≤ M 82 x1 ∧ M 82 x1 < 16) ∧
    cn (x1 + 1) ∧
    Go (km 0 mX12_counts Q) 23 [some (.inr 76), some (.inl (x1 + 1))] [] (mput (mput M 114 (M 81 x1) ((M 114 (M 81 x1)) + 1)) 114 (M 82 x1) (((mput M 114 (M 81 x1) ((M 114 (M 81 x1)) + 1)) 114 (M 82 x1)) + 1))))) ∧ (M 77 (0 + x1) ≠ 2 →
    cn (x1 + 1) ∧
    Go (km 0 mX12_counts Q) 23 [some (.inr 76), some (.inl (x1 + 1))] [] M))))) :
    Go (km 0 mX12_counts Q) 23 [some (.inr 76), some (.inl x1)] [] M := by
  refine a_iload_n (pc := 23) dX12_counts_23 rfl ?_
  refine a_aload_n (pc := 24) dX12_counts_24 rfl ?_
  refine a_geti (pc := 25) 11 dX12_counts_25 f_X12_152 rfl rfl ?_
  refine a_icmp_ge (pc := 28) 109 dX12_counts_28 rfl ⟨fun hc => ?_, fun hc => ?_⟩
  · replace h := h.1 hc
    exact a_ret (pc := 109) dX12_counts_109 rfl h
  · replace h := h.2 hc
    refine a_aload_n (pc := 31) dX12_counts_31 rfl ?_
    refine a_getr (pc := 32) dX12_counts_32 f_X12_7 rfl ?_
    refine a_iconst (pc := 35) dX12_counts_35 (cnb rfl) ?_
    refine a_iload_n (pc := 36) dX12_counts_36 rfl ?_
    refine a_iadd (pc := 37) dX12_counts_37 h.1 ?_
    replace h := h.2
    refine a_iald (pc := 38) dX12_counts_38 rfl h.1.1 h.1.2  ?_
    replace h := h.2
    refine a_iconst (pc := 39) dX12_counts_39 (cnb rfl) ?_
    refine a_icmp_eq (pc := 40) 46 dX12_counts_40 rfl ⟨fun hc => ?_, fun hc => ?_⟩
    · replace h := h.1 hc
      refine a_aload_n (pc := 46) dX12_counts_46 rfl ?_
      refine a_getr (pc := 47) dX12_counts_47 f_X12_122 rfl ?_
      refine a_aload_n (pc := 50) dX12_counts_50 rfl ?_
      refine a_getr (pc := 51) dX12_counts_51 f_X12_22 rfl ?_
      refine a_iload_n (pc := 54) dX12_counts_54 rfl ?_
      refine a_iald (pc := 55) dX12_counts_55 rfl h.1.1 h.1.2  ?_
      replace h := h.2
      refine a_aload_n (pc := 56) dX12_counts_56 rfl ?_
      refine a_getr (pc := 57) dX12_counts_57 f_X12_122 rfl ?_
      refine a_aload_n (pc := 60) dX12_counts_60 rfl ?_
      refine a_getr (pc := 61) dX12_counts_61 f_X12_22 rfl ?_
      refine a_iload_n (pc := 64) dX12_counts_64 rfl ?_
      refine a_iald (pc := 65) dX12_counts_65 rfl h.1.1 h.1.2  ?_
      replace h := h.2
      refine a_iald (pc := 66) dX12_counts_66 rfl h.1.1 h.1.2  ?_
      replace h := h.2
      refine a_iconst (pc := 67) dX12_counts_67 (cnb rfl) ?_
      refine a_iadd (pc := 68) dX12_counts_68 h.1 ?_
      replace h := h.2
      refine a_iast (pc := 69) dX12_counts_69 rfl h.1.1 h.1.2 ?_
      replace h := h.2
      refine a_aload_n (pc := 70) dX12_counts_70 rfl ?_
      refine a_getr (pc := 71) dX12_counts_71 f_X12_25 rfl ?_
      refine a_iload_n (pc := 74) dX12_counts_74 rfl ?_
      refine a_ialdE (pc := 75) (M 82 x1) dX12_counts_75 rfl h.1.1 h.1.2 (mput_ne _ _ _ _ (by decide)) ?_
      replace h := h.2
      refine a_if_lt (pc := 76) 103 dX12_counts_76 rfl ⟨fun hc => ?_, fun hc => ?_⟩
      · replace h := h.1 hc
        refine a_iinc (pc := 103) dX12_counts_103 rfl h.1 (Nat.le_of_ble_eq_true rfl) ?_
        replace h := h.2
        refine a_goto (pc := 106) 23 dX12_counts_106 rfl ?_
        exact h
      · replace h := h.2 hc
        refine a_aload_n (pc := 79) dX12_counts_79 rfl ?_
        refine a_getr (pc := 80) dX12_counts_80 f_X12_122 rfl ?_
        refine a_aload_n (pc := 83) dX12_counts_83 rfl ?_
        refine a_getr (pc := 84) dX12_counts_84 f_X12_25 rfl ?_
        refine a_iload_n (pc := 87) dX12_counts_87 rfl ?_
        refine a_ialdE (pc := 88) (M 82 x1) dX12_counts_88 rfl h.1.1 h.1.2 (mput_ne _ _ _ _ (by decide)) ?_
        replace h := h.2
        refine a_aload_n (pc := 89) dX12_counts_89 rfl ?_
        refine a_getr (pc := 90) dX12_counts_90 f_X12_122 rfl ?_
        refine a_aload_n (pc := 93) dX12_counts_93 rfl ?_
        refine a_getr (pc := 94) dX12_counts_94 f_X12_25 rfl ?_
        refine a_iload_n (pc := 97) dX12_counts_97 rfl ?_
        refine a_ialdE (pc := 98) (M 82 x1) dX12_counts_98 rfl h.1.1 h.1.2 (mput_ne _ _ _ _ (by decide)) ?_
        replace h := h.2
        refine a_iald (pc := 99) dX12_counts_99 rfl h.1.1 h.1.2  ?_
        replace h := h.2
        refine a_iconst (pc := 100) dX12_counts_100 (cnb rfl) ?_
        refine a_iadd (pc := 101) dX12_counts_101 h.1 ?_
        replace h := h.2
        refine a_iast (pc := 102) dX12_counts_102 rfl h.1.1 h.1.2 ?_
        replace h := h.2
        refine a_iinc (pc := 103) dX12_counts_103 rfl h.1 (Nat.le_of_ble_eq_true rfl) ?_
        replace h := h.2
        refine a_goto (pc := 106) 23 dX12_counts_106 rfl ?_
        exact h
    · replace h := h.2 hc
      refine a_goto (pc := 43) 103 dX12_counts_43 rfl ?_
      refine a_iinc (pc := 103) dX12_counts_103 rfl h.1 (Nat.le_of_ble_eq_true rfl) ?_
      replace h := h.2
      refine a_goto (pc := 106) 23 dX12_counts_106 rfl ?_
      exact h
set_option maxRecDepth 20000 in
theorem s_X12_canBeSpelt_0 {Q : Int → Me → Prop}  (a : Int) (M : Me) (h :
    Go (km 1 mX12_canBeSpelt Q) 2 [some (.inr 76), some (.inl a), some (.inl 0), none, none] [] M) :
    Go (km 1 mX12_canBeSpelt Q) 0 [some (.inr 76), some (.inl a), none, none, none] [] M := by
  refine a_iconst (pc := 0) dX12_canBeSpelt_0 (cnb rfl) ?_
  refine a_istore_n (pc := 1) dX12_canBeSpelt_1 (Nat.le_of_ble_eq_true rfl) ?_
  exact h
set_option maxRecDepth 20000 in
theorem e_X12_canBeSpelt {Q : Int → Me → Prop}  {a : Int} {M : Me} (h :
    Go (km 1 mX12_canBeSpelt Q) 2 [some (.inr 76), some (.inl a), some (.inl 0), none, none] [] M) : Calls 1 mX12_canBeSpelt [.inr 76, .inl a] M Q := Calls.of (by decide) (Nat.le_of_ble_eq_true rfl) (s_X12_canBeSpelt_0  a M h)
set_option maxRecDepth 20000 in
theorem s_X12_canBeSpelt_2 {Q : Int → Me → Prop}  (x1 x2 : Int) (M : Me) (h :
    ((16 ≤ x2 →
    Q 1 M) ∧ (x2 < 16 →
    Go (km 1 mX12_canBeSpelt Q) 13 [some (.inr 76), some (.inl x1), some (.inl x2), some (.inl 0), some (.inl 0)] [] M))) :
    Go (km 1 mX12_canBeSpelt Q) 2 [some (.inr 76), some (.inl x1), some (.inl x2), none, none] [] M := by
  refine a_iload_n (pc := 2) dX12_canBeSpelt_2 rfl ?_
  refine a_bipush (pc := 3) dX12_canBeSpelt_3 (by decide) (cnb rfl) ?_
  refine a_icmp_ge (pc := 5) 70 dX12_canBeSpelt_5 rfl ⟨fun hc => ?_, fun hc => ?_⟩
  · replace h := h.1 hc
    refine a_iconst (pc := 70) dX12_canBeSpelt_70 (cnb rfl) ?_
    exact a_iretZ (pc := 71) dX12_canBeSpelt_71 rfl (by decide) h
  · replace h := h.2 hc
    refine a_iconst (pc := 8) dX12_canBeSpelt_8 (cnb rfl) ?_
    refine a_istore_n (pc := 9) dX12_canBeSpelt_9 (Nat.le_of_ble_eq_true rfl) ?_
    refine a_iconst (pc := 10) dX12_canBeSpelt_10 (cnb rfl) ?_
    refine a_istore (pc := 11) dX12_canBeSpelt_11 (Nat.le_of_ble_eq_true rfl) ?_
    exact h
set_option maxRecDepth 20000 in
theorem s_X12_canBeSpelt_13 {Q : Int → Me → Prop}  (x1 x2 x3 x4 : Int) (M : Me) (h :
    ((M 76 55 ≤ x4 →
    (0 ≤ x2 ∧ x2 < 16) ∧
    ((x3 ≤ M 114 x2 →
    cn (x2 + 1) ∧
    Go (km 1 mX12_canBeSpelt Q) 2 [some (.inr 76), some (.inl x1), some (.inl (x2 + 1)), none, none] [] M) ∧ (M 114 x2 < x3 →
    Q 0 M))) ∧ (x4 < M 76 55 →
    ((band (bshr x1 x4) 1 = 1 →
    cn (16 * x4) ∧
    cn ((16 * x4) + x2) ∧
    (0 ≤ (16 * x4) + x2 ∧ (16 * x4) + x2 < 128) ∧
    cn (x3 + (M 115 ((16 * x4) + x2))) ∧
    cn (x4 + 1) ∧
    Go (km 1 mX12_canBeSpelt Q) 13 [some (.inr 76), some (.inl x1), some (.inl x2), some (.inl (x3 + (M 115 ((16 * x4) + x2)))), some (.inl (x4 + 1))] [] M) ∧ (¬ (band (bshr x1 x4) 1 = 1) →
    cn (x4 + 1) ∧
    Go (km 1 mX12_canBeSpelt Q) 13 [some (.inr 76), some (.inl x1), some (.inl x2), some (.inl x3), some (.inl (x4 + 1))] [] M))))) :
    Go (km 1 mX12_canBeSpelt Q) 13 [some (.inr 76), some (.inl x1), some (.inl x2), some (.inl x3), some (.inl x4)] [] M := by
  refine a_iload (pc := 13) dX12_canBeSpelt_13 rfl ?_
  refine a_aload_n (pc := 15) dX12_canBeSpelt_15 rfl ?_
  refine a_geti (pc := 16) 55 dX12_canBeSpelt_16 f_X12_404 rfl rfl ?_
  refine a_icmp_ge (pc := 19) 52 dX12_canBeSpelt_19 rfl ⟨fun hc => ?_, fun hc => ?_⟩
  · replace h := h.1 hc
    refine a_iload_n (pc := 52) dX12_canBeSpelt_52 rfl ?_
    refine a_aload_n (pc := 53) dX12_canBeSpelt_53 rfl ?_
    refine a_getr (pc := 54) dX12_canBeSpelt_54 f_X12_122 rfl ?_
    refine a_iload_n (pc := 57) dX12_canBeSpelt_57 rfl ?_
    refine a_iald (pc := 58) dX12_canBeSpelt_58 rfl h.1.1 h.1.2  ?_
    replace h := h.2
    refine a_icmp_le (pc := 59) 64 dX12_canBeSpelt_59 rfl ⟨fun hc => ?_, fun hc => ?_⟩
    · replace h := h.1 hc
      refine a_iinc (pc := 64) dX12_canBeSpelt_64 rfl h.1 (Nat.le_of_ble_eq_true rfl) ?_
      replace h := h.2
      refine a_goto (pc := 67) 2 dX12_canBeSpelt_67 rfl ?_
      exact Go.weak h (And.intro rfl (And.intro rfl (And.intro rfl True.intro)))
    · replace h := h.2 hc
      refine a_iconst (pc := 62) dX12_canBeSpelt_62 (cnb rfl) ?_
      exact a_iretZ (pc := 63) dX12_canBeSpelt_63 rfl (by decide) h
  · replace h := h.2 hc
    refine a_iload_n (pc := 22) dX12_canBeSpelt_22 rfl ?_
    refine a_iload (pc := 23) dX12_canBeSpelt_23 rfl ?_
    refine a_callSi (pc := 25) (d := 0) (st := []) [.inl x1, .inl x4] dX12_canBeSpelt_25 l_X12_359 st_X12_has rfl ⟨Nat.le_of_ble_eq_true rfl, Nat.le_of_ble_eq_true rfl⟩ ⟨Nat.le_of_ble_eq_true rfl, Nat.le_of_ble_eq_true rfl⟩ (Nat.le_of_ble_eq_true rfl) ?_
    refine p_X12_has ⟨fun hc => ?_, fun hc => ?_⟩
    · replace h := h.1 hc
      refine a_if_eq (pc := 28) 46 dX12_canBeSpelt_28 rfl ⟨fun hc => absurd hc (by decide), fun _ => ?_⟩
      refine a_iload_n (pc := 31) dX12_canBeSpelt_31 rfl ?_
      refine a_aload_n (pc := 32) dX12_canBeSpelt_32 rfl ?_
      refine a_getr (pc := 33) dX12_canBeSpelt_33 f_X12_125 rfl ?_
      refine a_bipush (pc := 36) dX12_canBeSpelt_36 (by decide) (cnb rfl) ?_
      refine a_iload (pc := 38) dX12_canBeSpelt_38 rfl ?_
      refine a_imul (pc := 40) dX12_canBeSpelt_40 h.1 ?_
      replace h := h.2
      refine a_iload_n (pc := 41) dX12_canBeSpelt_41 rfl ?_
      refine a_iadd (pc := 42) dX12_canBeSpelt_42 h.1 ?_
      replace h := h.2
      refine a_iald (pc := 43) dX12_canBeSpelt_43 rfl h.1.1 h.1.2  ?_
      replace h := h.2
      refine a_iadd (pc := 44) dX12_canBeSpelt_44 h.1 ?_
      replace h := h.2
      refine a_istore_n (pc := 45) dX12_canBeSpelt_45 (Nat.le_of_ble_eq_true rfl) ?_
      refine a_iinc (pc := 46) dX12_canBeSpelt_46 rfl h.1 (Nat.le_of_ble_eq_true rfl) ?_
      replace h := h.2
      refine a_goto (pc := 49) 13 dX12_canBeSpelt_49 rfl ?_
      exact h
    · replace h := h.2 hc
      refine a_if_eq (pc := 28) 46 dX12_canBeSpelt_28 rfl ⟨fun _ => ?_, fun hc => absurd hc (by decide)⟩
      refine a_iinc (pc := 46) dX12_canBeSpelt_46 rfl h.1 (Nat.le_of_ble_eq_true rfl) ?_
      replace h := h.2
      refine a_goto (pc := 49) 13 dX12_canBeSpelt_49 rfl ?_
      exact h
set_option maxRecDepth 20000 in
theorem s_X12_words_0 {Q : Int → Me → Prop}  (a b : Int) (M : Me) (h :
    ((1 ≤ a ∧ a ≤ 60 →
    ((0 ≤ b ∧ b ≤ 1 →
    ((a ≤ M 76 13 →
    Calls 1 mX12_readsWords [.inr 76, .inl a] (mput M 76 13 0) (fun r36 M36 =>
    ((r36 ≠ 0 →
    Calls 0 mX12_counts [.inr 76] M36 (fun r46 M46 =>
    Go (km 2 mX12_words Q) 54 [some (.inr 76), none, some (.inl b), some (.inl 0), some (.inl 1)] [] M46)) ∧ (r36 = 0 →
    Q (-2) M36)))) ∧ (M 76 13 < a →
    Q (-1) M))) ∧ (¬ (0 ≤ b ∧ b ≤ 1) →
    Q (-1) M))) ∧ (¬ (1 ≤ a ∧ a ≤ 60) →
    Q (-1) M))) :
    Go (km 2 mX12_words Q) 0 [some (.inr 76), some (.inl a), some (.inl b), none, none] [] M := by
  refine a_iload_n (pc := 0) dX12_words_0 rfl ?_
  refine a_iconst (pc := 1) dX12_words_1 (cnb rfl) ?_
  refine a_bipush (pc := 2) dX12_words_2 (by decide) (cnb rfl) ?_
  refine a_callSi (pc := 4) (d := 0) (st := []) [.inl a, .inl 1, .inl 60] dX12_words_4 l_X12_156 st_X12_in rfl ⟨Nat.le_of_ble_eq_true rfl, Nat.le_of_ble_eq_true rfl⟩ ⟨Nat.le_of_ble_eq_true rfl, Nat.le_of_ble_eq_true rfl⟩ (Nat.le_of_ble_eq_true rfl) ?_
  refine p_X12_in ⟨fun hc => ?_, fun hc => ?_⟩
  · replace h := h.1 hc
    refine a_if_eq (pc := 7) 27 dX12_words_7 rfl ⟨fun hc => absurd hc (by decide), fun _ => ?_⟩
    refine a_iload_n (pc := 10) dX12_words_10 rfl ?_
    refine a_iconst (pc := 11) dX12_words_11 (cnb rfl) ?_
    refine a_iconst (pc := 12) dX12_words_12 (cnb rfl) ?_
    refine a_callSi (pc := 13) (d := 0) (st := []) [.inl b, .inl 0, .inl 1] dX12_words_13 l_X12_156 st_X12_in rfl ⟨Nat.le_of_ble_eq_true rfl, Nat.le_of_ble_eq_true rfl⟩ ⟨Nat.le_of_ble_eq_true rfl, Nat.le_of_ble_eq_true rfl⟩ (Nat.le_of_ble_eq_true rfl) ?_
    refine p_X12_in ⟨fun hc => ?_, fun hc => ?_⟩
    · replace h := h.1 hc
      refine a_if_eq (pc := 16) 27 dX12_words_16 rfl ⟨fun hc => absurd hc (by decide), fun _ => ?_⟩
      refine a_iload_n (pc := 19) dX12_words_19 rfl ?_
      refine a_aload_n (pc := 20) dX12_words_20 rfl ?_
      refine a_geti (pc := 21) 13 dX12_words_21 f_X12_168 rfl rfl ?_
      refine a_icmp_le (pc := 24) 29 dX12_words_24 rfl ⟨fun hc => ?_, fun hc => ?_⟩
      · replace h := h.1 hc
        refine a_aload_n (pc := 29) dX12_words_29 rfl ?_
        refine a_iconst (pc := 30) dX12_words_30 (cnb rfl) ?_
        refine a_puti (pc := 31) 13 dX12_words_31 f_X12_168 rfl rfl (Or.inl rfl) ?_
        refine a_aload_n (pc := 34) dX12_words_34 rfl ?_
        refine a_iload_n (pc := 35) dX12_words_35 rfl ?_
        refine a_callVi (pc := 36) (d := 1) (st := []) (o := 76) [.inl a] dX12_words_36 l_X12_410 in_X12_readsWords se_X12_readsWords rfl rfl rfl ⟨Nat.le_of_ble_eq_true rfl, Nat.le_of_ble_eq_true rfl⟩ ⟨Nat.le_of_ble_eq_true rfl, Nat.le_of_ble_eq_true rfl⟩ (Nat.le_of_ble_eq_true rfl) ?_
        refine Calls.mono (fun r36 M36 hr36 hM36 h => ?_) h
        refine a_if_ne (pc := 39) 45 dX12_words_39 rfl ⟨fun hc => ?_, fun hc => ?_⟩
        · replace h := h.1 hc
          refine a_aload_n (pc := 45) dX12_words_45 rfl ?_
          refine a_callVv (pc := 46) (d := 0) (st := []) (o := 76) [] dX12_words_46 l_X12_413 in_X12_counts se_X12_counts rfl rfl rfl ⟨Nat.le_of_ble_eq_true rfl, Nat.le_of_ble_eq_true rfl⟩ ⟨Nat.le_of_ble_eq_true rfl, Nat.le_of_ble_eq_true rfl⟩ (Nat.le_of_ble_eq_true rfl) ?_
          refine Calls.mono (fun r46 M46 hr46 hM46 h => ?_) h
          refine a_iconst (pc := 49) dX12_words_49 (cnb rfl) ?_
          refine a_istore_n (pc := 50) dX12_words_50 (Nat.le_of_ble_eq_true rfl) ?_
          refine a_iconst (pc := 51) dX12_words_51 (cnb rfl) ?_
          refine a_istore (pc := 52) dX12_words_52 (Nat.le_of_ble_eq_true rfl) ?_
          exact Go.weak h (And.intro rfl (And.intro rfl (And.intro rfl (And.intro rfl True.intro))))
        · replace h := h.2 hc
          refine a_bipush (pc := 42) dX12_words_42 (by decide) (cnb rfl) ?_
          exact a_iretI (pc := 44) dX12_words_44 rfl h
      · replace h := h.2 hc
        refine a_iconst (pc := 27) dX12_words_27 (cnb rfl) ?_
        exact a_iretI (pc := 28) dX12_words_28 rfl h
    · replace h := h.2 hc
      refine a_if_eq (pc := 16) 27 dX12_words_16 rfl ⟨fun _ => ?_, fun hc => absurd hc (by decide)⟩
      refine a_iconst (pc := 27) dX12_words_27 (cnb rfl) ?_
      exact a_iretI (pc := 28) dX12_words_28 rfl h
  · replace h := h.2 hc
    refine a_if_eq (pc := 7) 27 dX12_words_7 rfl ⟨fun _ => ?_, fun hc => absurd hc (by decide)⟩
    refine a_iconst (pc := 27) dX12_words_27 (cnb rfl) ?_
    exact a_iretI (pc := 28) dX12_words_28 rfl h
set_option maxRecDepth 20000 in
theorem e_X12_words {Q : Int → Me → Prop}  {a b : Int} {M : Me} (h :
    ((1 ≤ a ∧ a ≤ 60 →
    ((0 ≤ b ∧ b ≤ 1 →
    ((a ≤ M 76 13 →
    Calls 1 mX12_readsWords [.inr 76, .inl a] (mput M 76 13 0) (fun r36 M36 =>
    ((r36 ≠ 0 →
    Calls 0 mX12_counts [.inr 76] M36 (fun r46 M46 =>
    Go (km 2 mX12_words Q) 54 [some (.inr 76), none, some (.inl b), some (.inl 0), some (.inl 1)] [] M46)) ∧ (r36 = 0 →
    Q (-2) M36)))) ∧ (M 76 13 < a →
    Q (-1) M))) ∧ (¬ (0 ≤ b ∧ b ≤ 1) →
    Q (-1) M))) ∧ (¬ (1 ≤ a ∧ a ≤ 60) →
    Q (-1) M))) : Calls 2 mX12_words [.inr 76, .inl a, .inl b] M Q := Calls.of (by decide) (Nat.le_of_ble_eq_true rfl) (s_X12_words_0  a b M h)
set_option maxRecDepth 20000 in
theorem s_X12_words_54 {Q : Int → Me → Prop}  (x2 x3 x4 : Int) (M : Me) (h :
    ((bshl 1 (M 76 55) ≤ x4 →
    ((x2 ≠ 0 →
    Q x3 M) ∧ (x2 = 0 →
    Calls 0 mX12_bits [.inl x3] M (fun r100 M100 =>
    Q r100 M100)))) ∧ (x4 < bshl 1 (M 76 55) →
    Calls 0 mX12_bits [.inl x4] M (fun r67 M67 =>
    Calls 0 mX12_bits [.inl x3] M67 (fun r71 M71 =>
    ((r67 ≤ r71 →
    cn (x4 + 1) ∧
    Go (km 2 mX12_words Q) 54 [some (.inr 76), none, some (.inl x2), some (.inl x3), some (.inl (x4 + 1))] [] M71) ∧ (r71 < r67 →
    Calls 1 mX12_canBeSpelt [.inr 76, .inl x4] M71 (fun r80 M80 =>
    ((r80 = 0 →
    cn (x4 + 1) ∧
    Go (km 2 mX12_words Q) 54 [some (.inr 76), none, some (.inl x2), some (.inl x3), some (.inl (x4 + 1))] [] M80) ∧ (r80 ≠ 0 →
    cn (x4 + 1) ∧
    Go (km 2 mX12_words Q) 54 [some (.inr 76), none, some (.inl x2), some (.inl x4), some (.inl (x4 + 1))] [] M80)))))))))) :
    Go (km 2 mX12_words Q) 54 [some (.inr 76), none, some (.inl x2), some (.inl x3), some (.inl x4)] [] M := by
  refine a_iload (pc := 54) dX12_words_54 rfl ?_
  refine a_iconst (pc := 56) dX12_words_56 (cnb rfl) ?_
  refine a_aload_n (pc := 57) dX12_words_57 rfl ?_
  refine a_geti (pc := 58) 55 dX12_words_58 f_X12_404 rfl rfl ?_
  refine a_ishl (pc := 61) dX12_words_61 ?_
  refine a_icmp_ge (pc := 62) 95 dX12_words_62 rfl ⟨fun hc => ?_, fun hc => ?_⟩
  · replace h := h.1 hc
    refine a_iload_n (pc := 95) dX12_words_95 rfl ?_
    refine a_if_ne (pc := 96) 106 dX12_words_96 rfl ⟨fun hc => ?_, fun hc => ?_⟩
    · replace h := h.1 hc
      refine a_iload_n (pc := 106) dX12_words_106 rfl ?_
      exact a_iretI (pc := 107) dX12_words_107 rfl h
    · replace h := h.2 hc
      refine a_iload_n (pc := 99) dX12_words_99 rfl ?_
      refine a_callSi (pc := 100) (d := 0) (st := []) [.inl x3] dX12_words_100 l_X12_398 st_X12_bits rfl ⟨Nat.le_of_ble_eq_true rfl, Nat.le_of_ble_eq_true rfl⟩ ⟨Nat.le_of_ble_eq_true rfl, Nat.le_of_ble_eq_true rfl⟩ (Nat.le_of_ble_eq_true rfl) ?_
      refine Calls.mono (fun r100 M100 hr100 hM100 h => ?_) h
      refine a_goto (pc := 103) 107 dX12_words_103 rfl ?_
      exact a_iretI (pc := 107) dX12_words_107 rfl h
  · replace h := h.2 hc
    refine a_iload (pc := 65) dX12_words_65 rfl ?_
    refine a_callSi (pc := 67) (d := 0) (st := []) [.inl x4] dX12_words_67 l_X12_398 st_X12_bits rfl ⟨Nat.le_of_ble_eq_true rfl, Nat.le_of_ble_eq_true rfl⟩ ⟨Nat.le_of_ble_eq_true rfl, Nat.le_of_ble_eq_true rfl⟩ (Nat.le_of_ble_eq_true rfl) ?_
    refine Calls.mono (fun r67 M67 hr67 hM67 h => ?_) h
    refine a_iload_n (pc := 70) dX12_words_70 rfl ?_
    refine a_callSi (pc := 71) (d := 0) (st := [.inl r67]) [.inl x3] dX12_words_71 l_X12_398 st_X12_bits rfl ⟨Nat.le_of_ble_eq_true rfl, Nat.le_of_ble_eq_true rfl⟩ ⟨Nat.le_of_ble_eq_true rfl, Nat.le_of_ble_eq_true rfl⟩ (Nat.le_of_ble_eq_true rfl) ?_
    refine Calls.mono (fun r71 M71 hr71 hM71 h => ?_) h
    refine a_icmp_le (pc := 74) 89 dX12_words_74 rfl ⟨fun hc => ?_, fun hc => ?_⟩
    · replace h := h.1 hc
      refine a_iinc (pc := 89) dX12_words_89 rfl h.1 (Nat.le_of_ble_eq_true rfl) ?_
      replace h := h.2
      refine a_goto (pc := 92) 54 dX12_words_92 rfl ?_
      exact h
    · replace h := h.2 hc
      refine a_aload_n (pc := 77) dX12_words_77 rfl ?_
      refine a_iload (pc := 78) dX12_words_78 rfl ?_
      refine a_callVi (pc := 80) (d := 1) (st := []) (o := 76) [.inl x4] dX12_words_80 l_X12_416 in_X12_canBeSpelt se_X12_canBeSpelt rfl rfl rfl ⟨Nat.le_of_ble_eq_true rfl, Nat.le_of_ble_eq_true rfl⟩ ⟨Nat.le_of_ble_eq_true rfl, Nat.le_of_ble_eq_true rfl⟩ (Nat.le_of_ble_eq_true rfl) ?_
      refine Calls.mono (fun r80 M80 hr80 hM80 h => ?_) h
      refine a_if_eq (pc := 83) 89 dX12_words_83 rfl ⟨fun hc => ?_, fun hc => ?_⟩
      · replace h := h.1 hc
        refine a_iinc (pc := 89) dX12_words_89 rfl h.1 (Nat.le_of_ble_eq_true rfl) ?_
        replace h := h.2
        refine a_goto (pc := 92) 54 dX12_words_92 rfl ?_
        exact h
      · replace h := h.2 hc
        refine a_iload (pc := 86) dX12_words_86 rfl ?_
        refine a_istore_n (pc := 88) dX12_words_88 (Nat.le_of_ble_eq_true rfl) ?_
        refine a_iinc (pc := 89) dX12_words_89 rfl h.1 (Nat.le_of_ble_eq_true rfl) ?_
        replace h := h.2
        refine a_goto (pc := 92) 54 dX12_words_92 rfl ?_
        exact h
