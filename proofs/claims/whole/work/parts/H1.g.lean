set_option maxRecDepth 20000 in
theorem s_L_law_18 {b L : Nat} {xs : Nat → Int32} (hL : L ≤ 3072) (x3 : Int) (M : Me) (h :
    cn ((L : Int) - 6) ∧
    (((L : Int) - 6 < x3 →
    (1 : Int) = 1) ∧ (x3 ≤ (L : Int) - 6 →
    (0 ≤ x3 ∧ x3 < (L : Int)) ∧
    ((band (sx xs x3) 31 < 0 ∨ 30 < band (sx xs x3) 31 →
    Go (KL b L xs) 1045 [some (.inr 1003), some (.inr 0), some (.inr 76), some (.inl x3)] [] M) ∧
    ((band (sx xs x3) 31 = 0 →
    Go (KL b L xs) 172 [some (.inr 1003), some (.inr 0), some (.inr 76), some (.inl x3)] [] M) ∧
    ((band (sx xs x3) 31 = 1 →
    Go (KL b L xs) 215 [some (.inr 1003), some (.inr 0), some (.inr 76), some (.inl x3)] [] M) ∧
    ((band (sx xs x3) 31 = 2 →
    Go (KL b L xs) 278 [some (.inr 1003), some (.inr 0), some (.inr 76), some (.inl x3)] [] M) ∧
    ((band (sx xs x3) 31 = 3 →
    Go (KL b L xs) 301 [some (.inr 1003), some (.inr 0), some (.inr 76), some (.inl x3)] [] M) ∧
    ((band (sx xs x3) 31 = 4 →
    Go (KL b L xs) 324 [some (.inr 1003), some (.inr 0), some (.inr 76), some (.inl x3)] [] M) ∧
    ((band (sx xs x3) 31 = 5 →
    Go (KL b L xs) 347 [some (.inr 1003), some (.inr 0), some (.inr 76), some (.inl x3)] [] M) ∧
    ((band (sx xs x3) 31 = 6 →
    Go (KL b L xs) 380 [some (.inr 1003), some (.inr 0), some (.inr 76), some (.inl x3)] [] M) ∧
    ((band (sx xs x3) 31 = 7 →
    Go (KL b L xs) 413 [some (.inr 1003), some (.inr 0), some (.inr 76), some (.inl x3)] [] M) ∧
    ((band (sx xs x3) 31 = 8 →
    Go (KL b L xs) 456 [some (.inr 1003), some (.inr 0), some (.inr 76), some (.inl x3)] [] M) ∧
    ((band (sx xs x3) 31 = 9 →
    Go (KL b L xs) 489 [some (.inr 1003), some (.inr 0), some (.inr 76), some (.inl x3)] [] M) ∧
    ((band (sx xs x3) 31 = 10 →
    Go (KL b L xs) 512 [some (.inr 1003), some (.inr 0), some (.inr 76), some (.inl x3)] [] M) ∧
    ((band (sx xs x3) 31 = 11 →
    Go (KL b L xs) 535 [some (.inr 1003), some (.inr 0), some (.inr 76), some (.inl x3)] [] M) ∧
    ((band (sx xs x3) 31 = 12 →
    Go (KL b L xs) 548 [some (.inr 1003), some (.inr 0), some (.inr 76), some (.inl x3)] [] M) ∧
    ((band (sx xs x3) 31 = 13 →
    Go (KL b L xs) 581 [some (.inr 1003), some (.inr 0), some (.inr 76), some (.inl x3)] [] M) ∧
    ((band (sx xs x3) 31 = 14 →
    Go (KL b L xs) 614 [some (.inr 1003), some (.inr 0), some (.inr 76), some (.inl x3)] [] M) ∧
    ((band (sx xs x3) 31 = 15 →
    Go (KL b L xs) 637 [some (.inr 1003), some (.inr 0), some (.inr 76), some (.inl x3)] [] M) ∧
    ((band (sx xs x3) 31 = 16 →
    Go (KL b L xs) 660 [some (.inr 1003), some (.inr 0), some (.inr 76), some (.inl x3)] [] M) ∧
    ((band (sx xs x3) 31 = 17 →
    Go (KL b L xs) 713 [some (.inr 1003), some (.inr 0), some (.inr 76), some (.inl x3)] [] M) ∧
    ((band (sx xs x3) 31 = 18 →
    Go (KL b L xs) 746 [some (.inr 1003), some (.inr 0), some (.inr 76), some (.inl x3)] [] M) ∧
    ((band (sx xs x3) 31 = 19 →
    Go (KL b L xs) 769 [some (.inr 1003), some (.inr 0), some (.inr 76), some (.inl x3)] [] M) ∧
    ((band (sx xs x3) 31 = 20 →
    Go (KL b L xs) 782 [some (.inr 1003), some (.inr 0), some (.inr 76), some (.inl x3)] [] M) ∧
    ((band (sx xs x3) 31 = 21 →
    Go (KL b L xs) 795 [some (.inr 1003), some (.inr 0), some (.inr 76), some (.inl x3)] [] M) ∧
    ((band (sx xs x3) 31 = 22 →
    Go (KL b L xs) 808 [some (.inr 1003), some (.inr 0), some (.inr 76), some (.inl x3)] [] M) ∧
    ((band (sx xs x3) 31 = 23 →
    Go (KL b L xs) 841 [some (.inr 1003), some (.inr 0), some (.inr 76), some (.inl x3)] [] M) ∧
    ((band (sx xs x3) 31 = 24 →
    Go (KL b L xs) 874 [some (.inr 1003), some (.inr 0), some (.inr 76), some (.inl x3)] [] M) ∧
    ((band (sx xs x3) 31 = 25 →
    Go (KL b L xs) 907 [some (.inr 1003), some (.inr 0), some (.inr 76), some (.inl x3)] [] M) ∧
    ((band (sx xs x3) 31 = 26 →
    Go (KL b L xs) 950 [some (.inr 1003), some (.inr 0), some (.inr 76), some (.inl x3)] [] M) ∧
    ((band (sx xs x3) 31 = 27 →
    Go (KL b L xs) 973 [some (.inr 1003), some (.inr 0), some (.inr 76), some (.inl x3)] [] M) ∧
    ((band (sx xs x3) 31 = 28 →
    Go (KL b L xs) 986 [some (.inr 1003), some (.inr 0), some (.inr 76), some (.inl x3)] [] M) ∧
    ((band (sx xs x3) 31 = 29 →
    Go (KL b L xs) 999 [some (.inr 1003), some (.inr 0), some (.inr 76), some (.inl x3)] [] M) ∧
    (band (sx xs x3) 31 = 30 →
    Go (KL b L xs) 1022 [some (.inr 1003), some (.inr 0), some (.inr 76), some (.inl x3)] [] M))))))))))))))))))))))))))))))))))) :
    Go (KL b L xs) 18 [some (.inr 1003), some (.inr 0), some (.inr 76), some (.inl x3)] [] M := by
  refine a_iload_n (pc := 18) dL_law_18 rfl ?_
  refine a_aload_n (pc := 19) dL_law_19 rfl ?_
  refine a_lslen (pc := 20) hL dL_law_20 ?_
  refine a_bipush (pc := 21) dL_law_21 (by decide) (cnb rfl) ?_
  refine a_isub (pc := 23) dL_law_23 h.1 ?_
  replace h := h.2
  refine a_icmp_gt (pc := 24) 1051 dL_law_24 rfl ⟨fun hc => ?_, fun hc => ?_⟩
  · replace h := h.1 hc
    refine a_iconst (pc := 1051) dL_law_1051 (cnb rfl) ?_
    exact a_lret (pc := 1052) dL_law_1052 h
  · replace h := h.2 hc
    refine a_aload_n (pc := 27) dL_law_27 rfl ?_
    refine a_iload_n (pc := 28) dL_law_28 rfl ?_
    refine a_lsld (pc := 29) dL_law_29 h.1.1 h.1.2 ?_
    replace h := h.2
    refine a_bipush (pc := 30) dL_law_30 (by decide) (cnb rfl) ?_
    refine a_iand (pc := 32) dL_law_32 ?_
    by_cases ho_33 : band (sx xs x3) 31 < 0 ∨ 30 < band (sx xs x3) 31
    · replace h := h.1 ho_33
      refine a_tableOut 1045 dL_law_33 ho_33 rfl ?_
      exact h
    · replace h := h.2
      by_cases he_33_0 : band (sx xs x3) 31 = 0
      · replace h := h.1 he_33_0
        refine a_tableIn 172 dL_law_33 (by omega) (by omega) (off := 139) (by rw [he_33_0]; rfl) rfl ?_
        exact h
      replace h := h.2
      by_cases he_33_1 : band (sx xs x3) 31 = 1
      · replace h := h.1 he_33_1
        refine a_tableIn 215 dL_law_33 (by omega) (by omega) (off := 182) (by rw [he_33_1]; rfl) rfl ?_
        exact h
      replace h := h.2
      by_cases he_33_2 : band (sx xs x3) 31 = 2
      · replace h := h.1 he_33_2
        refine a_tableIn 278 dL_law_33 (by omega) (by omega) (off := 245) (by rw [he_33_2]; rfl) rfl ?_
        exact h
      replace h := h.2
      by_cases he_33_3 : band (sx xs x3) 31 = 3
      · replace h := h.1 he_33_3
        refine a_tableIn 301 dL_law_33 (by omega) (by omega) (off := 268) (by rw [he_33_3]; rfl) rfl ?_
        exact h
      replace h := h.2
      by_cases he_33_4 : band (sx xs x3) 31 = 4
      · replace h := h.1 he_33_4
        refine a_tableIn 324 dL_law_33 (by omega) (by omega) (off := 291) (by rw [he_33_4]; rfl) rfl ?_
        exact h
      replace h := h.2
      by_cases he_33_5 : band (sx xs x3) 31 = 5
      · replace h := h.1 he_33_5
        refine a_tableIn 347 dL_law_33 (by omega) (by omega) (off := 314) (by rw [he_33_5]; rfl) rfl ?_
        exact h
      replace h := h.2
      by_cases he_33_6 : band (sx xs x3) 31 = 6
      · replace h := h.1 he_33_6
        refine a_tableIn 380 dL_law_33 (by omega) (by omega) (off := 347) (by rw [he_33_6]; rfl) rfl ?_
        exact h
      replace h := h.2
      by_cases he_33_7 : band (sx xs x3) 31 = 7
      · replace h := h.1 he_33_7
        refine a_tableIn 413 dL_law_33 (by omega) (by omega) (off := 380) (by rw [he_33_7]; rfl) rfl ?_
        exact h
      replace h := h.2
      by_cases he_33_8 : band (sx xs x3) 31 = 8
      · replace h := h.1 he_33_8
        refine a_tableIn 456 dL_law_33 (by omega) (by omega) (off := 423) (by rw [he_33_8]; rfl) rfl ?_
        exact h
      replace h := h.2
      by_cases he_33_9 : band (sx xs x3) 31 = 9
      · replace h := h.1 he_33_9
        refine a_tableIn 489 dL_law_33 (by omega) (by omega) (off := 456) (by rw [he_33_9]; rfl) rfl ?_
        exact h
      replace h := h.2
      by_cases he_33_10 : band (sx xs x3) 31 = 10
      · replace h := h.1 he_33_10
        refine a_tableIn 512 dL_law_33 (by omega) (by omega) (off := 479) (by rw [he_33_10]; rfl) rfl ?_
        exact h
      replace h := h.2
      by_cases he_33_11 : band (sx xs x3) 31 = 11
      · replace h := h.1 he_33_11
        refine a_tableIn 535 dL_law_33 (by omega) (by omega) (off := 502) (by rw [he_33_11]; rfl) rfl ?_
        exact h
      replace h := h.2
      by_cases he_33_12 : band (sx xs x3) 31 = 12
      · replace h := h.1 he_33_12
        refine a_tableIn 548 dL_law_33 (by omega) (by omega) (off := 515) (by rw [he_33_12]; rfl) rfl ?_
        exact h
      replace h := h.2
      by_cases he_33_13 : band (sx xs x3) 31 = 13
      · replace h := h.1 he_33_13
        refine a_tableIn 581 dL_law_33 (by omega) (by omega) (off := 548) (by rw [he_33_13]; rfl) rfl ?_
        exact h
      replace h := h.2
      by_cases he_33_14 : band (sx xs x3) 31 = 14
      · replace h := h.1 he_33_14
        refine a_tableIn 614 dL_law_33 (by omega) (by omega) (off := 581) (by rw [he_33_14]; rfl) rfl ?_
        exact h
      replace h := h.2
      by_cases he_33_15 : band (sx xs x3) 31 = 15
      · replace h := h.1 he_33_15
        refine a_tableIn 637 dL_law_33 (by omega) (by omega) (off := 604) (by rw [he_33_15]; rfl) rfl ?_
        exact h
      replace h := h.2
      by_cases he_33_16 : band (sx xs x3) 31 = 16
      · replace h := h.1 he_33_16
        refine a_tableIn 660 dL_law_33 (by omega) (by omega) (off := 627) (by rw [he_33_16]; rfl) rfl ?_
        exact h
      replace h := h.2
      by_cases he_33_17 : band (sx xs x3) 31 = 17
      · replace h := h.1 he_33_17
        refine a_tableIn 713 dL_law_33 (by omega) (by omega) (off := 680) (by rw [he_33_17]; rfl) rfl ?_
        exact h
      replace h := h.2
      by_cases he_33_18 : band (sx xs x3) 31 = 18
      · replace h := h.1 he_33_18
        refine a_tableIn 746 dL_law_33 (by omega) (by omega) (off := 713) (by rw [he_33_18]; rfl) rfl ?_
        exact h
      replace h := h.2
      by_cases he_33_19 : band (sx xs x3) 31 = 19
      · replace h := h.1 he_33_19
        refine a_tableIn 769 dL_law_33 (by omega) (by omega) (off := 736) (by rw [he_33_19]; rfl) rfl ?_
        exact h
      replace h := h.2
      by_cases he_33_20 : band (sx xs x3) 31 = 20
      · replace h := h.1 he_33_20
        refine a_tableIn 782 dL_law_33 (by omega) (by omega) (off := 749) (by rw [he_33_20]; rfl) rfl ?_
        exact h
      replace h := h.2
      by_cases he_33_21 : band (sx xs x3) 31 = 21
      · replace h := h.1 he_33_21
        refine a_tableIn 795 dL_law_33 (by omega) (by omega) (off := 762) (by rw [he_33_21]; rfl) rfl ?_
        exact h
      replace h := h.2
      by_cases he_33_22 : band (sx xs x3) 31 = 22
      · replace h := h.1 he_33_22
        refine a_tableIn 808 dL_law_33 (by omega) (by omega) (off := 775) (by rw [he_33_22]; rfl) rfl ?_
        exact h
      replace h := h.2
      by_cases he_33_23 : band (sx xs x3) 31 = 23
      · replace h := h.1 he_33_23
        refine a_tableIn 841 dL_law_33 (by omega) (by omega) (off := 808) (by rw [he_33_23]; rfl) rfl ?_
        exact h
      replace h := h.2
      by_cases he_33_24 : band (sx xs x3) 31 = 24
      · replace h := h.1 he_33_24
        refine a_tableIn 874 dL_law_33 (by omega) (by omega) (off := 841) (by rw [he_33_24]; rfl) rfl ?_
        exact h
      replace h := h.2
      by_cases he_33_25 : band (sx xs x3) 31 = 25
      · replace h := h.1 he_33_25
        refine a_tableIn 907 dL_law_33 (by omega) (by omega) (off := 874) (by rw [he_33_25]; rfl) rfl ?_
        exact h
      replace h := h.2
      by_cases he_33_26 : band (sx xs x3) 31 = 26
      · replace h := h.1 he_33_26
        refine a_tableIn 950 dL_law_33 (by omega) (by omega) (off := 917) (by rw [he_33_26]; rfl) rfl ?_
        exact h
      replace h := h.2
      by_cases he_33_27 : band (sx xs x3) 31 = 27
      · replace h := h.1 he_33_27
        refine a_tableIn 973 dL_law_33 (by omega) (by omega) (off := 940) (by rw [he_33_27]; rfl) rfl ?_
        exact h
      replace h := h.2
      by_cases he_33_28 : band (sx xs x3) 31 = 28
      · replace h := h.1 he_33_28
        refine a_tableIn 986 dL_law_33 (by omega) (by omega) (off := 953) (by rw [he_33_28]; rfl) rfl ?_
        exact h
      replace h := h.2
      by_cases he_33_29 : band (sx xs x3) 31 = 29
      · replace h := h.1 he_33_29
        refine a_tableIn 999 dL_law_33 (by omega) (by omega) (off := 966) (by rw [he_33_29]; rfl) rfl ?_
        exact h
      replace h := h.2
      by_cases he_33_30 : band (sx xs x3) 31 = 30
      · replace h := h he_33_30
        refine a_tableIn 1022 dL_law_33 (by omega) (by omega) (off := 989) (by rw [he_33_30]; rfl) rfl ?_
        exact h
      exfalso; omega
set_option maxRecDepth 20000 in
theorem s_L_law_1045 {b L : Nat} {xs : Nat → Int32} (hL : L ≤ 3072) (x3 : Int) (M : Me) (h :
    cn (x3 + 6) ∧
    Go (KL b L xs) 18 [some (.inr 1003), some (.inr 0), some (.inr 76), some (.inl (x3 + 6))] [] M) :
    Go (KL b L xs) 1045 [some (.inr 1003), some (.inr 0), some (.inr 76), some (.inl x3)] [] M := by
  refine a_iinc (pc := 1045) dL_law_1045 rfl h.1 (Nat.le_of_ble_eq_true rfl) ?_
  replace h := h.2
  refine a_goto (pc := 1048) 18 dL_law_1048 rfl ?_
  exact h
set_option maxRecDepth 20000 in
theorem s_L_law_172 {b L : Nat} {xs : Nat → Int32} (hL : L ≤ 3072) (x3 : Int) (M : Me) (h :
    cn (x3 + 1) ∧
    (0 ≤ x3 + 1 ∧ x3 + 1 < (L : Int)) ∧
    cn (x3 + 2) ∧
    (0 ≤ x3 + 2 ∧ x3 + 2 < (L : Int)) ∧
    cn (x3 + 3) ∧
    (0 ≤ x3 + 3 ∧ x3 + 3 < (L : Int)) ∧
    Calls 1 mX11_home [.inr 0, .inl (sx xs (x3 + 1)), .inl (sx xs (x3 + 2)), .inl (sx xs (x3 + 3))] M (fun r188 M188 =>
    cn (x3 + 1) ∧
    (0 ≤ x3 + 1 ∧ x3 + 1 < (L : Int)) ∧
    cn (x3 + 2) ∧
    (0 ≤ x3 + 2 ∧ x3 + 2 < (L : Int)) ∧
    cn (x3 + 3) ∧
    (0 ≤ x3 + 3 ∧ x3 + 3 < (L : Int)) ∧
    Calls 2 mX12_home [.inr 76, .inl (sx xs (x3 + 1)), .inl (sx xs (x3 + 2)), .inl (sx xs (x3 + 3))] M188 (fun r207 M207 =>
    ((r188 = r207 →
    Go (KL b L xs) 1045 [some (.inr 1003), some (.inr 0), some (.inr 76), some (.inl x3)] [] M207) ∧ (r188 ≠ r207 →
    (0 : Int) = 1))))) :
    Go (KL b L xs) 172 [some (.inr 1003), some (.inr 0), some (.inr 76), some (.inl x3)] [] M := by
  refine a_aload_n (pc := 172) dL_law_172 rfl ?_
  refine a_aload_n (pc := 173) dL_law_173 rfl ?_
  refine a_iload_n (pc := 174) dL_law_174 rfl ?_
  refine a_iconst (pc := 175) dL_law_175 (cnb rfl) ?_
  refine a_iadd (pc := 176) dL_law_176 h.1 ?_
  replace h := h.2
  refine a_lsld (pc := 177) dL_law_177 h.1.1 h.1.2 ?_
  replace h := h.2
  refine a_aload_n (pc := 178) dL_law_178 rfl ?_
  refine a_iload_n (pc := 179) dL_law_179 rfl ?_
  refine a_iconst (pc := 180) dL_law_180 (cnb rfl) ?_
  refine a_iadd (pc := 181) dL_law_181 h.1 ?_
  replace h := h.2
  refine a_lsld (pc := 182) dL_law_182 h.1.1 h.1.2 ?_
  replace h := h.2
  refine a_aload_n (pc := 183) dL_law_183 rfl ?_
  refine a_iload_n (pc := 184) dL_law_184 rfl ?_
  refine a_iconst (pc := 185) dL_law_185 (cnb rfl) ?_
  refine a_iadd (pc := 186) dL_law_186 h.1 ?_
  replace h := h.2
  refine a_lsld (pc := 187) dL_law_187 h.1.1 h.1.2 ?_
  replace h := h.2
  refine a_callVi (pc := 188) (d := 1) (st := []) (o := 0) [.inl (sx xs (x3 + 1)), .inl (sx xs (x3 + 2)), .inl (sx xs (x3 + 3))] dL_law_188 l_L_13 in_X11_home se_X11_home rfl rfl rfl ⟨Nat.le_of_ble_eq_true rfl, Nat.le_of_ble_eq_true rfl⟩ ⟨Nat.le_of_ble_eq_true rfl, Nat.le_of_ble_eq_true rfl⟩ (Nat.le_of_ble_eq_true rfl) ?_
  refine Calls.mono (fun r188 M188 hr188 hM188 h => ?_) h
  refine a_aload_n (pc := 191) dL_law_191 rfl ?_
  refine a_aload_n (pc := 192) dL_law_192 rfl ?_
  refine a_iload_n (pc := 193) dL_law_193 rfl ?_
  refine a_iconst (pc := 194) dL_law_194 (cnb rfl) ?_
  refine a_iadd (pc := 195) dL_law_195 h.1 ?_
  replace h := h.2
  refine a_lsld (pc := 196) dL_law_196 h.1.1 h.1.2 ?_
  replace h := h.2
  refine a_aload_n (pc := 197) dL_law_197 rfl ?_
  refine a_iload_n (pc := 198) dL_law_198 rfl ?_
  refine a_iconst (pc := 199) dL_law_199 (cnb rfl) ?_
  refine a_iadd (pc := 200) dL_law_200 h.1 ?_
  replace h := h.2
  refine a_lsld (pc := 201) dL_law_201 h.1.1 h.1.2 ?_
  replace h := h.2
  refine a_aload_n (pc := 202) dL_law_202 rfl ?_
  refine a_iload_n (pc := 203) dL_law_203 rfl ?_
  refine a_iconst (pc := 204) dL_law_204 (cnb rfl) ?_
  refine a_iadd (pc := 205) dL_law_205 h.1 ?_
  replace h := h.2
  refine a_lsld (pc := 206) dL_law_206 h.1.1 h.1.2 ?_
  replace h := h.2
  refine a_callVi (pc := 207) (d := 2) (st := [.inl r188]) (o := 76) [.inl (sx xs (x3 + 1)), .inl (sx xs (x3 + 2)), .inl (sx xs (x3 + 3))] dL_law_207 l_L_17 in_X12_home se_X12_home rfl rfl rfl ⟨Nat.le_of_ble_eq_true rfl, Nat.le_of_ble_eq_true rfl⟩ ⟨Nat.le_of_ble_eq_true rfl, Nat.le_of_ble_eq_true rfl⟩ (Nat.le_of_ble_eq_true rfl) ?_
  refine Calls.mono (fun r207 M207 hr207 hM207 h => ?_) h
  refine a_icmp_eq (pc := 210) 1045 dL_law_210 rfl ⟨fun hc => ?_, fun hc => ?_⟩
  · replace h := h.1 hc
    exact h
  · replace h := h.2 hc
    refine a_iconst (pc := 213) dL_law_213 (cnb rfl) ?_
    exact a_lret (pc := 214) dL_law_214 h
set_option maxRecDepth 20000 in
theorem s_L_law_215 {b L : Nat} {xs : Nat → Int32} (hL : L ≤ 3072) (x3 : Int) (M : Me) (h :
    cn (x3 + 1) ∧
    (0 ≤ x3 + 1 ∧ x3 + 1 < (L : Int)) ∧
    cn (x3 + 2) ∧
    (0 ≤ x3 + 2 ∧ x3 + 2 < (L : Int)) ∧
    cn (x3 + 3) ∧
    (0 ≤ x3 + 3 ∧ x3 + 3 < (L : Int)) ∧
    cn (x3 + 4) ∧
    (0 ≤ x3 + 4 ∧ x3 + 4 < (L : Int)) ∧
    cn (x3 + 5) ∧
    (0 ≤ x3 + 5 ∧ x3 + 5 < (L : Int)) ∧
    Calls 1 mX11_feed [.inr 0, .inl (sx xs (x3 + 1)), .inl (sx xs (x3 + 2)), .inl (sx xs (x3 + 3)), .inl (sx xs (x3 + 4)), .inl (sx xs (x3 + 5))] M (fun r241 M241 =>
    cn (x3 + 1) ∧
    (0 ≤ x3 + 1 ∧ x3 + 1 < (L : Int)) ∧
    cn (x3 + 2) ∧
    (0 ≤ x3 + 2 ∧ x3 + 2 < (L : Int)) ∧
    cn (x3 + 3) ∧
    (0 ≤ x3 + 3 ∧ x3 + 3 < (L : Int)) ∧
    cn (x3 + 4) ∧
    (0 ≤ x3 + 4 ∧ x3 + 4 < (L : Int)) ∧
    cn (x3 + 5) ∧
    (0 ≤ x3 + 5 ∧ x3 + 5 < (L : Int)) ∧
    Calls 1 mX12_feed [.inr 76, .inl (sx xs (x3 + 1)), .inl (sx xs (x3 + 2)), .inl (sx xs (x3 + 3)), .inl (sx xs (x3 + 4)), .inl (sx xs (x3 + 5))] M241 (fun r270 M270 =>
    ((r241 = r270 →
    Go (KL b L xs) 1045 [some (.inr 1003), some (.inr 0), some (.inr 76), some (.inl x3)] [] M270) ∧ (r241 ≠ r270 →
    (0 : Int) = 1))))) :
    Go (KL b L xs) 215 [some (.inr 1003), some (.inr 0), some (.inr 76), some (.inl x3)] [] M := by
  refine a_aload_n (pc := 215) dL_law_215 rfl ?_
  refine a_aload_n (pc := 216) dL_law_216 rfl ?_
  refine a_iload_n (pc := 217) dL_law_217 rfl ?_
  refine a_iconst (pc := 218) dL_law_218 (cnb rfl) ?_
  refine a_iadd (pc := 219) dL_law_219 h.1 ?_
  replace h := h.2
  refine a_lsld (pc := 220) dL_law_220 h.1.1 h.1.2 ?_
  replace h := h.2
  refine a_aload_n (pc := 221) dL_law_221 rfl ?_
  refine a_iload_n (pc := 222) dL_law_222 rfl ?_
  refine a_iconst (pc := 223) dL_law_223 (cnb rfl) ?_
  refine a_iadd (pc := 224) dL_law_224 h.1 ?_
  replace h := h.2
  refine a_lsld (pc := 225) dL_law_225 h.1.1 h.1.2 ?_
  replace h := h.2
  refine a_aload_n (pc := 226) dL_law_226 rfl ?_
  refine a_iload_n (pc := 227) dL_law_227 rfl ?_
  refine a_iconst (pc := 228) dL_law_228 (cnb rfl) ?_
  refine a_iadd (pc := 229) dL_law_229 h.1 ?_
  replace h := h.2
  refine a_lsld (pc := 230) dL_law_230 h.1.1 h.1.2 ?_
  replace h := h.2
  refine a_aload_n (pc := 231) dL_law_231 rfl ?_
  refine a_iload_n (pc := 232) dL_law_232 rfl ?_
  refine a_iconst (pc := 233) dL_law_233 (cnb rfl) ?_
  refine a_iadd (pc := 234) dL_law_234 h.1 ?_
  replace h := h.2
  refine a_lsld (pc := 235) dL_law_235 h.1.1 h.1.2 ?_
  replace h := h.2
  refine a_aload_n (pc := 236) dL_law_236 rfl ?_
  refine a_iload_n (pc := 237) dL_law_237 rfl ?_
  refine a_iconst (pc := 238) dL_law_238 (cnb rfl) ?_
  refine a_iadd (pc := 239) dL_law_239 h.1 ?_
  replace h := h.2
  refine a_lsld (pc := 240) dL_law_240 h.1.1 h.1.2 ?_
  replace h := h.2
  refine a_callVi (pc := 241) (d := 1) (st := []) (o := 0) [.inl (sx xs (x3 + 1)), .inl (sx xs (x3 + 2)), .inl (sx xs (x3 + 3)), .inl (sx xs (x3 + 4)), .inl (sx xs (x3 + 5))] dL_law_241 l_L_18 in_X11_feed se_X11_feed rfl rfl rfl ⟨Nat.le_of_ble_eq_true rfl, Nat.le_of_ble_eq_true rfl⟩ ⟨Nat.le_of_ble_eq_true rfl, Nat.le_of_ble_eq_true rfl⟩ (Nat.le_of_ble_eq_true rfl) ?_
  refine Calls.mono (fun r241 M241 hr241 hM241 h => ?_) h
  refine a_aload_n (pc := 244) dL_law_244 rfl ?_
  refine a_aload_n (pc := 245) dL_law_245 rfl ?_
  refine a_iload_n (pc := 246) dL_law_246 rfl ?_
  refine a_iconst (pc := 247) dL_law_247 (cnb rfl) ?_
  refine a_iadd (pc := 248) dL_law_248 h.1 ?_
  replace h := h.2
  refine a_lsld (pc := 249) dL_law_249 h.1.1 h.1.2 ?_
  replace h := h.2
  refine a_aload_n (pc := 250) dL_law_250 rfl ?_
  refine a_iload_n (pc := 251) dL_law_251 rfl ?_
  refine a_iconst (pc := 252) dL_law_252 (cnb rfl) ?_
  refine a_iadd (pc := 253) dL_law_253 h.1 ?_
  replace h := h.2
  refine a_lsld (pc := 254) dL_law_254 h.1.1 h.1.2 ?_
  replace h := h.2
  refine a_aload_n (pc := 255) dL_law_255 rfl ?_
  refine a_iload_n (pc := 256) dL_law_256 rfl ?_
  refine a_iconst (pc := 257) dL_law_257 (cnb rfl) ?_
  refine a_iadd (pc := 258) dL_law_258 h.1 ?_
  replace h := h.2
  refine a_lsld (pc := 259) dL_law_259 h.1.1 h.1.2 ?_
  replace h := h.2
  refine a_aload_n (pc := 260) dL_law_260 rfl ?_
  refine a_iload_n (pc := 261) dL_law_261 rfl ?_
  refine a_iconst (pc := 262) dL_law_262 (cnb rfl) ?_
  refine a_iadd (pc := 263) dL_law_263 h.1 ?_
  replace h := h.2
  refine a_lsld (pc := 264) dL_law_264 h.1.1 h.1.2 ?_
  replace h := h.2
  refine a_aload_n (pc := 265) dL_law_265 rfl ?_
  refine a_iload_n (pc := 266) dL_law_266 rfl ?_
  refine a_iconst (pc := 267) dL_law_267 (cnb rfl) ?_
  refine a_iadd (pc := 268) dL_law_268 h.1 ?_
  replace h := h.2
  refine a_lsld (pc := 269) dL_law_269 h.1.1 h.1.2 ?_
  replace h := h.2
  refine a_callVi (pc := 270) (d := 1) (st := [.inl r241]) (o := 76) [.inl (sx xs (x3 + 1)), .inl (sx xs (x3 + 2)), .inl (sx xs (x3 + 3)), .inl (sx xs (x3 + 4)), .inl (sx xs (x3 + 5))] dL_law_270 l_L_22 in_X12_feed se_X12_feed rfl rfl rfl ⟨Nat.le_of_ble_eq_true rfl, Nat.le_of_ble_eq_true rfl⟩ ⟨Nat.le_of_ble_eq_true rfl, Nat.le_of_ble_eq_true rfl⟩ (Nat.le_of_ble_eq_true rfl) ?_
  refine Calls.mono (fun r270 M270 hr270 hM270 h => ?_) h
  refine a_icmp_eq (pc := 273) 1045 dL_law_273 rfl ⟨fun hc => ?_, fun hc => ?_⟩
  · replace h := h.1 hc
    exact h
  · replace h := h.2 hc
    refine a_iconst (pc := 276) dL_law_276 (cnb rfl) ?_
    exact a_lret (pc := 277) dL_law_277 h
set_option maxRecDepth 20000 in
theorem s_L_law_278 {b L : Nat} {xs : Nat → Int32} (hL : L ≤ 3072) (x3 : Int) (M : Me) (h :
    cn (x3 + 1) ∧
    (0 ≤ x3 + 1 ∧ x3 + 1 < (L : Int)) ∧
    Calls 25 mX11_law [.inr 0, .inl (sx xs (x3 + 1))] M (fun r284 M284 =>
    cn (x3 + 1) ∧
    (0 ≤ x3 + 1 ∧ x3 + 1 < (L : Int)) ∧
    Calls 8 mX12_law [.inr 76, .inl (sx xs (x3 + 1))] M284 (fun r293 M293 =>
    ((r284 = r293 →
    Go (KL b L xs) 1045 [some (.inr 1003), some (.inr 0), some (.inr 76), some (.inl x3)] [] M293) ∧ (r284 ≠ r293 →
    (0 : Int) = 1))))) :
    Go (KL b L xs) 278 [some (.inr 1003), some (.inr 0), some (.inr 76), some (.inl x3)] [] M := by
  refine a_aload_n (pc := 278) dL_law_278 rfl ?_
  refine a_aload_n (pc := 279) dL_law_279 rfl ?_
  refine a_iload_n (pc := 280) dL_law_280 rfl ?_
  refine a_iconst (pc := 281) dL_law_281 (cnb rfl) ?_
  refine a_iadd (pc := 282) dL_law_282 h.1 ?_
  replace h := h.2
  refine a_lsld (pc := 283) dL_law_283 h.1.1 h.1.2 ?_
  replace h := h.2
  refine a_callVi (pc := 284) (d := 25) (st := []) (o := 0) [.inl (sx xs (x3 + 1))] dL_law_284 l_L_23 in_X11_law se_X11_law rfl rfl rfl ⟨Nat.le_of_ble_eq_true rfl, Nat.le_of_ble_eq_true rfl⟩ ⟨Nat.le_of_ble_eq_true rfl, Nat.le_of_ble_eq_true rfl⟩ (Nat.le_of_ble_eq_true rfl) ?_
  refine Calls.mono (fun r284 M284 hr284 hM284 h => ?_) h
  refine a_aload_n (pc := 287) dL_law_287 rfl ?_
  refine a_aload_n (pc := 288) dL_law_288 rfl ?_
  refine a_iload_n (pc := 289) dL_law_289 rfl ?_
  refine a_iconst (pc := 290) dL_law_290 (cnb rfl) ?_
  refine a_iadd (pc := 291) dL_law_291 h.1 ?_
  replace h := h.2
  refine a_lsld (pc := 292) dL_law_292 h.1.1 h.1.2 ?_
  replace h := h.2
  refine a_callVi (pc := 293) (d := 8) (st := [.inl r284]) (o := 76) [.inl (sx xs (x3 + 1))] dL_law_293 l_L_27 in_X12_law se_X12_law rfl rfl rfl ⟨Nat.le_of_ble_eq_true rfl, Nat.le_of_ble_eq_true rfl⟩ ⟨Nat.le_of_ble_eq_true rfl, Nat.le_of_ble_eq_true rfl⟩ (Nat.le_of_ble_eq_true rfl) ?_
  refine Calls.mono (fun r293 M293 hr293 hM293 h => ?_) h
  refine a_icmp_eq (pc := 296) 1045 dL_law_296 rfl ⟨fun hc => ?_, fun hc => ?_⟩
  · replace h := h.1 hc
    exact h
  · replace h := h.2 hc
    refine a_iconst (pc := 299) dL_law_299 (cnb rfl) ?_
    exact a_lret (pc := 300) dL_law_300 h
set_option maxRecDepth 20000 in
theorem s_L_law_301 {b L : Nat} {xs : Nat → Int32} (hL : L ≤ 3072) (x3 : Int) (M : Me) (h :
    cn (x3 + 1) ∧
    (0 ≤ x3 + 1 ∧ x3 + 1 < (L : Int)) ∧
    Calls 5 mX11_bark [.inr 0, .inl (sx xs (x3 + 1))] M (fun r307 M307 =>
    cn (x3 + 1) ∧
    (0 ≤ x3 + 1 ∧ x3 + 1 < (L : Int)) ∧
    Calls 4 mX12_bark [.inr 76, .inl (sx xs (x3 + 1))] M307 (fun r316 M316 =>
    ((r307 = r316 →
    Go (KL b L xs) 1045 [some (.inr 1003), some (.inr 0), some (.inr 76), some (.inl x3)] [] M316) ∧ (r307 ≠ r316 →
    (0 : Int) = 1))))) :
    Go (KL b L xs) 301 [some (.inr 1003), some (.inr 0), some (.inr 76), some (.inl x3)] [] M := by
  refine a_aload_n (pc := 301) dL_law_301 rfl ?_
  refine a_aload_n (pc := 302) dL_law_302 rfl ?_
  refine a_iload_n (pc := 303) dL_law_303 rfl ?_
  refine a_iconst (pc := 304) dL_law_304 (cnb rfl) ?_
  refine a_iadd (pc := 305) dL_law_305 h.1 ?_
  replace h := h.2
  refine a_lsld (pc := 306) dL_law_306 h.1.1 h.1.2 ?_
  replace h := h.2
  refine a_callVi (pc := 307) (d := 5) (st := []) (o := 0) [.inl (sx xs (x3 + 1))] dL_law_307 l_L_28 in_X11_bark se_X11_bark rfl rfl rfl ⟨Nat.le_of_ble_eq_true rfl, Nat.le_of_ble_eq_true rfl⟩ ⟨Nat.le_of_ble_eq_true rfl, Nat.le_of_ble_eq_true rfl⟩ (Nat.le_of_ble_eq_true rfl) ?_
  refine Calls.mono (fun r307 M307 hr307 hM307 h => ?_) h
  refine a_aload_n (pc := 310) dL_law_310 rfl ?_
  refine a_aload_n (pc := 311) dL_law_311 rfl ?_
  refine a_iload_n (pc := 312) dL_law_312 rfl ?_
  refine a_iconst (pc := 313) dL_law_313 (cnb rfl) ?_
  refine a_iadd (pc := 314) dL_law_314 h.1 ?_
  replace h := h.2
  refine a_lsld (pc := 315) dL_law_315 h.1.1 h.1.2 ?_
  replace h := h.2
  refine a_callVi (pc := 316) (d := 4) (st := [.inl r307]) (o := 76) [.inl (sx xs (x3 + 1))] dL_law_316 l_L_31 in_X12_bark se_X12_bark rfl rfl rfl ⟨Nat.le_of_ble_eq_true rfl, Nat.le_of_ble_eq_true rfl⟩ ⟨Nat.le_of_ble_eq_true rfl, Nat.le_of_ble_eq_true rfl⟩ (Nat.le_of_ble_eq_true rfl) ?_
  refine Calls.mono (fun r316 M316 hr316 hM316 h => ?_) h
  refine a_icmp_eq (pc := 319) 1045 dL_law_319 rfl ⟨fun hc => ?_, fun hc => ?_⟩
  · replace h := h.1 hc
    exact h
  · replace h := h.2 hc
    refine a_iconst (pc := 322) dL_law_322 (cnb rfl) ?_
    exact a_lret (pc := 323) dL_law_323 h
set_option maxRecDepth 20000 in
theorem s_L_law_324 {b L : Nat} {xs : Nat → Int32} (hL : L ≤ 3072) (x3 : Int) (M : Me) (h :
    cn (x3 + 1) ∧
    (0 ≤ x3 + 1 ∧ x3 + 1 < (L : Int)) ∧
    Calls 7 mX11_seasons [.inr 0, .inl (sx xs (x3 + 1))] M (fun r330 M330 =>
    cn (x3 + 1) ∧
    (0 ≤ x3 + 1 ∧ x3 + 1 < (L : Int)) ∧
    Calls 6 mX12_seasons [.inr 76, .inl (sx xs (x3 + 1))] M330 (fun r339 M339 =>
    ((r330 = r339 →
    Go (KL b L xs) 1045 [some (.inr 1003), some (.inr 0), some (.inr 76), some (.inl x3)] [] M339) ∧ (r330 ≠ r339 →
    (0 : Int) = 1))))) :
    Go (KL b L xs) 324 [some (.inr 1003), some (.inr 0), some (.inr 76), some (.inl x3)] [] M := by
  refine a_aload_n (pc := 324) dL_law_324 rfl ?_
  refine a_aload_n (pc := 325) dL_law_325 rfl ?_
  refine a_iload_n (pc := 326) dL_law_326 rfl ?_
  refine a_iconst (pc := 327) dL_law_327 (cnb rfl) ?_
  refine a_iadd (pc := 328) dL_law_328 h.1 ?_
  replace h := h.2
  refine a_lsld (pc := 329) dL_law_329 h.1.1 h.1.2 ?_
  replace h := h.2
  refine a_callVi (pc := 330) (d := 7) (st := []) (o := 0) [.inl (sx xs (x3 + 1))] dL_law_330 l_L_32 in_X11_seasons se_X11_seasons rfl rfl rfl ⟨Nat.le_of_ble_eq_true rfl, Nat.le_of_ble_eq_true rfl⟩ ⟨Nat.le_of_ble_eq_true rfl, Nat.le_of_ble_eq_true rfl⟩ (Nat.le_of_ble_eq_true rfl) ?_
  refine Calls.mono (fun r330 M330 hr330 hM330 h => ?_) h
  refine a_aload_n (pc := 333) dL_law_333 rfl ?_
  refine a_aload_n (pc := 334) dL_law_334 rfl ?_
  refine a_iload_n (pc := 335) dL_law_335 rfl ?_
  refine a_iconst (pc := 336) dL_law_336 (cnb rfl) ?_
  refine a_iadd (pc := 337) dL_law_337 h.1 ?_
  replace h := h.2
  refine a_lsld (pc := 338) dL_law_338 h.1.1 h.1.2 ?_
  replace h := h.2
  refine a_callVi (pc := 339) (d := 6) (st := [.inl r330]) (o := 76) [.inl (sx xs (x3 + 1))] dL_law_339 l_L_35 in_X12_seasons se_X12_seasons rfl rfl rfl ⟨Nat.le_of_ble_eq_true rfl, Nat.le_of_ble_eq_true rfl⟩ ⟨Nat.le_of_ble_eq_true rfl, Nat.le_of_ble_eq_true rfl⟩ (Nat.le_of_ble_eq_true rfl) ?_
  refine Calls.mono (fun r339 M339 hr339 hM339 h => ?_) h
  refine a_icmp_eq (pc := 342) 1045 dL_law_342 rfl ⟨fun hc => ?_, fun hc => ?_⟩
  · replace h := h.1 hc
    exact h
  · replace h := h.2 hc
    refine a_iconst (pc := 345) dL_law_345 (cnb rfl) ?_
    exact a_lret (pc := 346) dL_law_346 h
set_option maxRecDepth 20000 in
theorem s_L_law_347 {b L : Nat} {xs : Nat → Int32} (hL : L ≤ 3072) (x3 : Int) (M : Me) (h :
    cn (x3 + 1) ∧
    (0 ≤ x3 + 1 ∧ x3 + 1 < (L : Int)) ∧
    cn (x3 + 2) ∧
    (0 ≤ x3 + 2 ∧ x3 + 2 < (L : Int)) ∧
    Calls 7 mX11_tried [.inr 0, .inl (sx xs (x3 + 1)), .inl (sx xs (x3 + 2))] M (fun r358 M358 =>
    cn (x3 + 1) ∧
    (0 ≤ x3 + 1 ∧ x3 + 1 < (L : Int)) ∧
    cn (x3 + 2) ∧
    (0 ≤ x3 + 2 ∧ x3 + 2 < (L : Int)) ∧
    Calls 6 mX12_tried [.inr 76, .inl (sx xs (x3 + 1)), .inl (sx xs (x3 + 2))] M358 (fun r372 M372 =>
    ((r358 = r372 →
    Go (KL b L xs) 1045 [some (.inr 1003), some (.inr 0), some (.inr 76), some (.inl x3)] [] M372) ∧ (r358 ≠ r372 →
    (0 : Int) = 1))))) :
    Go (KL b L xs) 347 [some (.inr 1003), some (.inr 0), some (.inr 76), some (.inl x3)] [] M := by
  refine a_aload_n (pc := 347) dL_law_347 rfl ?_
  refine a_aload_n (pc := 348) dL_law_348 rfl ?_
  refine a_iload_n (pc := 349) dL_law_349 rfl ?_
  refine a_iconst (pc := 350) dL_law_350 (cnb rfl) ?_
  refine a_iadd (pc := 351) dL_law_351 h.1 ?_
  replace h := h.2
  refine a_lsld (pc := 352) dL_law_352 h.1.1 h.1.2 ?_
  replace h := h.2
  refine a_aload_n (pc := 353) dL_law_353 rfl ?_
  refine a_iload_n (pc := 354) dL_law_354 rfl ?_
  refine a_iconst (pc := 355) dL_law_355 (cnb rfl) ?_
  refine a_iadd (pc := 356) dL_law_356 h.1 ?_
  replace h := h.2
  refine a_lsld (pc := 357) dL_law_357 h.1.1 h.1.2 ?_
  replace h := h.2
  refine a_callVi (pc := 358) (d := 7) (st := []) (o := 0) [.inl (sx xs (x3 + 1)), .inl (sx xs (x3 + 2))] dL_law_358 l_L_36 in_X11_tried se_X11_tried rfl rfl rfl ⟨Nat.le_of_ble_eq_true rfl, Nat.le_of_ble_eq_true rfl⟩ ⟨Nat.le_of_ble_eq_true rfl, Nat.le_of_ble_eq_true rfl⟩ (Nat.le_of_ble_eq_true rfl) ?_
  refine Calls.mono (fun r358 M358 hr358 hM358 h => ?_) h
  refine a_aload_n (pc := 361) dL_law_361 rfl ?_
  refine a_aload_n (pc := 362) dL_law_362 rfl ?_
  refine a_iload_n (pc := 363) dL_law_363 rfl ?_
  refine a_iconst (pc := 364) dL_law_364 (cnb rfl) ?_
  refine a_iadd (pc := 365) dL_law_365 h.1 ?_
  replace h := h.2
  refine a_lsld (pc := 366) dL_law_366 h.1.1 h.1.2 ?_
  replace h := h.2
  refine a_aload_n (pc := 367) dL_law_367 rfl ?_
  refine a_iload_n (pc := 368) dL_law_368 rfl ?_
  refine a_iconst (pc := 369) dL_law_369 (cnb rfl) ?_
  refine a_iadd (pc := 370) dL_law_370 h.1 ?_
  replace h := h.2
  refine a_lsld (pc := 371) dL_law_371 h.1.1 h.1.2 ?_
  replace h := h.2
  refine a_callVi (pc := 372) (d := 6) (st := [.inl r358]) (o := 76) [.inl (sx xs (x3 + 1)), .inl (sx xs (x3 + 2))] dL_law_372 l_L_40 in_X12_tried se_X12_tried rfl rfl rfl ⟨Nat.le_of_ble_eq_true rfl, Nat.le_of_ble_eq_true rfl⟩ ⟨Nat.le_of_ble_eq_true rfl, Nat.le_of_ble_eq_true rfl⟩ (Nat.le_of_ble_eq_true rfl) ?_
  refine Calls.mono (fun r372 M372 hr372 hM372 h => ?_) h
  refine a_icmp_eq (pc := 375) 1045 dL_law_375 rfl ⟨fun hc => ?_, fun hc => ?_⟩
  · replace h := h.1 hc
    exact h
  · replace h := h.2 hc
    refine a_iconst (pc := 378) dL_law_378 (cnb rfl) ?_
    exact a_lret (pc := 379) dL_law_379 h
set_option maxRecDepth 20000 in
theorem s_L_law_380 {b L : Nat} {xs : Nat → Int32} (hL : L ≤ 3072) (x3 : Int) (M : Me) (h :
    cn (x3 + 1) ∧
    (0 ≤ x3 + 1 ∧ x3 + 1 < (L : Int)) ∧
    cn (x3 + 2) ∧
    (0 ≤ x3 + 2 ∧ x3 + 2 < (L : Int)) ∧
    Calls 1 mX11_cutIs [.inr 0, .inl (sx xs (x3 + 1)), .inl (sx xs (x3 + 2))] M (fun r391 M391 =>
    cn (x3 + 1) ∧
    (0 ≤ x3 + 1 ∧ x3 + 1 < (L : Int)) ∧
    cn (x3 + 2) ∧
    (0 ≤ x3 + 2 ∧ x3 + 2 < (L : Int)) ∧
    Calls 2 mX12_cutIs [.inr 76, .inl (sx xs (x3 + 1)), .inl (sx xs (x3 + 2))] M391 (fun r405 M405 =>
    ((r391 = r405 →
    Go (KL b L xs) 1045 [some (.inr 1003), some (.inr 0), some (.inr 76), some (.inl x3)] [] M405) ∧ (r391 ≠ r405 →
    (0 : Int) = 1))))) :
    Go (KL b L xs) 380 [some (.inr 1003), some (.inr 0), some (.inr 76), some (.inl x3)] [] M := by
  refine a_aload_n (pc := 380) dL_law_380 rfl ?_
  refine a_aload_n (pc := 381) dL_law_381 rfl ?_
  refine a_iload_n (pc := 382) dL_law_382 rfl ?_
  refine a_iconst (pc := 383) dL_law_383 (cnb rfl) ?_
  refine a_iadd (pc := 384) dL_law_384 h.1 ?_
  replace h := h.2
  refine a_lsld (pc := 385) dL_law_385 h.1.1 h.1.2 ?_
  replace h := h.2
  refine a_aload_n (pc := 386) dL_law_386 rfl ?_
  refine a_iload_n (pc := 387) dL_law_387 rfl ?_
  refine a_iconst (pc := 388) dL_law_388 (cnb rfl) ?_
  refine a_iadd (pc := 389) dL_law_389 h.1 ?_
  replace h := h.2
  refine a_lsld (pc := 390) dL_law_390 h.1.1 h.1.2 ?_
  replace h := h.2
  refine a_callVi (pc := 391) (d := 1) (st := []) (o := 0) [.inl (sx xs (x3 + 1)), .inl (sx xs (x3 + 2))] dL_law_391 l_L_41 in_X11_cutIs se_X11_cutIs rfl rfl rfl ⟨Nat.le_of_ble_eq_true rfl, Nat.le_of_ble_eq_true rfl⟩ ⟨Nat.le_of_ble_eq_true rfl, Nat.le_of_ble_eq_true rfl⟩ (Nat.le_of_ble_eq_true rfl) ?_
  refine Calls.mono (fun r391 M391 hr391 hM391 h => ?_) h
  refine a_aload_n (pc := 394) dL_law_394 rfl ?_
  refine a_aload_n (pc := 395) dL_law_395 rfl ?_
  refine a_iload_n (pc := 396) dL_law_396 rfl ?_
  refine a_iconst (pc := 397) dL_law_397 (cnb rfl) ?_
  refine a_iadd (pc := 398) dL_law_398 h.1 ?_
  replace h := h.2
  refine a_lsld (pc := 399) dL_law_399 h.1.1 h.1.2 ?_
  replace h := h.2
  refine a_aload_n (pc := 400) dL_law_400 rfl ?_
  refine a_iload_n (pc := 401) dL_law_401 rfl ?_
  refine a_iconst (pc := 402) dL_law_402 (cnb rfl) ?_
  refine a_iadd (pc := 403) dL_law_403 h.1 ?_
  replace h := h.2
  refine a_lsld (pc := 404) dL_law_404 h.1.1 h.1.2 ?_
  replace h := h.2
  refine a_callVi (pc := 405) (d := 2) (st := [.inl r391]) (o := 76) [.inl (sx xs (x3 + 1)), .inl (sx xs (x3 + 2))] dL_law_405 l_L_44 in_X12_cutIs se_X12_cutIs rfl rfl rfl ⟨Nat.le_of_ble_eq_true rfl, Nat.le_of_ble_eq_true rfl⟩ ⟨Nat.le_of_ble_eq_true rfl, Nat.le_of_ble_eq_true rfl⟩ (Nat.le_of_ble_eq_true rfl) ?_
  refine Calls.mono (fun r405 M405 hr405 hM405 h => ?_) h
  refine a_icmp_eq (pc := 408) 1045 dL_law_408 rfl ⟨fun hc => ?_, fun hc => ?_⟩
  · replace h := h.1 hc
    exact h
  · replace h := h.2 hc
    refine a_iconst (pc := 411) dL_law_411 (cnb rfl) ?_
    exact a_lret (pc := 412) dL_law_412 h
set_option maxRecDepth 20000 in
theorem s_L_law_413 {b L : Nat} {xs : Nat → Int32} (hL : L ≤ 3072) (x3 : Int) (M : Me) (h :
    cn (x3 + 1) ∧
    (0 ≤ x3 + 1 ∧ x3 + 1 < (L : Int)) ∧
    cn (x3 + 2) ∧
    (0 ≤ x3 + 2 ∧ x3 + 2 < (L : Int)) ∧
    cn (x3 + 3) ∧
    (0 ≤ x3 + 3 ∧ x3 + 3 < (L : Int)) ∧
    Calls 6 mX11_meet [.inr 0, .inl (sx xs (x3 + 1)), .inl (sx xs (x3 + 2)), .inl (sx xs (x3 + 3))] M (fun r429 M429 =>
    cn (x3 + 1) ∧
    (0 ≤ x3 + 1 ∧ x3 + 1 < (L : Int)) ∧
    cn (x3 + 2) ∧
    (0 ≤ x3 + 2 ∧ x3 + 2 < (L : Int)) ∧
    cn (x3 + 3) ∧
    (0 ≤ x3 + 3 ∧ x3 + 3 < (L : Int)) ∧
    Calls 5 mX12_meet [.inr 76, .inl (sx xs (x3 + 1)), .inl (sx xs (x3 + 2)), .inl (sx xs (x3 + 3))] M429 (fun r448 M448 =>
    ((r429 = r448 →
    Go (KL b L xs) 1045 [some (.inr 1003), some (.inr 0), some (.inr 76), some (.inl x3)] [] M448) ∧ (r429 ≠ r448 →
    (0 : Int) = 1))))) :
    Go (KL b L xs) 413 [some (.inr 1003), some (.inr 0), some (.inr 76), some (.inl x3)] [] M := by
  refine a_aload_n (pc := 413) dL_law_413 rfl ?_
  refine a_aload_n (pc := 414) dL_law_414 rfl ?_
  refine a_iload_n (pc := 415) dL_law_415 rfl ?_
  refine a_iconst (pc := 416) dL_law_416 (cnb rfl) ?_
  refine a_iadd (pc := 417) dL_law_417 h.1 ?_
  replace h := h.2
  refine a_lsld (pc := 418) dL_law_418 h.1.1 h.1.2 ?_
  replace h := h.2
  refine a_aload_n (pc := 419) dL_law_419 rfl ?_
  refine a_iload_n (pc := 420) dL_law_420 rfl ?_
  refine a_iconst (pc := 421) dL_law_421 (cnb rfl) ?_
  refine a_iadd (pc := 422) dL_law_422 h.1 ?_
  replace h := h.2
  refine a_lsld (pc := 423) dL_law_423 h.1.1 h.1.2 ?_
  replace h := h.2
  refine a_aload_n (pc := 424) dL_law_424 rfl ?_
  refine a_iload_n (pc := 425) dL_law_425 rfl ?_
  refine a_iconst (pc := 426) dL_law_426 (cnb rfl) ?_
  refine a_iadd (pc := 427) dL_law_427 h.1 ?_
  replace h := h.2
  refine a_lsld (pc := 428) dL_law_428 h.1.1 h.1.2 ?_
  replace h := h.2
  refine a_callVi (pc := 429) (d := 6) (st := []) (o := 0) [.inl (sx xs (x3 + 1)), .inl (sx xs (x3 + 2)), .inl (sx xs (x3 + 3))] dL_law_429 l_L_45 in_X11_meet se_X11_meet rfl rfl rfl ⟨Nat.le_of_ble_eq_true rfl, Nat.le_of_ble_eq_true rfl⟩ ⟨Nat.le_of_ble_eq_true rfl, Nat.le_of_ble_eq_true rfl⟩ (Nat.le_of_ble_eq_true rfl) ?_
  refine Calls.mono (fun r429 M429 hr429 hM429 h => ?_) h
  refine a_aload_n (pc := 432) dL_law_432 rfl ?_
  refine a_aload_n (pc := 433) dL_law_433 rfl ?_
  refine a_iload_n (pc := 434) dL_law_434 rfl ?_
  refine a_iconst (pc := 435) dL_law_435 (cnb rfl) ?_
  refine a_iadd (pc := 436) dL_law_436 h.1 ?_
  replace h := h.2
  refine a_lsld (pc := 437) dL_law_437 h.1.1 h.1.2 ?_
  replace h := h.2
  refine a_aload_n (pc := 438) dL_law_438 rfl ?_
  refine a_iload_n (pc := 439) dL_law_439 rfl ?_
  refine a_iconst (pc := 440) dL_law_440 (cnb rfl) ?_
  refine a_iadd (pc := 441) dL_law_441 h.1 ?_
  replace h := h.2
  refine a_lsld (pc := 442) dL_law_442 h.1.1 h.1.2 ?_
  replace h := h.2
  refine a_aload_n (pc := 443) dL_law_443 rfl ?_
  refine a_iload_n (pc := 444) dL_law_444 rfl ?_
  refine a_iconst (pc := 445) dL_law_445 (cnb rfl) ?_
  refine a_iadd (pc := 446) dL_law_446 h.1 ?_
  replace h := h.2
  refine a_lsld (pc := 447) dL_law_447 h.1.1 h.1.2 ?_
  replace h := h.2
  refine a_callVi (pc := 448) (d := 5) (st := [.inl r429]) (o := 76) [.inl (sx xs (x3 + 1)), .inl (sx xs (x3 + 2)), .inl (sx xs (x3 + 3))] dL_law_448 l_L_49 in_X12_meet se_X12_meet rfl rfl rfl ⟨Nat.le_of_ble_eq_true rfl, Nat.le_of_ble_eq_true rfl⟩ ⟨Nat.le_of_ble_eq_true rfl, Nat.le_of_ble_eq_true rfl⟩ (Nat.le_of_ble_eq_true rfl) ?_
  refine Calls.mono (fun r448 M448 hr448 hM448 h => ?_) h
  refine a_icmp_eq (pc := 451) 1045 dL_law_451 rfl ⟨fun hc => ?_, fun hc => ?_⟩
  · replace h := h.1 hc
    exact h
  · replace h := h.2 hc
    refine a_iconst (pc := 454) dL_law_454 (cnb rfl) ?_
    exact a_lret (pc := 455) dL_law_455 h
set_option maxRecDepth 20000 in
theorem s_L_law_456 {b L : Nat} {xs : Nat → Int32} (hL : L ≤ 3072) (x3 : Int) (M : Me) (h :
    cn (x3 + 1) ∧
    (0 ≤ x3 + 1 ∧ x3 + 1 < (L : Int)) ∧
    cn (x3 + 2) ∧
    (0 ≤ x3 + 2 ∧ x3 + 2 < (L : Int)) ∧
    Calls 6 mX11_roots [.inr 0, .inl (sx xs (x3 + 1)), .inl (sx xs (x3 + 2))] M (fun r467 M467 =>
    cn (x3 + 1) ∧
    (0 ≤ x3 + 1 ∧ x3 + 1 < (L : Int)) ∧
    cn (x3 + 2) ∧
    (0 ≤ x3 + 2 ∧ x3 + 2 < (L : Int)) ∧
    Calls 5 mX12_roots [.inr 76, .inl (sx xs (x3 + 1)), .inl (sx xs (x3 + 2))] M467 (fun r481 M481 =>
    ((r467 = r481 →
    Go (KL b L xs) 1045 [some (.inr 1003), some (.inr 0), some (.inr 76), some (.inl x3)] [] M481) ∧ (r467 ≠ r481 →
    (0 : Int) = 1))))) :
    Go (KL b L xs) 456 [some (.inr 1003), some (.inr 0), some (.inr 76), some (.inl x3)] [] M := by
  refine a_aload_n (pc := 456) dL_law_456 rfl ?_
  refine a_aload_n (pc := 457) dL_law_457 rfl ?_
  refine a_iload_n (pc := 458) dL_law_458 rfl ?_
  refine a_iconst (pc := 459) dL_law_459 (cnb rfl) ?_
  refine a_iadd (pc := 460) dL_law_460 h.1 ?_
  replace h := h.2
  refine a_lsld (pc := 461) dL_law_461 h.1.1 h.1.2 ?_
  replace h := h.2
  refine a_aload_n (pc := 462) dL_law_462 rfl ?_
  refine a_iload_n (pc := 463) dL_law_463 rfl ?_
  refine a_iconst (pc := 464) dL_law_464 (cnb rfl) ?_
  refine a_iadd (pc := 465) dL_law_465 h.1 ?_
  replace h := h.2
  refine a_lsld (pc := 466) dL_law_466 h.1.1 h.1.2 ?_
  replace h := h.2
  refine a_callVi (pc := 467) (d := 6) (st := []) (o := 0) [.inl (sx xs (x3 + 1)), .inl (sx xs (x3 + 2))] dL_law_467 l_L_50 in_X11_roots se_X11_roots rfl rfl rfl ⟨Nat.le_of_ble_eq_true rfl, Nat.le_of_ble_eq_true rfl⟩ ⟨Nat.le_of_ble_eq_true rfl, Nat.le_of_ble_eq_true rfl⟩ (Nat.le_of_ble_eq_true rfl) ?_
  refine Calls.mono (fun r467 M467 hr467 hM467 h => ?_) h
  refine a_aload_n (pc := 470) dL_law_470 rfl ?_
  refine a_aload_n (pc := 471) dL_law_471 rfl ?_
  refine a_iload_n (pc := 472) dL_law_472 rfl ?_
  refine a_iconst (pc := 473) dL_law_473 (cnb rfl) ?_
  refine a_iadd (pc := 474) dL_law_474 h.1 ?_
  replace h := h.2
  refine a_lsld (pc := 475) dL_law_475 h.1.1 h.1.2 ?_
  replace h := h.2
  refine a_aload_n (pc := 476) dL_law_476 rfl ?_
  refine a_iload_n (pc := 477) dL_law_477 rfl ?_
  refine a_iconst (pc := 478) dL_law_478 (cnb rfl) ?_
  refine a_iadd (pc := 479) dL_law_479 h.1 ?_
  replace h := h.2
  refine a_lsld (pc := 480) dL_law_480 h.1.1 h.1.2 ?_
  replace h := h.2
  refine a_callVi (pc := 481) (d := 5) (st := [.inl r467]) (o := 76) [.inl (sx xs (x3 + 1)), .inl (sx xs (x3 + 2))] dL_law_481 l_L_53 in_X12_roots se_X12_roots rfl rfl rfl ⟨Nat.le_of_ble_eq_true rfl, Nat.le_of_ble_eq_true rfl⟩ ⟨Nat.le_of_ble_eq_true rfl, Nat.le_of_ble_eq_true rfl⟩ (Nat.le_of_ble_eq_true rfl) ?_
  refine Calls.mono (fun r481 M481 hr481 hM481 h => ?_) h
  refine a_icmp_eq (pc := 484) 1045 dL_law_484 rfl ⟨fun hc => ?_, fun hc => ?_⟩
  · replace h := h.1 hc
    exact h
  · replace h := h.2 hc
    refine a_iconst (pc := 487) dL_law_487 (cnb rfl) ?_
    exact a_lret (pc := 488) dL_law_488 h
set_option maxRecDepth 20000 in
theorem s_L_law_489 {b L : Nat} {xs : Nat → Int32} (hL : L ≤ 3072) (x3 : Int) (M : Me) (h :
    cn (x3 + 1) ∧
    (0 ≤ x3 + 1 ∧ x3 + 1 < (L : Int)) ∧
    Calls 0 mX11_single [.inr 0, .inl (sx xs (x3 + 1))] M (fun r495 M495 =>
    cn (x3 + 1) ∧
    (0 ≤ x3 + 1 ∧ x3 + 1 < (L : Int)) ∧
    Calls 1 mX12_single [.inr 76, .inl (sx xs (x3 + 1))] M495 (fun r504 M504 =>
    ((r495 = r504 →
    Go (KL b L xs) 1045 [some (.inr 1003), some (.inr 0), some (.inr 76), some (.inl x3)] [] M504) ∧ (r495 ≠ r504 →
    (0 : Int) = 1))))) :
    Go (KL b L xs) 489 [some (.inr 1003), some (.inr 0), some (.inr 76), some (.inl x3)] [] M := by
  refine a_aload_n (pc := 489) dL_law_489 rfl ?_
  refine a_aload_n (pc := 490) dL_law_490 rfl ?_
  refine a_iload_n (pc := 491) dL_law_491 rfl ?_
  refine a_iconst (pc := 492) dL_law_492 (cnb rfl) ?_
  refine a_iadd (pc := 493) dL_law_493 h.1 ?_
  replace h := h.2
  refine a_lsld (pc := 494) dL_law_494 h.1.1 h.1.2 ?_
  replace h := h.2
  refine a_callVi (pc := 495) (d := 0) (st := []) (o := 0) [.inl (sx xs (x3 + 1))] dL_law_495 l_L_54 in_X11_single se_X11_single rfl rfl rfl ⟨Nat.le_of_ble_eq_true rfl, Nat.le_of_ble_eq_true rfl⟩ ⟨Nat.le_of_ble_eq_true rfl, Nat.le_of_ble_eq_true rfl⟩ (Nat.le_of_ble_eq_true rfl) ?_
  refine Calls.mono (fun r495 M495 hr495 hM495 h => ?_) h
  refine a_aload_n (pc := 498) dL_law_498 rfl ?_
  refine a_aload_n (pc := 499) dL_law_499 rfl ?_
  refine a_iload_n (pc := 500) dL_law_500 rfl ?_
  refine a_iconst (pc := 501) dL_law_501 (cnb rfl) ?_
  refine a_iadd (pc := 502) dL_law_502 h.1 ?_
  replace h := h.2
  refine a_lsld (pc := 503) dL_law_503 h.1.1 h.1.2 ?_
  replace h := h.2
  refine a_callVi (pc := 504) (d := 1) (st := [.inl r495]) (o := 76) [.inl (sx xs (x3 + 1))] dL_law_504 l_L_57 in_X12_single se_X12_single rfl rfl rfl ⟨Nat.le_of_ble_eq_true rfl, Nat.le_of_ble_eq_true rfl⟩ ⟨Nat.le_of_ble_eq_true rfl, Nat.le_of_ble_eq_true rfl⟩ (Nat.le_of_ble_eq_true rfl) ?_
  refine Calls.mono (fun r504 M504 hr504 hM504 h => ?_) h
  refine a_icmp_eq (pc := 507) 1045 dL_law_507 rfl ⟨fun hc => ?_, fun hc => ?_⟩
  · replace h := h.1 hc
    exact h
  · replace h := h.2 hc
    refine a_iconst (pc := 510) dL_law_510 (cnb rfl) ?_
    exact a_lret (pc := 511) dL_law_511 h
set_option maxRecDepth 20000 in
theorem s_L_law_512 {b L : Nat} {xs : Nat → Int32} (hL : L ≤ 3072) (x3 : Int) (M : Me) (h :
    cn (x3 + 1) ∧
    (0 ≤ x3 + 1 ∧ x3 + 1 < (L : Int)) ∧
    Calls 0 mX11_who [.inr 0, .inl (sx xs (x3 + 1))] M (fun r518 M518 =>
    cn (x3 + 1) ∧
    (0 ≤ x3 + 1 ∧ x3 + 1 < (L : Int)) ∧
    Calls 1 mX12_who [.inr 76, .inl (sx xs (x3 + 1))] M518 (fun r527 M527 =>
    ((r518 = r527 →
    Go (KL b L xs) 1045 [some (.inr 1003), some (.inr 0), some (.inr 76), some (.inl x3)] [] M527) ∧ (r518 ≠ r527 →
    (0 : Int) = 1))))) :
    Go (KL b L xs) 512 [some (.inr 1003), some (.inr 0), some (.inr 76), some (.inl x3)] [] M := by
  refine a_aload_n (pc := 512) dL_law_512 rfl ?_
  refine a_aload_n (pc := 513) dL_law_513 rfl ?_
  refine a_iload_n (pc := 514) dL_law_514 rfl ?_
  refine a_iconst (pc := 515) dL_law_515 (cnb rfl) ?_
  refine a_iadd (pc := 516) dL_law_516 h.1 ?_
  replace h := h.2
  refine a_lsld (pc := 517) dL_law_517 h.1.1 h.1.2 ?_
  replace h := h.2
  refine a_callVi (pc := 518) (d := 0) (st := []) (o := 0) [.inl (sx xs (x3 + 1))] dL_law_518 l_L_58 in_X11_who se_X11_who rfl rfl rfl ⟨Nat.le_of_ble_eq_true rfl, Nat.le_of_ble_eq_true rfl⟩ ⟨Nat.le_of_ble_eq_true rfl, Nat.le_of_ble_eq_true rfl⟩ (Nat.le_of_ble_eq_true rfl) ?_
  refine Calls.mono (fun r518 M518 hr518 hM518 h => ?_) h
  refine a_aload_n (pc := 521) dL_law_521 rfl ?_
  refine a_aload_n (pc := 522) dL_law_522 rfl ?_
  refine a_iload_n (pc := 523) dL_law_523 rfl ?_
  refine a_iconst (pc := 524) dL_law_524 (cnb rfl) ?_
  refine a_iadd (pc := 525) dL_law_525 h.1 ?_
  replace h := h.2
  refine a_lsld (pc := 526) dL_law_526 h.1.1 h.1.2 ?_
  replace h := h.2
  refine a_callVi (pc := 527) (d := 1) (st := [.inl r518]) (o := 76) [.inl (sx xs (x3 + 1))] dL_law_527 l_L_61 in_X12_who se_X12_who rfl rfl rfl ⟨Nat.le_of_ble_eq_true rfl, Nat.le_of_ble_eq_true rfl⟩ ⟨Nat.le_of_ble_eq_true rfl, Nat.le_of_ble_eq_true rfl⟩ (Nat.le_of_ble_eq_true rfl) ?_
  refine Calls.mono (fun r527 M527 hr527 hM527 h => ?_) h
  refine a_icmp_eq (pc := 530) 1045 dL_law_530 rfl ⟨fun hc => ?_, fun hc => ?_⟩
  · replace h := h.1 hc
    exact h
  · replace h := h.2 hc
    refine a_iconst (pc := 533) dL_law_533 (cnb rfl) ?_
    exact a_lret (pc := 534) dL_law_534 h
set_option maxRecDepth 20000 in
theorem s_L_law_535 {b L : Nat} {xs : Nat → Int32} (hL : L ≤ 3072) (x3 : Int) (M : Me) (h :
    Calls 1 mX11_letters [.inr 0] M (fun r536 M536 =>
    Calls 0 mX12_letters [.inr 76] M536 (fun r540 M540 =>
    ((r536 = r540 →
    Go (KL b L xs) 1045 [some (.inr 1003), some (.inr 0), some (.inr 76), some (.inl x3)] [] M540) ∧ (r536 ≠ r540 →
    (0 : Int) = 1))))) :
    Go (KL b L xs) 535 [some (.inr 1003), some (.inr 0), some (.inr 76), some (.inl x3)] [] M := by
  refine a_aload_n (pc := 535) dL_law_535 rfl ?_
  refine a_callVi (pc := 536) (d := 1) (st := []) (o := 0) [] dL_law_536 l_L_62 in_X11_letters se_X11_letters rfl rfl rfl ⟨Nat.le_of_ble_eq_true rfl, Nat.le_of_ble_eq_true rfl⟩ ⟨Nat.le_of_ble_eq_true rfl, Nat.le_of_ble_eq_true rfl⟩ (Nat.le_of_ble_eq_true rfl) ?_
  refine Calls.mono (fun r536 M536 hr536 hM536 h => ?_) h
  refine a_aload_n (pc := 539) dL_law_539 rfl ?_
  refine a_callVi (pc := 540) (d := 0) (st := [.inl r536]) (o := 76) [] dL_law_540 l_L_66 in_X12_letters se_X12_letters rfl rfl rfl ⟨Nat.le_of_ble_eq_true rfl, Nat.le_of_ble_eq_true rfl⟩ ⟨Nat.le_of_ble_eq_true rfl, Nat.le_of_ble_eq_true rfl⟩ (Nat.le_of_ble_eq_true rfl) ?_
  refine Calls.mono (fun r540 M540 hr540 hM540 h => ?_) h
  refine a_icmp_eq (pc := 543) 1045 dL_law_543 rfl ⟨fun hc => ?_, fun hc => ?_⟩
  · replace h := h.1 hc
    exact h
  · replace h := h.2 hc
    refine a_iconst (pc := 546) dL_law_546 (cnb rfl) ?_
    exact a_lret (pc := 547) dL_law_547 h
set_option maxRecDepth 20000 in
theorem s_L_law_548 {b L : Nat} {xs : Nat → Int32} (hL : L ≤ 3072) (x3 : Int) (M : Me) (h :
    cn (x3 + 1) ∧
    (0 ≤ x3 + 1 ∧ x3 + 1 < (L : Int)) ∧
    cn (x3 + 2) ∧
    (0 ≤ x3 + 2 ∧ x3 + 2 < (L : Int)) ∧
    Calls 2 mX11_nearest [.inr 0, .inl (sx xs (x3 + 1)), .inl (sx xs (x3 + 2))] M (fun r559 M559 =>
    cn (x3 + 1) ∧
    (0 ≤ x3 + 1 ∧ x3 + 1 < (L : Int)) ∧
    cn (x3 + 2) ∧
    (0 ≤ x3 + 2 ∧ x3 + 2 < (L : Int)) ∧
    Calls 2 mX12_nearest [.inr 76, .inl (sx xs (x3 + 1)), .inl (sx xs (x3 + 2))] M559 (fun r573 M573 =>
    ((r559 = r573 →
    Go (KL b L xs) 1045 [some (.inr 1003), some (.inr 0), some (.inr 76), some (.inl x3)] [] M573) ∧ (r559 ≠ r573 →
    (0 : Int) = 1))))) :
    Go (KL b L xs) 548 [some (.inr 1003), some (.inr 0), some (.inr 76), some (.inl x3)] [] M := by
  refine a_aload_n (pc := 548) dL_law_548 rfl ?_
  refine a_aload_n (pc := 549) dL_law_549 rfl ?_
  refine a_iload_n (pc := 550) dL_law_550 rfl ?_
  refine a_iconst (pc := 551) dL_law_551 (cnb rfl) ?_
  refine a_iadd (pc := 552) dL_law_552 h.1 ?_
  replace h := h.2
  refine a_lsld (pc := 553) dL_law_553 h.1.1 h.1.2 ?_
  replace h := h.2
  refine a_aload_n (pc := 554) dL_law_554 rfl ?_
  refine a_iload_n (pc := 555) dL_law_555 rfl ?_
  refine a_iconst (pc := 556) dL_law_556 (cnb rfl) ?_
  refine a_iadd (pc := 557) dL_law_557 h.1 ?_
  replace h := h.2
  refine a_lsld (pc := 558) dL_law_558 h.1.1 h.1.2 ?_
  replace h := h.2
  refine a_callVi (pc := 559) (d := 2) (st := []) (o := 0) [.inl (sx xs (x3 + 1)), .inl (sx xs (x3 + 2))] dL_law_559 l_L_67 in_X11_nearest se_X11_nearest rfl rfl rfl ⟨Nat.le_of_ble_eq_true rfl, Nat.le_of_ble_eq_true rfl⟩ ⟨Nat.le_of_ble_eq_true rfl, Nat.le_of_ble_eq_true rfl⟩ (Nat.le_of_ble_eq_true rfl) ?_
  refine Calls.mono (fun r559 M559 hr559 hM559 h => ?_) h
  refine a_aload_n (pc := 562) dL_law_562 rfl ?_
  refine a_aload_n (pc := 563) dL_law_563 rfl ?_
  refine a_iload_n (pc := 564) dL_law_564 rfl ?_
  refine a_iconst (pc := 565) dL_law_565 (cnb rfl) ?_
  refine a_iadd (pc := 566) dL_law_566 h.1 ?_
  replace h := h.2
  refine a_lsld (pc := 567) dL_law_567 h.1.1 h.1.2 ?_
  replace h := h.2
  refine a_aload_n (pc := 568) dL_law_568 rfl ?_
  refine a_iload_n (pc := 569) dL_law_569 rfl ?_
  refine a_iconst (pc := 570) dL_law_570 (cnb rfl) ?_
  refine a_iadd (pc := 571) dL_law_571 h.1 ?_
  replace h := h.2
  refine a_lsld (pc := 572) dL_law_572 h.1.1 h.1.2 ?_
  replace h := h.2
  refine a_callVi (pc := 573) (d := 2) (st := [.inl r559]) (o := 76) [.inl (sx xs (x3 + 1)), .inl (sx xs (x3 + 2))] dL_law_573 l_L_70 in_X12_nearest se_X12_nearest rfl rfl rfl ⟨Nat.le_of_ble_eq_true rfl, Nat.le_of_ble_eq_true rfl⟩ ⟨Nat.le_of_ble_eq_true rfl, Nat.le_of_ble_eq_true rfl⟩ (Nat.le_of_ble_eq_true rfl) ?_
  refine Calls.mono (fun r573 M573 hr573 hM573 h => ?_) h
  refine a_icmp_eq (pc := 576) 1045 dL_law_576 rfl ⟨fun hc => ?_, fun hc => ?_⟩
  · replace h := h.1 hc
    exact h
  · replace h := h.2 hc
    refine a_iconst (pc := 579) dL_law_579 (cnb rfl) ?_
    exact a_lret (pc := 580) dL_law_580 h
set_option maxRecDepth 20000 in
theorem s_L_law_581 {b L : Nat} {xs : Nat → Int32} (hL : L ≤ 3072) (x3 : Int) (M : Me) (h :
    cn (x3 + 1) ∧
    (0 ≤ x3 + 1 ∧ x3 + 1 < (L : Int)) ∧
    cn (x3 + 2) ∧
    (0 ≤ x3 + 2 ∧ x3 + 2 < (L : Int)) ∧
    Calls 6 mX11_strays [.inr 0, .inl (sx xs (x3 + 1)), .inl (sx xs (x3 + 2))] M (fun r592 M592 =>
    cn (x3 + 1) ∧
    (0 ≤ x3 + 1 ∧ x3 + 1 < (L : Int)) ∧
    cn (x3 + 2) ∧
    (0 ≤ x3 + 2 ∧ x3 + 2 < (L : Int)) ∧
    Calls 5 mX12_strays [.inr 76, .inl (sx xs (x3 + 1)), .inl (sx xs (x3 + 2))] M592 (fun r606 M606 =>
    ((r592 = r606 →
    Go (KL b L xs) 1045 [some (.inr 1003), some (.inr 0), some (.inr 76), some (.inl x3)] [] M606) ∧ (r592 ≠ r606 →
    (0 : Int) = 1))))) :
    Go (KL b L xs) 581 [some (.inr 1003), some (.inr 0), some (.inr 76), some (.inl x3)] [] M := by
  refine a_aload_n (pc := 581) dL_law_581 rfl ?_
  refine a_aload_n (pc := 582) dL_law_582 rfl ?_
  refine a_iload_n (pc := 583) dL_law_583 rfl ?_
  refine a_iconst (pc := 584) dL_law_584 (cnb rfl) ?_
  refine a_iadd (pc := 585) dL_law_585 h.1 ?_
  replace h := h.2
  refine a_lsld (pc := 586) dL_law_586 h.1.1 h.1.2 ?_
  replace h := h.2
  refine a_aload_n (pc := 587) dL_law_587 rfl ?_
  refine a_iload_n (pc := 588) dL_law_588 rfl ?_
  refine a_iconst (pc := 589) dL_law_589 (cnb rfl) ?_
  refine a_iadd (pc := 590) dL_law_590 h.1 ?_
  replace h := h.2
  refine a_lsld (pc := 591) dL_law_591 h.1.1 h.1.2 ?_
  replace h := h.2
  refine a_callVi (pc := 592) (d := 6) (st := []) (o := 0) [.inl (sx xs (x3 + 1)), .inl (sx xs (x3 + 2))] dL_law_592 l_L_71 in_X11_strays se_X11_strays rfl rfl rfl ⟨Nat.le_of_ble_eq_true rfl, Nat.le_of_ble_eq_true rfl⟩ ⟨Nat.le_of_ble_eq_true rfl, Nat.le_of_ble_eq_true rfl⟩ (Nat.le_of_ble_eq_true rfl) ?_
  refine Calls.mono (fun r592 M592 hr592 hM592 h => ?_) h
  refine a_aload_n (pc := 595) dL_law_595 rfl ?_
  refine a_aload_n (pc := 596) dL_law_596 rfl ?_
  refine a_iload_n (pc := 597) dL_law_597 rfl ?_
  refine a_iconst (pc := 598) dL_law_598 (cnb rfl) ?_
  refine a_iadd (pc := 599) dL_law_599 h.1 ?_
  replace h := h.2
  refine a_lsld (pc := 600) dL_law_600 h.1.1 h.1.2 ?_
  replace h := h.2
  refine a_aload_n (pc := 601) dL_law_601 rfl ?_
  refine a_iload_n (pc := 602) dL_law_602 rfl ?_
  refine a_iconst (pc := 603) dL_law_603 (cnb rfl) ?_
  refine a_iadd (pc := 604) dL_law_604 h.1 ?_
  replace h := h.2
  refine a_lsld (pc := 605) dL_law_605 h.1.1 h.1.2 ?_
  replace h := h.2
  refine a_callVi (pc := 606) (d := 5) (st := [.inl r592]) (o := 76) [.inl (sx xs (x3 + 1)), .inl (sx xs (x3 + 2))] dL_law_606 l_L_74 in_X12_strays se_X12_strays rfl rfl rfl ⟨Nat.le_of_ble_eq_true rfl, Nat.le_of_ble_eq_true rfl⟩ ⟨Nat.le_of_ble_eq_true rfl, Nat.le_of_ble_eq_true rfl⟩ (Nat.le_of_ble_eq_true rfl) ?_
  refine Calls.mono (fun r606 M606 hr606 hM606 h => ?_) h
  refine a_icmp_eq (pc := 609) 1045 dL_law_609 rfl ⟨fun hc => ?_, fun hc => ?_⟩
  · replace h := h.1 hc
    exact h
  · replace h := h.2 hc
    refine a_iconst (pc := 612) dL_law_612 (cnb rfl) ?_
    exact a_lret (pc := 613) dL_law_613 h
set_option maxRecDepth 20000 in
theorem s_L_law_614 {b L : Nat} {xs : Nat → Int32} (hL : L ≤ 3072) (x3 : Int) (M : Me) (h :
    cn (x3 + 1) ∧
    (0 ≤ x3 + 1 ∧ x3 + 1 < (L : Int)) ∧
    Calls 1 mX11_dates [.inr 0, .inl (sx xs (x3 + 1))] M (fun r620 M620 =>
    cn (x3 + 1) ∧
    (0 ≤ x3 + 1 ∧ x3 + 1 < (L : Int)) ∧
    Calls 1 mX12_dates [.inr 76, .inl (sx xs (x3 + 1))] M620 (fun r629 M629 =>
    ((r620 = r629 →
    Go (KL b L xs) 1045 [some (.inr 1003), some (.inr 0), some (.inr 76), some (.inl x3)] [] M629) ∧ (r620 ≠ r629 →
    (0 : Int) = 1))))) :
    Go (KL b L xs) 614 [some (.inr 1003), some (.inr 0), some (.inr 76), some (.inl x3)] [] M := by
  refine a_aload_n (pc := 614) dL_law_614 rfl ?_
  refine a_aload_n (pc := 615) dL_law_615 rfl ?_
  refine a_iload_n (pc := 616) dL_law_616 rfl ?_
  refine a_iconst (pc := 617) dL_law_617 (cnb rfl) ?_
  refine a_iadd (pc := 618) dL_law_618 h.1 ?_
  replace h := h.2
  refine a_lsld (pc := 619) dL_law_619 h.1.1 h.1.2 ?_
  replace h := h.2
  refine a_callVi (pc := 620) (d := 1) (st := []) (o := 0) [.inl (sx xs (x3 + 1))] dL_law_620 l_L_75 in_X11_dates se_X11_dates rfl rfl rfl ⟨Nat.le_of_ble_eq_true rfl, Nat.le_of_ble_eq_true rfl⟩ ⟨Nat.le_of_ble_eq_true rfl, Nat.le_of_ble_eq_true rfl⟩ (Nat.le_of_ble_eq_true rfl) ?_
  refine Calls.mono (fun r620 M620 hr620 hM620 h => ?_) h
  refine a_aload_n (pc := 623) dL_law_623 rfl ?_
  refine a_aload_n (pc := 624) dL_law_624 rfl ?_
  refine a_iload_n (pc := 625) dL_law_625 rfl ?_
  refine a_iconst (pc := 626) dL_law_626 (cnb rfl) ?_
  refine a_iadd (pc := 627) dL_law_627 h.1 ?_
  replace h := h.2
  refine a_lsld (pc := 628) dL_law_628 h.1.1 h.1.2 ?_
  replace h := h.2
  refine a_callVi (pc := 629) (d := 1) (st := [.inl r620]) (o := 76) [.inl (sx xs (x3 + 1))] dL_law_629 l_L_78 in_X12_dates se_X12_dates rfl rfl rfl ⟨Nat.le_of_ble_eq_true rfl, Nat.le_of_ble_eq_true rfl⟩ ⟨Nat.le_of_ble_eq_true rfl, Nat.le_of_ble_eq_true rfl⟩ (Nat.le_of_ble_eq_true rfl) ?_
  refine Calls.mono (fun r629 M629 hr629 hM629 h => ?_) h
  refine a_icmp_eq (pc := 632) 1045 dL_law_632 rfl ⟨fun hc => ?_, fun hc => ?_⟩
  · replace h := h.1 hc
    exact h
  · replace h := h.2 hc
    refine a_iconst (pc := 635) dL_law_635 (cnb rfl) ?_
    exact a_lret (pc := 636) dL_law_636 h
set_option maxRecDepth 20000 in
theorem s_L_law_637 {b L : Nat} {xs : Nat → Int32} (hL : L ≤ 3072) (x3 : Int) (M : Me) (h :
    cn (x3 + 1) ∧
    (0 ≤ x3 + 1 ∧ x3 + 1 < (L : Int)) ∧
    Calls 1 mX11_busiest [.inr 0, .inl (sx xs (x3 + 1))] M (fun r643 M643 =>
    cn (x3 + 1) ∧
    (0 ≤ x3 + 1 ∧ x3 + 1 < (L : Int)) ∧
    Calls 1 mX12_busiest [.inr 76, .inl (sx xs (x3 + 1))] M643 (fun r652 M652 =>
    ((r643 = r652 →
    Go (KL b L xs) 1045 [some (.inr 1003), some (.inr 0), some (.inr 76), some (.inl x3)] [] M652) ∧ (r643 ≠ r652 →
    (0 : Int) = 1))))) :
    Go (KL b L xs) 637 [some (.inr 1003), some (.inr 0), some (.inr 76), some (.inl x3)] [] M := by
  refine a_aload_n (pc := 637) dL_law_637 rfl ?_
  refine a_aload_n (pc := 638) dL_law_638 rfl ?_
  refine a_iload_n (pc := 639) dL_law_639 rfl ?_
  refine a_iconst (pc := 640) dL_law_640 (cnb rfl) ?_
  refine a_iadd (pc := 641) dL_law_641 h.1 ?_
  replace h := h.2
  refine a_lsld (pc := 642) dL_law_642 h.1.1 h.1.2 ?_
  replace h := h.2
  refine a_callVi (pc := 643) (d := 1) (st := []) (o := 0) [.inl (sx xs (x3 + 1))] dL_law_643 l_L_79 in_X11_busiest se_X11_busiest rfl rfl rfl ⟨Nat.le_of_ble_eq_true rfl, Nat.le_of_ble_eq_true rfl⟩ ⟨Nat.le_of_ble_eq_true rfl, Nat.le_of_ble_eq_true rfl⟩ (Nat.le_of_ble_eq_true rfl) ?_
  refine Calls.mono (fun r643 M643 hr643 hM643 h => ?_) h
  refine a_aload_n (pc := 646) dL_law_646 rfl ?_
  refine a_aload_n (pc := 647) dL_law_647 rfl ?_
  refine a_iload_n (pc := 648) dL_law_648 rfl ?_
  refine a_iconst (pc := 649) dL_law_649 (cnb rfl) ?_
  refine a_iadd (pc := 650) dL_law_650 h.1 ?_
  replace h := h.2
  refine a_lsld (pc := 651) dL_law_651 h.1.1 h.1.2 ?_
  replace h := h.2
  refine a_callVi (pc := 652) (d := 1) (st := [.inl r643]) (o := 76) [.inl (sx xs (x3 + 1))] dL_law_652 l_L_82 in_X12_busiest se_X12_busiest rfl rfl rfl ⟨Nat.le_of_ble_eq_true rfl, Nat.le_of_ble_eq_true rfl⟩ ⟨Nat.le_of_ble_eq_true rfl, Nat.le_of_ble_eq_true rfl⟩ (Nat.le_of_ble_eq_true rfl) ?_
  refine Calls.mono (fun r652 M652 hr652 hM652 h => ?_) h
  refine a_icmp_eq (pc := 655) 1045 dL_law_655 rfl ⟨fun hc => ?_, fun hc => ?_⟩
  · replace h := h.1 hc
    exact h
  · replace h := h.2 hc
    refine a_iconst (pc := 658) dL_law_658 (cnb rfl) ?_
    exact a_lret (pc := 659) dL_law_659 h
set_option maxRecDepth 20000 in
theorem s_L_law_660 {b L : Nat} {xs : Nat → Int32} (hL : L ≤ 3072) (x3 : Int) (M : Me) (h :
    cn (x3 + 1) ∧
    (0 ≤ x3 + 1 ∧ x3 + 1 < (L : Int)) ∧
    cn (x3 + 2) ∧
    (0 ≤ x3 + 2 ∧ x3 + 2 < (L : Int)) ∧
    cn (x3 + 3) ∧
    (0 ≤ x3 + 3 ∧ x3 + 3 < (L : Int)) ∧
    cn (x3 + 4) ∧
    (0 ≤ x3 + 4 ∧ x3 + 4 < (L : Int)) ∧
    Calls 2 mX11_yard [.inr 0, .inl (sx xs (x3 + 1)), .inl (sx xs (x3 + 2)), .inl (sx xs (x3 + 3)), .inl (sx xs (x3 + 4))] M (fun r681 M681 =>
    cn (x3 + 1) ∧
    (0 ≤ x3 + 1 ∧ x3 + 1 < (L : Int)) ∧
    cn (x3 + 2) ∧
    (0 ≤ x3 + 2 ∧ x3 + 2 < (L : Int)) ∧
    cn (x3 + 3) ∧
    (0 ≤ x3 + 3 ∧ x3 + 3 < (L : Int)) ∧
    cn (x3 + 4) ∧
    (0 ≤ x3 + 4 ∧ x3 + 4 < (L : Int)) ∧
    Calls 2 mX12_yard [.inr 76, .inl (sx xs (x3 + 1)), .inl (sx xs (x3 + 2)), .inl (sx xs (x3 + 3)), .inl (sx xs (x3 + 4))] M681 (fun r705 M705 =>
    ((r681 = r705 →
    Go (KL b L xs) 1045 [some (.inr 1003), some (.inr 0), some (.inr 76), some (.inl x3)] [] M705) ∧ (r681 ≠ r705 →
    (0 : Int) = 1))))) :
    Go (KL b L xs) 660 [some (.inr 1003), some (.inr 0), some (.inr 76), some (.inl x3)] [] M := by
  refine a_aload_n (pc := 660) dL_law_660 rfl ?_
  refine a_aload_n (pc := 661) dL_law_661 rfl ?_
  refine a_iload_n (pc := 662) dL_law_662 rfl ?_
  refine a_iconst (pc := 663) dL_law_663 (cnb rfl) ?_
  refine a_iadd (pc := 664) dL_law_664 h.1 ?_
  replace h := h.2
  refine a_lsld (pc := 665) dL_law_665 h.1.1 h.1.2 ?_
  replace h := h.2
  refine a_aload_n (pc := 666) dL_law_666 rfl ?_
  refine a_iload_n (pc := 667) dL_law_667 rfl ?_
  refine a_iconst (pc := 668) dL_law_668 (cnb rfl) ?_
  refine a_iadd (pc := 669) dL_law_669 h.1 ?_
  replace h := h.2
  refine a_lsld (pc := 670) dL_law_670 h.1.1 h.1.2 ?_
  replace h := h.2
  refine a_aload_n (pc := 671) dL_law_671 rfl ?_
  refine a_iload_n (pc := 672) dL_law_672 rfl ?_
  refine a_iconst (pc := 673) dL_law_673 (cnb rfl) ?_
  refine a_iadd (pc := 674) dL_law_674 h.1 ?_
  replace h := h.2
  refine a_lsld (pc := 675) dL_law_675 h.1.1 h.1.2 ?_
  replace h := h.2
  refine a_aload_n (pc := 676) dL_law_676 rfl ?_
  refine a_iload_n (pc := 677) dL_law_677 rfl ?_
  refine a_iconst (pc := 678) dL_law_678 (cnb rfl) ?_
  refine a_iadd (pc := 679) dL_law_679 h.1 ?_
  replace h := h.2
  refine a_lsld (pc := 680) dL_law_680 h.1.1 h.1.2 ?_
  replace h := h.2
  refine a_callVi (pc := 681) (d := 2) (st := []) (o := 0) [.inl (sx xs (x3 + 1)), .inl (sx xs (x3 + 2)), .inl (sx xs (x3 + 3)), .inl (sx xs (x3 + 4))] dL_law_681 l_L_83 in_X11_yard se_X11_yard rfl rfl rfl ⟨Nat.le_of_ble_eq_true rfl, Nat.le_of_ble_eq_true rfl⟩ ⟨Nat.le_of_ble_eq_true rfl, Nat.le_of_ble_eq_true rfl⟩ (Nat.le_of_ble_eq_true rfl) ?_
  refine Calls.mono (fun r681 M681 hr681 hM681 h => ?_) h
  refine a_aload_n (pc := 684) dL_law_684 rfl ?_
  refine a_aload_n (pc := 685) dL_law_685 rfl ?_
  refine a_iload_n (pc := 686) dL_law_686 rfl ?_
  refine a_iconst (pc := 687) dL_law_687 (cnb rfl) ?_
  refine a_iadd (pc := 688) dL_law_688 h.1 ?_
  replace h := h.2
  refine a_lsld (pc := 689) dL_law_689 h.1.1 h.1.2 ?_
  replace h := h.2
  refine a_aload_n (pc := 690) dL_law_690 rfl ?_
  refine a_iload_n (pc := 691) dL_law_691 rfl ?_
  refine a_iconst (pc := 692) dL_law_692 (cnb rfl) ?_
  refine a_iadd (pc := 693) dL_law_693 h.1 ?_
  replace h := h.2
  refine a_lsld (pc := 694) dL_law_694 h.1.1 h.1.2 ?_
  replace h := h.2
  refine a_aload_n (pc := 695) dL_law_695 rfl ?_
  refine a_iload_n (pc := 696) dL_law_696 rfl ?_
  refine a_iconst (pc := 697) dL_law_697 (cnb rfl) ?_
  refine a_iadd (pc := 698) dL_law_698 h.1 ?_
  replace h := h.2
  refine a_lsld (pc := 699) dL_law_699 h.1.1 h.1.2 ?_
  replace h := h.2
  refine a_aload_n (pc := 700) dL_law_700 rfl ?_
  refine a_iload_n (pc := 701) dL_law_701 rfl ?_
  refine a_iconst (pc := 702) dL_law_702 (cnb rfl) ?_
  refine a_iadd (pc := 703) dL_law_703 h.1 ?_
  replace h := h.2
  refine a_lsld (pc := 704) dL_law_704 h.1.1 h.1.2 ?_
  replace h := h.2
  refine a_callVi (pc := 705) (d := 2) (st := [.inl r681]) (o := 76) [.inl (sx xs (x3 + 1)), .inl (sx xs (x3 + 2)), .inl (sx xs (x3 + 3)), .inl (sx xs (x3 + 4))] dL_law_705 l_L_87 in_X12_yard se_X12_yard rfl rfl rfl ⟨Nat.le_of_ble_eq_true rfl, Nat.le_of_ble_eq_true rfl⟩ ⟨Nat.le_of_ble_eq_true rfl, Nat.le_of_ble_eq_true rfl⟩ (Nat.le_of_ble_eq_true rfl) ?_
  refine Calls.mono (fun r705 M705 hr705 hM705 h => ?_) h
  refine a_icmp_eq (pc := 708) 1045 dL_law_708 rfl ⟨fun hc => ?_, fun hc => ?_⟩
  · replace h := h.1 hc
    exact h
  · replace h := h.2 hc
    refine a_iconst (pc := 711) dL_law_711 (cnb rfl) ?_
    exact a_lret (pc := 712) dL_law_712 h
set_option maxRecDepth 20000 in
theorem s_L_law_713 {b L : Nat} {xs : Nat → Int32} (hL : L ≤ 3072) (x3 : Int) (M : Me) (h :
    cn (x3 + 1) ∧
    (0 ≤ x3 + 1 ∧ x3 + 1 < (L : Int)) ∧
    cn (x3 + 2) ∧
    (0 ≤ x3 + 2 ∧ x3 + 2 < (L : Int)) ∧
    Calls 4 mX11_groups [.inr 0, .inl (sx xs (x3 + 1)), .inl (sx xs (x3 + 2))] M (fun r724 M724 =>
    cn (x3 + 1) ∧
    (0 ≤ x3 + 1 ∧ x3 + 1 < (L : Int)) ∧
    cn (x3 + 2) ∧
    (0 ≤ x3 + 2 ∧ x3 + 2 < (L : Int)) ∧
    Calls 3 mX12_groups [.inr 76, .inl (sx xs (x3 + 1)), .inl (sx xs (x3 + 2))] M724 (fun r738 M738 =>
    ((r724 = r738 →
    Go (KL b L xs) 1045 [some (.inr 1003), some (.inr 0), some (.inr 76), some (.inl x3)] [] M738) ∧ (r724 ≠ r738 →
    (0 : Int) = 1))))) :
    Go (KL b L xs) 713 [some (.inr 1003), some (.inr 0), some (.inr 76), some (.inl x3)] [] M := by
  refine a_aload_n (pc := 713) dL_law_713 rfl ?_
  refine a_aload_n (pc := 714) dL_law_714 rfl ?_
  refine a_iload_n (pc := 715) dL_law_715 rfl ?_
  refine a_iconst (pc := 716) dL_law_716 (cnb rfl) ?_
  refine a_iadd (pc := 717) dL_law_717 h.1 ?_
  replace h := h.2
  refine a_lsld (pc := 718) dL_law_718 h.1.1 h.1.2 ?_
  replace h := h.2
  refine a_aload_n (pc := 719) dL_law_719 rfl ?_
  refine a_iload_n (pc := 720) dL_law_720 rfl ?_
  refine a_iconst (pc := 721) dL_law_721 (cnb rfl) ?_
  refine a_iadd (pc := 722) dL_law_722 h.1 ?_
  replace h := h.2
  refine a_lsld (pc := 723) dL_law_723 h.1.1 h.1.2 ?_
  replace h := h.2
  refine a_callVi (pc := 724) (d := 4) (st := []) (o := 0) [.inl (sx xs (x3 + 1)), .inl (sx xs (x3 + 2))] dL_law_724 l_L_88 in_X11_groups se_X11_groups rfl rfl rfl ⟨Nat.le_of_ble_eq_true rfl, Nat.le_of_ble_eq_true rfl⟩ ⟨Nat.le_of_ble_eq_true rfl, Nat.le_of_ble_eq_true rfl⟩ (Nat.le_of_ble_eq_true rfl) ?_
  refine Calls.mono (fun r724 M724 hr724 hM724 h => ?_) h
  refine a_aload_n (pc := 727) dL_law_727 rfl ?_
  refine a_aload_n (pc := 728) dL_law_728 rfl ?_
  refine a_iload_n (pc := 729) dL_law_729 rfl ?_
  refine a_iconst (pc := 730) dL_law_730 (cnb rfl) ?_
  refine a_iadd (pc := 731) dL_law_731 h.1 ?_
  replace h := h.2
  refine a_lsld (pc := 732) dL_law_732 h.1.1 h.1.2 ?_
  replace h := h.2
  refine a_aload_n (pc := 733) dL_law_733 rfl ?_
  refine a_iload_n (pc := 734) dL_law_734 rfl ?_
  refine a_iconst (pc := 735) dL_law_735 (cnb rfl) ?_
  refine a_iadd (pc := 736) dL_law_736 h.1 ?_
  replace h := h.2
  refine a_lsld (pc := 737) dL_law_737 h.1.1 h.1.2 ?_
  replace h := h.2
  refine a_callVi (pc := 738) (d := 3) (st := [.inl r724]) (o := 76) [.inl (sx xs (x3 + 1)), .inl (sx xs (x3 + 2))] dL_law_738 l_L_91 in_X12_groups se_X12_groups rfl rfl rfl ⟨Nat.le_of_ble_eq_true rfl, Nat.le_of_ble_eq_true rfl⟩ ⟨Nat.le_of_ble_eq_true rfl, Nat.le_of_ble_eq_true rfl⟩ (Nat.le_of_ble_eq_true rfl) ?_
  refine Calls.mono (fun r738 M738 hr738 hM738 h => ?_) h
  refine a_icmp_eq (pc := 741) 1045 dL_law_741 rfl ⟨fun hc => ?_, fun hc => ?_⟩
  · replace h := h.1 hc
    exact h
  · replace h := h.2 hc
    refine a_iconst (pc := 744) dL_law_744 (cnb rfl) ?_
    exact a_lret (pc := 745) dL_law_745 h
set_option maxRecDepth 20000 in
theorem s_L_law_746 {b L : Nat} {xs : Nat → Int32} (hL : L ≤ 3072) (x3 : Int) (M : Me) (h :
    cn (x3 + 1) ∧
    (0 ≤ x3 + 1 ∧ x3 + 1 < (L : Int)) ∧
    Calls 3 mX11_fence [.inr 0, .inl (sx xs (x3 + 1))] M (fun r752 M752 =>
    cn (x3 + 1) ∧
    (0 ≤ x3 + 1 ∧ x3 + 1 < (L : Int)) ∧
    Calls 3 mX12_fence [.inr 76, .inl (sx xs (x3 + 1))] M752 (fun r761 M761 =>
    ((r752 = r761 →
    Go (KL b L xs) 1045 [some (.inr 1003), some (.inr 0), some (.inr 76), some (.inl x3)] [] M761) ∧ (r752 ≠ r761 →
    (0 : Int) = 1))))) :
    Go (KL b L xs) 746 [some (.inr 1003), some (.inr 0), some (.inr 76), some (.inl x3)] [] M := by
  refine a_aload_n (pc := 746) dL_law_746 rfl ?_
  refine a_aload_n (pc := 747) dL_law_747 rfl ?_
  refine a_iload_n (pc := 748) dL_law_748 rfl ?_
  refine a_iconst (pc := 749) dL_law_749 (cnb rfl) ?_
  refine a_iadd (pc := 750) dL_law_750 h.1 ?_
  replace h := h.2
  refine a_lsld (pc := 751) dL_law_751 h.1.1 h.1.2 ?_
  replace h := h.2
  refine a_callVi (pc := 752) (d := 3) (st := []) (o := 0) [.inl (sx xs (x3 + 1))] dL_law_752 l_L_92 in_X11_fence se_X11_fence rfl rfl rfl ⟨Nat.le_of_ble_eq_true rfl, Nat.le_of_ble_eq_true rfl⟩ ⟨Nat.le_of_ble_eq_true rfl, Nat.le_of_ble_eq_true rfl⟩ (Nat.le_of_ble_eq_true rfl) ?_
  refine Calls.mono (fun r752 M752 hr752 hM752 h => ?_) h
  refine a_aload_n (pc := 755) dL_law_755 rfl ?_
  refine a_aload_n (pc := 756) dL_law_756 rfl ?_
  refine a_iload_n (pc := 757) dL_law_757 rfl ?_
  refine a_iconst (pc := 758) dL_law_758 (cnb rfl) ?_
  refine a_iadd (pc := 759) dL_law_759 h.1 ?_
  replace h := h.2
  refine a_lsld (pc := 760) dL_law_760 h.1.1 h.1.2 ?_
  replace h := h.2
  refine a_callVi (pc := 761) (d := 3) (st := [.inl r752]) (o := 76) [.inl (sx xs (x3 + 1))] dL_law_761 l_L_95 in_X12_fence se_X12_fence rfl rfl rfl ⟨Nat.le_of_ble_eq_true rfl, Nat.le_of_ble_eq_true rfl⟩ ⟨Nat.le_of_ble_eq_true rfl, Nat.le_of_ble_eq_true rfl⟩ (Nat.le_of_ble_eq_true rfl) ?_
  refine Calls.mono (fun r761 M761 hr761 hM761 h => ?_) h
  refine a_icmp_eq (pc := 764) 1045 dL_law_764 rfl ⟨fun hc => ?_, fun hc => ?_⟩
  · replace h := h.1 hc
    exact h
  · replace h := h.2 hc
    refine a_iconst (pc := 767) dL_law_767 (cnb rfl) ?_
    exact a_lret (pc := 768) dL_law_768 h
set_option maxRecDepth 20000 in
theorem s_L_law_769 {b L : Nat} {xs : Nat → Int32} (hL : L ≤ 3072) (x3 : Int) (M : Me) (h :
    Calls 4 mX11_crossing [.inr 0] M (fun r770 M770 =>
    Calls 3 mX12_crossing [.inr 76] M770 (fun r774 M774 =>
    ((r770 = r774 →
    Go (KL b L xs) 1045 [some (.inr 1003), some (.inr 0), some (.inr 76), some (.inl x3)] [] M774) ∧ (r770 ≠ r774 →
    (0 : Int) = 1))))) :
    Go (KL b L xs) 769 [some (.inr 1003), some (.inr 0), some (.inr 76), some (.inl x3)] [] M := by
  refine a_aload_n (pc := 769) dL_law_769 rfl ?_
  refine a_callVi (pc := 770) (d := 4) (st := []) (o := 0) [] dL_law_770 l_L_96 in_X11_crossing se_X11_crossing rfl rfl rfl ⟨Nat.le_of_ble_eq_true rfl, Nat.le_of_ble_eq_true rfl⟩ ⟨Nat.le_of_ble_eq_true rfl, Nat.le_of_ble_eq_true rfl⟩ (Nat.le_of_ble_eq_true rfl) ?_
  refine Calls.mono (fun r770 M770 hr770 hM770 h => ?_) h
  refine a_aload_n (pc := 773) dL_law_773 rfl ?_
  refine a_callVi (pc := 774) (d := 3) (st := [.inl r770]) (o := 76) [] dL_law_774 l_L_99 in_X12_crossing se_X12_crossing rfl rfl rfl ⟨Nat.le_of_ble_eq_true rfl, Nat.le_of_ble_eq_true rfl⟩ ⟨Nat.le_of_ble_eq_true rfl, Nat.le_of_ble_eq_true rfl⟩ (Nat.le_of_ble_eq_true rfl) ?_
  refine Calls.mono (fun r774 M774 hr774 hM774 h => ?_) h
  refine a_icmp_eq (pc := 777) 1045 dL_law_777 rfl ⟨fun hc => ?_, fun hc => ?_⟩
  · replace h := h.1 hc
    exact h
  · replace h := h.2 hc
    refine a_iconst (pc := 780) dL_law_780 (cnb rfl) ?_
    exact a_lret (pc := 781) dL_law_781 h
set_option maxRecDepth 20000 in
theorem s_L_law_782 {b L : Nat} {xs : Nat → Int32} (hL : L ≤ 3072) (x3 : Int) (M : Me) (h :
    Calls 3 mX11_paths [.inr 0] M (fun r783 M783 =>
    Calls 2 mX12_paths [.inr 76] M783 (fun r787 M787 =>
    ((r783 = r787 →
    Go (KL b L xs) 1045 [some (.inr 1003), some (.inr 0), some (.inr 76), some (.inl x3)] [] M787) ∧ (r783 ≠ r787 →
    (0 : Int) = 1))))) :
    Go (KL b L xs) 782 [some (.inr 1003), some (.inr 0), some (.inr 76), some (.inl x3)] [] M := by
  refine a_aload_n (pc := 782) dL_law_782 rfl ?_
  refine a_callVi (pc := 783) (d := 3) (st := []) (o := 0) [] dL_law_783 l_L_100 in_X11_paths se_X11_paths rfl rfl rfl ⟨Nat.le_of_ble_eq_true rfl, Nat.le_of_ble_eq_true rfl⟩ ⟨Nat.le_of_ble_eq_true rfl, Nat.le_of_ble_eq_true rfl⟩ (Nat.le_of_ble_eq_true rfl) ?_
  refine Calls.mono (fun r783 M783 hr783 hM783 h => ?_) h
  refine a_aload_n (pc := 786) dL_law_786 rfl ?_
  refine a_callVi (pc := 787) (d := 2) (st := [.inl r783]) (o := 76) [] dL_law_787 l_L_103 in_X12_paths se_X12_paths rfl rfl rfl ⟨Nat.le_of_ble_eq_true rfl, Nat.le_of_ble_eq_true rfl⟩ ⟨Nat.le_of_ble_eq_true rfl, Nat.le_of_ble_eq_true rfl⟩ (Nat.le_of_ble_eq_true rfl) ?_
  refine Calls.mono (fun r787 M787 hr787 hM787 h => ?_) h
  refine a_icmp_eq (pc := 790) 1045 dL_law_790 rfl ⟨fun hc => ?_, fun hc => ?_⟩
  · replace h := h.1 hc
    exact h
  · replace h := h.2 hc
    refine a_iconst (pc := 793) dL_law_793 (cnb rfl) ?_
    exact a_lret (pc := 794) dL_law_794 h
set_option maxRecDepth 20000 in
theorem s_L_law_795 {b L : Nat} {xs : Nat → Int32} (hL : L ≤ 3072) (x3 : Int) (M : Me) (h :
    Calls 2 mX11_trees [.inr 0] M (fun r796 M796 =>
    Calls 2 mX12_trees [.inr 76] M796 (fun r800 M800 =>
    ((r796 = r800 →
    Go (KL b L xs) 1045 [some (.inr 1003), some (.inr 0), some (.inr 76), some (.inl x3)] [] M800) ∧ (r796 ≠ r800 →
    (0 : Int) = 1))))) :
    Go (KL b L xs) 795 [some (.inr 1003), some (.inr 0), some (.inr 76), some (.inl x3)] [] M := by
  refine a_aload_n (pc := 795) dL_law_795 rfl ?_
  refine a_callVi (pc := 796) (d := 2) (st := []) (o := 0) [] dL_law_796 l_L_104 in_X11_trees se_X11_trees rfl rfl rfl ⟨Nat.le_of_ble_eq_true rfl, Nat.le_of_ble_eq_true rfl⟩ ⟨Nat.le_of_ble_eq_true rfl, Nat.le_of_ble_eq_true rfl⟩ (Nat.le_of_ble_eq_true rfl) ?_
  refine Calls.mono (fun r796 M796 hr796 hM796 h => ?_) h
  refine a_aload_n (pc := 799) dL_law_799 rfl ?_
  refine a_callVi (pc := 800) (d := 2) (st := [.inl r796]) (o := 76) [] dL_law_800 l_L_107 in_X12_trees se_X12_trees rfl rfl rfl ⟨Nat.le_of_ble_eq_true rfl, Nat.le_of_ble_eq_true rfl⟩ ⟨Nat.le_of_ble_eq_true rfl, Nat.le_of_ble_eq_true rfl⟩ (Nat.le_of_ble_eq_true rfl) ?_
  refine Calls.mono (fun r800 M800 hr800 hM800 h => ?_) h
  refine a_icmp_eq (pc := 803) 1045 dL_law_803 rfl ⟨fun hc => ?_, fun hc => ?_⟩
  · replace h := h.1 hc
    exact h
  · replace h := h.2 hc
    refine a_iconst (pc := 806) dL_law_806 (cnb rfl) ?_
    exact a_lret (pc := 807) dL_law_807 h
set_option maxRecDepth 20000 in
theorem s_L_law_808 {b L : Nat} {xs : Nat → Int32} (hL : L ≤ 3072) (x3 : Int) (M : Me) (h :
    cn (x3 + 1) ∧
    (0 ≤ x3 + 1 ∧ x3 + 1 < (L : Int)) ∧
    cn (x3 + 2) ∧
    (0 ≤ x3 + 2 ∧ x3 + 2 < (L : Int)) ∧
    Calls 4 mX11_round [.inr 0, .inl (sx xs (x3 + 1)), .inl (sx xs (x3 + 2))] M (fun r819 M819 =>
    cn (x3 + 1) ∧
    (0 ≤ x3 + 1 ∧ x3 + 1 < (L : Int)) ∧
    cn (x3 + 2) ∧
    (0 ≤ x3 + 2 ∧ x3 + 2 < (L : Int)) ∧
    Calls 3 mX12_round [.inr 76, .inl (sx xs (x3 + 1)), .inl (sx xs (x3 + 2))] M819 (fun r833 M833 =>
    ((r819 = r833 →
    Go (KL b L xs) 1045 [some (.inr 1003), some (.inr 0), some (.inr 76), some (.inl x3)] [] M833) ∧ (r819 ≠ r833 →
    (0 : Int) = 1))))) :
    Go (KL b L xs) 808 [some (.inr 1003), some (.inr 0), some (.inr 76), some (.inl x3)] [] M := by
  refine a_aload_n (pc := 808) dL_law_808 rfl ?_
  refine a_aload_n (pc := 809) dL_law_809 rfl ?_
  refine a_iload_n (pc := 810) dL_law_810 rfl ?_
  refine a_iconst (pc := 811) dL_law_811 (cnb rfl) ?_
  refine a_iadd (pc := 812) dL_law_812 h.1 ?_
  replace h := h.2
  refine a_lsld (pc := 813) dL_law_813 h.1.1 h.1.2 ?_
  replace h := h.2
  refine a_aload_n (pc := 814) dL_law_814 rfl ?_
  refine a_iload_n (pc := 815) dL_law_815 rfl ?_
  refine a_iconst (pc := 816) dL_law_816 (cnb rfl) ?_
  refine a_iadd (pc := 817) dL_law_817 h.1 ?_
  replace h := h.2
  refine a_lsld (pc := 818) dL_law_818 h.1.1 h.1.2 ?_
  replace h := h.2
  refine a_callVi (pc := 819) (d := 4) (st := []) (o := 0) [.inl (sx xs (x3 + 1)), .inl (sx xs (x3 + 2))] dL_law_819 l_L_108 in_X11_round se_X11_round rfl rfl rfl ⟨Nat.le_of_ble_eq_true rfl, Nat.le_of_ble_eq_true rfl⟩ ⟨Nat.le_of_ble_eq_true rfl, Nat.le_of_ble_eq_true rfl⟩ (Nat.le_of_ble_eq_true rfl) ?_
  refine Calls.mono (fun r819 M819 hr819 hM819 h => ?_) h
  refine a_aload_n (pc := 822) dL_law_822 rfl ?_
  refine a_aload_n (pc := 823) dL_law_823 rfl ?_
  refine a_iload_n (pc := 824) dL_law_824 rfl ?_
  refine a_iconst (pc := 825) dL_law_825 (cnb rfl) ?_
  refine a_iadd (pc := 826) dL_law_826 h.1 ?_
  replace h := h.2
  refine a_lsld (pc := 827) dL_law_827 h.1.1 h.1.2 ?_
  replace h := h.2
  refine a_aload_n (pc := 828) dL_law_828 rfl ?_
  refine a_iload_n (pc := 829) dL_law_829 rfl ?_
  refine a_iconst (pc := 830) dL_law_830 (cnb rfl) ?_
  refine a_iadd (pc := 831) dL_law_831 h.1 ?_
  replace h := h.2
  refine a_lsld (pc := 832) dL_law_832 h.1.1 h.1.2 ?_
  replace h := h.2
  refine a_callVi (pc := 833) (d := 3) (st := [.inl r819]) (o := 76) [.inl (sx xs (x3 + 1)), .inl (sx xs (x3 + 2))] dL_law_833 l_L_111 in_X12_round se_X12_round rfl rfl rfl ⟨Nat.le_of_ble_eq_true rfl, Nat.le_of_ble_eq_true rfl⟩ ⟨Nat.le_of_ble_eq_true rfl, Nat.le_of_ble_eq_true rfl⟩ (Nat.le_of_ble_eq_true rfl) ?_
  refine Calls.mono (fun r833 M833 hr833 hM833 h => ?_) h
  refine a_icmp_eq (pc := 836) 1045 dL_law_836 rfl ⟨fun hc => ?_, fun hc => ?_⟩
  · replace h := h.1 hc
    exact h
  · replace h := h.2 hc
    refine a_iconst (pc := 839) dL_law_839 (cnb rfl) ?_
    exact a_lret (pc := 840) dL_law_840 h
set_option maxRecDepth 20000 in
theorem s_L_law_841 {b L : Nat} {xs : Nat → Int32} (hL : L ≤ 3072) (x3 : Int) (M : Me) (h :
    cn (x3 + 1) ∧
    (0 ≤ x3 + 1 ∧ x3 + 1 < (L : Int)) ∧
    cn (x3 + 2) ∧
    (0 ≤ x3 + 2 ∧ x3 + 2 < (L : Int)) ∧
    Calls 2 mX11_words [.inr 0, .inl (sx xs (x3 + 1)), .inl (sx xs (x3 + 2))] M (fun r852 M852 =>
    cn (x3 + 1) ∧
    (0 ≤ x3 + 1 ∧ x3 + 1 < (L : Int)) ∧
    cn (x3 + 2) ∧
    (0 ≤ x3 + 2 ∧ x3 + 2 < (L : Int)) ∧
    Calls 2 mX12_words [.inr 76, .inl (sx xs (x3 + 1)), .inl (sx xs (x3 + 2))] M852 (fun r866 M866 =>
    ((r852 = r866 →
    Go (KL b L xs) 1045 [some (.inr 1003), some (.inr 0), some (.inr 76), some (.inl x3)] [] M866) ∧ (r852 ≠ r866 →
    (0 : Int) = 1))))) :
    Go (KL b L xs) 841 [some (.inr 1003), some (.inr 0), some (.inr 76), some (.inl x3)] [] M := by
  refine a_aload_n (pc := 841) dL_law_841 rfl ?_
  refine a_aload_n (pc := 842) dL_law_842 rfl ?_
  refine a_iload_n (pc := 843) dL_law_843 rfl ?_
  refine a_iconst (pc := 844) dL_law_844 (cnb rfl) ?_
  refine a_iadd (pc := 845) dL_law_845 h.1 ?_
  replace h := h.2
  refine a_lsld (pc := 846) dL_law_846 h.1.1 h.1.2 ?_
  replace h := h.2
  refine a_aload_n (pc := 847) dL_law_847 rfl ?_
  refine a_iload_n (pc := 848) dL_law_848 rfl ?_
  refine a_iconst (pc := 849) dL_law_849 (cnb rfl) ?_
  refine a_iadd (pc := 850) dL_law_850 h.1 ?_
  replace h := h.2
  refine a_lsld (pc := 851) dL_law_851 h.1.1 h.1.2 ?_
  replace h := h.2
  refine a_callVi (pc := 852) (d := 2) (st := []) (o := 0) [.inl (sx xs (x3 + 1)), .inl (sx xs (x3 + 2))] dL_law_852 l_L_112 in_X11_words se_X11_words rfl rfl rfl ⟨Nat.le_of_ble_eq_true rfl, Nat.le_of_ble_eq_true rfl⟩ ⟨Nat.le_of_ble_eq_true rfl, Nat.le_of_ble_eq_true rfl⟩ (Nat.le_of_ble_eq_true rfl) ?_
  refine Calls.mono (fun r852 M852 hr852 hM852 h => ?_) h
  refine a_aload_n (pc := 855) dL_law_855 rfl ?_
  refine a_aload_n (pc := 856) dL_law_856 rfl ?_
  refine a_iload_n (pc := 857) dL_law_857 rfl ?_
  refine a_iconst (pc := 858) dL_law_858 (cnb rfl) ?_
  refine a_iadd (pc := 859) dL_law_859 h.1 ?_
  replace h := h.2
  refine a_lsld (pc := 860) dL_law_860 h.1.1 h.1.2 ?_
  replace h := h.2
  refine a_aload_n (pc := 861) dL_law_861 rfl ?_
  refine a_iload_n (pc := 862) dL_law_862 rfl ?_
  refine a_iconst (pc := 863) dL_law_863 (cnb rfl) ?_
  refine a_iadd (pc := 864) dL_law_864 h.1 ?_
  replace h := h.2
  refine a_lsld (pc := 865) dL_law_865 h.1.1 h.1.2 ?_
  replace h := h.2
  refine a_callVi (pc := 866) (d := 2) (st := [.inl r852]) (o := 76) [.inl (sx xs (x3 + 1)), .inl (sx xs (x3 + 2))] dL_law_866 l_L_115 in_X12_words se_X12_words rfl rfl rfl ⟨Nat.le_of_ble_eq_true rfl, Nat.le_of_ble_eq_true rfl⟩ ⟨Nat.le_of_ble_eq_true rfl, Nat.le_of_ble_eq_true rfl⟩ (Nat.le_of_ble_eq_true rfl) ?_
  refine Calls.mono (fun r866 M866 hr866 hM866 h => ?_) h
  refine a_icmp_eq (pc := 869) 1045 dL_law_869 rfl ⟨fun hc => ?_, fun hc => ?_⟩
  · replace h := h.1 hc
    exact h
  · replace h := h.2 hc
    refine a_iconst (pc := 872) dL_law_872 (cnb rfl) ?_
    exact a_lret (pc := 873) dL_law_873 h
set_option maxRecDepth 20000 in
theorem s_L_law_874 {b L : Nat} {xs : Nat → Int32} (hL : L ≤ 3072) (x3 : Int) (M : Me) (h :
    cn (x3 + 1) ∧
    (0 ≤ x3 + 1 ∧ x3 + 1 < (L : Int)) ∧
    cn (x3 + 2) ∧
    (0 ≤ x3 + 2 ∧ x3 + 2 < (L : Int)) ∧
    Calls 61 mX11_marriages [.inr 0, .inl (sx xs (x3 + 1)), .inl (sx xs (x3 + 2))] M (fun r885 M885 =>
    cn (x3 + 1) ∧
    (0 ≤ x3 + 1 ∧ x3 + 1 < (L : Int)) ∧
    cn (x3 + 2) ∧
    (0 ≤ x3 + 2 ∧ x3 + 2 < (L : Int)) ∧
    Calls 2 mX12_marriages [.inr 76, .inl (sx xs (x3 + 1)), .inl (sx xs (x3 + 2))] M885 (fun r899 M899 =>
    ((r885 = r899 →
    Go (KL b L xs) 1045 [some (.inr 1003), some (.inr 0), some (.inr 76), some (.inl x3)] [] M899) ∧ (r885 ≠ r899 →
    (0 : Int) = 1))))) :
    Go (KL b L xs) 874 [some (.inr 1003), some (.inr 0), some (.inr 76), some (.inl x3)] [] M := by
  refine a_aload_n (pc := 874) dL_law_874 rfl ?_
  refine a_aload_n (pc := 875) dL_law_875 rfl ?_
  refine a_iload_n (pc := 876) dL_law_876 rfl ?_
  refine a_iconst (pc := 877) dL_law_877 (cnb rfl) ?_
  refine a_iadd (pc := 878) dL_law_878 h.1 ?_
  replace h := h.2
  refine a_lsld (pc := 879) dL_law_879 h.1.1 h.1.2 ?_
  replace h := h.2
  refine a_aload_n (pc := 880) dL_law_880 rfl ?_
  refine a_iload_n (pc := 881) dL_law_881 rfl ?_
  refine a_iconst (pc := 882) dL_law_882 (cnb rfl) ?_
  refine a_iadd (pc := 883) dL_law_883 h.1 ?_
  replace h := h.2
  refine a_lsld (pc := 884) dL_law_884 h.1.1 h.1.2 ?_
  replace h := h.2
  refine a_callVi (pc := 885) (d := 61) (st := []) (o := 0) [.inl (sx xs (x3 + 1)), .inl (sx xs (x3 + 2))] dL_law_885 l_L_116 in_X11_marriages se_X11_marriages rfl rfl rfl ⟨Nat.le_of_ble_eq_true rfl, Nat.le_of_ble_eq_true rfl⟩ ⟨Nat.le_of_ble_eq_true rfl, Nat.le_of_ble_eq_true rfl⟩ (Nat.le_of_ble_eq_true rfl) ?_
  refine Calls.mono (fun r885 M885 hr885 hM885 h => ?_) h
  refine a_aload_n (pc := 888) dL_law_888 rfl ?_
  refine a_aload_n (pc := 889) dL_law_889 rfl ?_
  refine a_iload_n (pc := 890) dL_law_890 rfl ?_
  refine a_iconst (pc := 891) dL_law_891 (cnb rfl) ?_
  refine a_iadd (pc := 892) dL_law_892 h.1 ?_
  replace h := h.2
  refine a_lsld (pc := 893) dL_law_893 h.1.1 h.1.2 ?_
  replace h := h.2
  refine a_aload_n (pc := 894) dL_law_894 rfl ?_
  refine a_iload_n (pc := 895) dL_law_895 rfl ?_
  refine a_iconst (pc := 896) dL_law_896 (cnb rfl) ?_
  refine a_iadd (pc := 897) dL_law_897 h.1 ?_
  replace h := h.2
  refine a_lsld (pc := 898) dL_law_898 h.1.1 h.1.2 ?_
  replace h := h.2
  refine a_callVi (pc := 899) (d := 2) (st := [.inl r885]) (o := 76) [.inl (sx xs (x3 + 1)), .inl (sx xs (x3 + 2))] dL_law_899 l_L_119 in_X12_marriages se_X12_marriages rfl rfl rfl ⟨Nat.le_of_ble_eq_true rfl, Nat.le_of_ble_eq_true rfl⟩ ⟨Nat.le_of_ble_eq_true rfl, Nat.le_of_ble_eq_true rfl⟩ (Nat.le_of_ble_eq_true rfl) ?_
  refine Calls.mono (fun r899 M899 hr899 hM899 h => ?_) h
  refine a_icmp_eq (pc := 902) 1045 dL_law_902 rfl ⟨fun hc => ?_, fun hc => ?_⟩
  · replace h := h.1 hc
    exact h
  · replace h := h.2 hc
    refine a_iconst (pc := 905) dL_law_905 (cnb rfl) ?_
    exact a_lret (pc := 906) dL_law_906 h
set_option maxRecDepth 20000 in
theorem s_L_law_907 {b L : Nat} {xs : Nat → Int32} (hL : L ≤ 3072) (x3 : Int) (M : Me) (h :
    cn (x3 + 1) ∧
    (0 ≤ x3 + 1 ∧ x3 + 1 < (L : Int)) ∧
    cn (x3 + 2) ∧
    (0 ≤ x3 + 2 ∧ x3 + 2 < (L : Int)) ∧
    cn (x3 + 3) ∧
    (0 ≤ x3 + 3 ∧ x3 + 3 < (L : Int)) ∧
    Calls 2 mX11_orders [.inr 0, .inl (sx xs (x3 + 1)), .inl (sx xs (x3 + 2)), .inl (sx xs (x3 + 3))] M (fun r923 M923 =>
    cn (x3 + 1) ∧
    (0 ≤ x3 + 1 ∧ x3 + 1 < (L : Int)) ∧
    cn (x3 + 2) ∧
    (0 ≤ x3 + 2 ∧ x3 + 2 < (L : Int)) ∧
    cn (x3 + 3) ∧
    (0 ≤ x3 + 3 ∧ x3 + 3 < (L : Int)) ∧
    Calls 2 mX12_orders [.inr 76, .inl (sx xs (x3 + 1)), .inl (sx xs (x3 + 2)), .inl (sx xs (x3 + 3))] M923 (fun r942 M942 =>
    ((r923 = r942 →
    Go (KL b L xs) 1045 [some (.inr 1003), some (.inr 0), some (.inr 76), some (.inl x3)] [] M942) ∧ (r923 ≠ r942 →
    (0 : Int) = 1))))) :
    Go (KL b L xs) 907 [some (.inr 1003), some (.inr 0), some (.inr 76), some (.inl x3)] [] M := by
  refine a_aload_n (pc := 907) dL_law_907 rfl ?_
  refine a_aload_n (pc := 908) dL_law_908 rfl ?_
  refine a_iload_n (pc := 909) dL_law_909 rfl ?_
  refine a_iconst (pc := 910) dL_law_910 (cnb rfl) ?_
  refine a_iadd (pc := 911) dL_law_911 h.1 ?_
  replace h := h.2
  refine a_lsld (pc := 912) dL_law_912 h.1.1 h.1.2 ?_
  replace h := h.2
  refine a_aload_n (pc := 913) dL_law_913 rfl ?_
  refine a_iload_n (pc := 914) dL_law_914 rfl ?_
  refine a_iconst (pc := 915) dL_law_915 (cnb rfl) ?_
  refine a_iadd (pc := 916) dL_law_916 h.1 ?_
  replace h := h.2
  refine a_lsld (pc := 917) dL_law_917 h.1.1 h.1.2 ?_
  replace h := h.2
  refine a_aload_n (pc := 918) dL_law_918 rfl ?_
  refine a_iload_n (pc := 919) dL_law_919 rfl ?_
  refine a_iconst (pc := 920) dL_law_920 (cnb rfl) ?_
  refine a_iadd (pc := 921) dL_law_921 h.1 ?_
  replace h := h.2
  refine a_lsld (pc := 922) dL_law_922 h.1.1 h.1.2 ?_
  replace h := h.2
  refine a_callVi (pc := 923) (d := 2) (st := []) (o := 0) [.inl (sx xs (x3 + 1)), .inl (sx xs (x3 + 2)), .inl (sx xs (x3 + 3))] dL_law_923 l_L_120 in_X11_orders se_X11_orders rfl rfl rfl ⟨Nat.le_of_ble_eq_true rfl, Nat.le_of_ble_eq_true rfl⟩ ⟨Nat.le_of_ble_eq_true rfl, Nat.le_of_ble_eq_true rfl⟩ (Nat.le_of_ble_eq_true rfl) ?_
  refine Calls.mono (fun r923 M923 hr923 hM923 h => ?_) h
  refine a_aload_n (pc := 926) dL_law_926 rfl ?_
  refine a_aload_n (pc := 927) dL_law_927 rfl ?_
  refine a_iload_n (pc := 928) dL_law_928 rfl ?_
  refine a_iconst (pc := 929) dL_law_929 (cnb rfl) ?_
  refine a_iadd (pc := 930) dL_law_930 h.1 ?_
  replace h := h.2
  refine a_lsld (pc := 931) dL_law_931 h.1.1 h.1.2 ?_
  replace h := h.2
  refine a_aload_n (pc := 932) dL_law_932 rfl ?_
  refine a_iload_n (pc := 933) dL_law_933 rfl ?_
  refine a_iconst (pc := 934) dL_law_934 (cnb rfl) ?_
  refine a_iadd (pc := 935) dL_law_935 h.1 ?_
  replace h := h.2
  refine a_lsld (pc := 936) dL_law_936 h.1.1 h.1.2 ?_
  replace h := h.2
  refine a_aload_n (pc := 937) dL_law_937 rfl ?_
  refine a_iload_n (pc := 938) dL_law_938 rfl ?_
  refine a_iconst (pc := 939) dL_law_939 (cnb rfl) ?_
  refine a_iadd (pc := 940) dL_law_940 h.1 ?_
  replace h := h.2
  refine a_lsld (pc := 941) dL_law_941 h.1.1 h.1.2 ?_
  replace h := h.2
  refine a_callVi (pc := 942) (d := 2) (st := [.inl r923]) (o := 76) [.inl (sx xs (x3 + 1)), .inl (sx xs (x3 + 2)), .inl (sx xs (x3 + 3))] dL_law_942 l_L_123 in_X12_orders se_X12_orders rfl rfl rfl ⟨Nat.le_of_ble_eq_true rfl, Nat.le_of_ble_eq_true rfl⟩ ⟨Nat.le_of_ble_eq_true rfl, Nat.le_of_ble_eq_true rfl⟩ (Nat.le_of_ble_eq_true rfl) ?_
  refine Calls.mono (fun r942 M942 hr942 hM942 h => ?_) h
  refine a_icmp_eq (pc := 945) 1045 dL_law_945 rfl ⟨fun hc => ?_, fun hc => ?_⟩
  · replace h := h.1 hc
    exact h
  · replace h := h.2 hc
    refine a_iconst (pc := 948) dL_law_948 (cnb rfl) ?_
    exact a_lret (pc := 949) dL_law_949 h
set_option maxRecDepth 20000 in
theorem s_L_law_950 {b L : Nat} {xs : Nat → Int32} (hL : L ≤ 3072) (x3 : Int) (M : Me) (h :
    cn (x3 + 1) ∧
    (0 ≤ x3 + 1 ∧ x3 + 1 < (L : Int)) ∧
    Calls 0 mX11_seed [.inr 0, .inl (sx xs (x3 + 1))] M (fun r956 M956 =>
    cn (x3 + 1) ∧
    (0 ≤ x3 + 1 ∧ x3 + 1 < (L : Int)) ∧
    Calls 1 mX12_seed [.inr 76, .inl (sx xs (x3 + 1))] M956 (fun r965 M965 =>
    ((r956 = r965 →
    Go (KL b L xs) 1045 [some (.inr 1003), some (.inr 0), some (.inr 76), some (.inl x3)] [] M965) ∧ (r956 ≠ r965 →
    (0 : Int) = 1))))) :
    Go (KL b L xs) 950 [some (.inr 1003), some (.inr 0), some (.inr 76), some (.inl x3)] [] M := by
  refine a_aload_n (pc := 950) dL_law_950 rfl ?_
  refine a_aload_n (pc := 951) dL_law_951 rfl ?_
  refine a_iload_n (pc := 952) dL_law_952 rfl ?_
  refine a_iconst (pc := 953) dL_law_953 (cnb rfl) ?_
  refine a_iadd (pc := 954) dL_law_954 h.1 ?_
  replace h := h.2
  refine a_lsld (pc := 955) dL_law_955 h.1.1 h.1.2 ?_
  replace h := h.2
  refine a_callVi (pc := 956) (d := 0) (st := []) (o := 0) [.inl (sx xs (x3 + 1))] dL_law_956 l_L_124 in_X11_seed se_X11_seed rfl rfl rfl ⟨Nat.le_of_ble_eq_true rfl, Nat.le_of_ble_eq_true rfl⟩ ⟨Nat.le_of_ble_eq_true rfl, Nat.le_of_ble_eq_true rfl⟩ (Nat.le_of_ble_eq_true rfl) ?_
  refine Calls.mono (fun r956 M956 hr956 hM956 h => ?_) h
  refine a_aload_n (pc := 959) dL_law_959 rfl ?_
  refine a_aload_n (pc := 960) dL_law_960 rfl ?_
  refine a_iload_n (pc := 961) dL_law_961 rfl ?_
  refine a_iconst (pc := 962) dL_law_962 (cnb rfl) ?_
  refine a_iadd (pc := 963) dL_law_963 h.1 ?_
  replace h := h.2
  refine a_lsld (pc := 964) dL_law_964 h.1.1 h.1.2 ?_
  replace h := h.2
  refine a_callVi (pc := 965) (d := 1) (st := [.inl r956]) (o := 76) [.inl (sx xs (x3 + 1))] dL_law_965 l_L_128 in_X12_seed se_X12_seed rfl rfl rfl ⟨Nat.le_of_ble_eq_true rfl, Nat.le_of_ble_eq_true rfl⟩ ⟨Nat.le_of_ble_eq_true rfl, Nat.le_of_ble_eq_true rfl⟩ (Nat.le_of_ble_eq_true rfl) ?_
  refine Calls.mono (fun r965 M965 hr965 hM965 h => ?_) h
  refine a_icmp_eq (pc := 968) 1045 dL_law_968 rfl ⟨fun hc => ?_, fun hc => ?_⟩
  · replace h := h.1 hc
    exact h
  · replace h := h.2 hc
    refine a_iconst (pc := 971) dL_law_971 (cnb rfl) ?_
    exact a_lret (pc := 972) dL_law_972 h
set_option maxRecDepth 20000 in
theorem s_L_law_973 {b L : Nat} {xs : Nat → Int32} (hL : L ≤ 3072) (x3 : Int) (M : Me) (h :
    Calls 2 mX11_keep [.inr 0] M (fun r974 M974 =>
    Calls 1 mX12_keep [.inr 76] M974 (fun r978 M978 =>
    ((r974 = r978 →
    Go (KL b L xs) 1045 [some (.inr 1003), some (.inr 0), some (.inr 76), some (.inl x3)] [] M978) ∧ (r974 ≠ r978 →
    (0 : Int) = 1))))) :
    Go (KL b L xs) 973 [some (.inr 1003), some (.inr 0), some (.inr 76), some (.inl x3)] [] M := by
  refine a_aload_n (pc := 973) dL_law_973 rfl ?_
  refine a_callVi (pc := 974) (d := 2) (st := []) (o := 0) [] dL_law_974 l_L_129 in_X11_keep se_X11_keep rfl rfl rfl ⟨Nat.le_of_ble_eq_true rfl, Nat.le_of_ble_eq_true rfl⟩ ⟨Nat.le_of_ble_eq_true rfl, Nat.le_of_ble_eq_true rfl⟩ (Nat.le_of_ble_eq_true rfl) ?_
  refine Calls.mono (fun r974 M974 hr974 hM974 h => ?_) h
  refine a_aload_n (pc := 977) dL_law_977 rfl ?_
  refine a_callVi (pc := 978) (d := 1) (st := [.inl r974]) (o := 76) [] dL_law_978 l_L_132 in_X12_keep se_X12_keep rfl rfl rfl ⟨Nat.le_of_ble_eq_true rfl, Nat.le_of_ble_eq_true rfl⟩ ⟨Nat.le_of_ble_eq_true rfl, Nat.le_of_ble_eq_true rfl⟩ (Nat.le_of_ble_eq_true rfl) ?_
  refine Calls.mono (fun r978 M978 hr978 hM978 h => ?_) h
  refine a_icmp_eq (pc := 981) 1045 dL_law_981 rfl ⟨fun hc => ?_, fun hc => ?_⟩
  · replace h := h.1 hc
    exact h
  · replace h := h.2 hc
    refine a_iconst (pc := 984) dL_law_984 (cnb rfl) ?_
    exact a_lret (pc := 985) dL_law_985 h
set_option maxRecDepth 20000 in
theorem s_L_law_986 {b L : Nat} {xs : Nat → Int32} (hL : L ≤ 3072) (x3 : Int) (M : Me) (h :
    Calls 2 mX11_undo [.inr 0] M (fun r987 M987 =>
    Calls 1 mX12_undo [.inr 76] M987 (fun r991 M991 =>
    ((r987 = r991 →
    Go (KL b L xs) 1045 [some (.inr 1003), some (.inr 0), some (.inr 76), some (.inl x3)] [] M991) ∧ (r987 ≠ r991 →
    (0 : Int) = 1))))) :
    Go (KL b L xs) 986 [some (.inr 1003), some (.inr 0), some (.inr 76), some (.inl x3)] [] M := by
  refine a_aload_n (pc := 986) dL_law_986 rfl ?_
  refine a_callVi (pc := 987) (d := 2) (st := []) (o := 0) [] dL_law_987 l_L_133 in_X11_undo se_X11_undo rfl rfl rfl ⟨Nat.le_of_ble_eq_true rfl, Nat.le_of_ble_eq_true rfl⟩ ⟨Nat.le_of_ble_eq_true rfl, Nat.le_of_ble_eq_true rfl⟩ (Nat.le_of_ble_eq_true rfl) ?_
  refine Calls.mono (fun r987 M987 hr987 hM987 h => ?_) h
  refine a_aload_n (pc := 990) dL_law_990 rfl ?_
  refine a_callVi (pc := 991) (d := 1) (st := [.inl r987]) (o := 76) [] dL_law_991 l_L_137 in_X12_undo se_X12_undo rfl rfl rfl ⟨Nat.le_of_ble_eq_true rfl, Nat.le_of_ble_eq_true rfl⟩ ⟨Nat.le_of_ble_eq_true rfl, Nat.le_of_ble_eq_true rfl⟩ (Nat.le_of_ble_eq_true rfl) ?_
  refine Calls.mono (fun r991 M991 hr991 hM991 h => ?_) h
  refine a_icmp_eq (pc := 994) 1045 dL_law_994 rfl ⟨fun hc => ?_, fun hc => ?_⟩
  · replace h := h.1 hc
    exact h
  · replace h := h.2 hc
    refine a_iconst (pc := 997) dL_law_997 (cnb rfl) ?_
    exact a_lret (pc := 998) dL_law_998 h
set_option maxRecDepth 20000 in
theorem s_L_law_999 {b L : Nat} {xs : Nat → Int32} (hL : L ≤ 3072) (x3 : Int) (M : Me) (h :
    cn (x3 + 1) ∧
    (0 ≤ x3 + 1 ∧ x3 + 1 < (L : Int)) ∧
    Calls 1 mX11_check [.inr 0, .inl (sx xs (x3 + 1))] M (fun r1005 M1005 =>
    cn (x3 + 1) ∧
    (0 ≤ x3 + 1 ∧ x3 + 1 < (L : Int)) ∧
    Calls 2 mX12_check [.inr 76, .inl (sx xs (x3 + 1))] M1005 (fun r1014 M1014 =>
    ((r1005 = r1014 →
    Go (KL b L xs) 1045 [some (.inr 1003), some (.inr 0), some (.inr 76), some (.inl x3)] [] M1014) ∧ (r1005 ≠ r1014 →
    (0 : Int) = 1))))) :
    Go (KL b L xs) 999 [some (.inr 1003), some (.inr 0), some (.inr 76), some (.inl x3)] [] M := by
  refine a_aload_n (pc := 999) dL_law_999 rfl ?_
  refine a_aload_n (pc := 1000) dL_law_1000 rfl ?_
  refine a_iload_n (pc := 1001) dL_law_1001 rfl ?_
  refine a_iconst (pc := 1002) dL_law_1002 (cnb rfl) ?_
  refine a_iadd (pc := 1003) dL_law_1003 h.1 ?_
  replace h := h.2
  refine a_lsld (pc := 1004) dL_law_1004 h.1.1 h.1.2 ?_
  replace h := h.2
  refine a_callVi (pc := 1005) (d := 1) (st := []) (o := 0) [.inl (sx xs (x3 + 1))] dL_law_1005 l_L_138 in_X11_check se_X11_check rfl rfl rfl ⟨Nat.le_of_ble_eq_true rfl, Nat.le_of_ble_eq_true rfl⟩ ⟨Nat.le_of_ble_eq_true rfl, Nat.le_of_ble_eq_true rfl⟩ (Nat.le_of_ble_eq_true rfl) ?_
  refine Calls.mono (fun r1005 M1005 hr1005 hM1005 h => ?_) h
  refine a_aload_n (pc := 1008) dL_law_1008 rfl ?_
  refine a_aload_n (pc := 1009) dL_law_1009 rfl ?_
  refine a_iload_n (pc := 1010) dL_law_1010 rfl ?_
  refine a_iconst (pc := 1011) dL_law_1011 (cnb rfl) ?_
  refine a_iadd (pc := 1012) dL_law_1012 h.1 ?_
  replace h := h.2
  refine a_lsld (pc := 1013) dL_law_1013 h.1.1 h.1.2 ?_
  replace h := h.2
  refine a_callVi (pc := 1014) (d := 2) (st := [.inl r1005]) (o := 76) [.inl (sx xs (x3 + 1))] dL_law_1014 l_L_141 in_X12_check se_X12_check rfl rfl rfl ⟨Nat.le_of_ble_eq_true rfl, Nat.le_of_ble_eq_true rfl⟩ ⟨Nat.le_of_ble_eq_true rfl, Nat.le_of_ble_eq_true rfl⟩ (Nat.le_of_ble_eq_true rfl) ?_
  refine Calls.mono (fun r1014 M1014 hr1014 hM1014 h => ?_) h
  refine a_icmp_eq (pc := 1017) 1045 dL_law_1017 rfl ⟨fun hc => ?_, fun hc => ?_⟩
  · replace h := h.1 hc
    exact h
  · replace h := h.2 hc
    refine a_iconst (pc := 1020) dL_law_1020 (cnb rfl) ?_
    exact a_lret (pc := 1021) dL_law_1021 h
set_option maxRecDepth 20000 in
theorem s_L_law_1022 {b L : Nat} {xs : Nat → Int32} (hL : L ≤ 3072) (x3 : Int) (M : Me) (h :
    cn (x3 + 1) ∧
    (0 ≤ x3 + 1 ∧ x3 + 1 < (L : Int)) ∧
    Calls 1 mX11_count [.inr 0, .inl (sx xs (x3 + 1))] M (fun r1028 M1028 =>
    cn (x3 + 1) ∧
    (0 ≤ x3 + 1 ∧ x3 + 1 < (L : Int)) ∧
    Calls 1 mX12_count [.inr 76, .inl (sx xs (x3 + 1))] M1028 (fun r1037 M1037 =>
    ((r1028 = r1037 →
    Go (KL b L xs) 1045 [some (.inr 1003), some (.inr 0), some (.inr 76), some (.inl x3)] [] M1037) ∧ (r1028 ≠ r1037 →
    (0 : Int) = 1))))) :
    Go (KL b L xs) 1022 [some (.inr 1003), some (.inr 0), some (.inr 76), some (.inl x3)] [] M := by
  refine a_aload_n (pc := 1022) dL_law_1022 rfl ?_
  refine a_aload_n (pc := 1023) dL_law_1023 rfl ?_
  refine a_iload_n (pc := 1024) dL_law_1024 rfl ?_
  refine a_iconst (pc := 1025) dL_law_1025 (cnb rfl) ?_
  refine a_iadd (pc := 1026) dL_law_1026 h.1 ?_
  replace h := h.2
  refine a_lsld (pc := 1027) dL_law_1027 h.1.1 h.1.2 ?_
  replace h := h.2
  refine a_callVi (pc := 1028) (d := 1) (st := []) (o := 0) [.inl (sx xs (x3 + 1))] dL_law_1028 l_L_142 in_X11_count se_X11_count rfl rfl rfl ⟨Nat.le_of_ble_eq_true rfl, Nat.le_of_ble_eq_true rfl⟩ ⟨Nat.le_of_ble_eq_true rfl, Nat.le_of_ble_eq_true rfl⟩ (Nat.le_of_ble_eq_true rfl) ?_
  refine Calls.mono (fun r1028 M1028 hr1028 hM1028 h => ?_) h
  refine a_aload_n (pc := 1031) dL_law_1031 rfl ?_
  refine a_aload_n (pc := 1032) dL_law_1032 rfl ?_
  refine a_iload_n (pc := 1033) dL_law_1033 rfl ?_
  refine a_iconst (pc := 1034) dL_law_1034 (cnb rfl) ?_
  refine a_iadd (pc := 1035) dL_law_1035 h.1 ?_
  replace h := h.2
  refine a_lsld (pc := 1036) dL_law_1036 h.1.1 h.1.2 ?_
  replace h := h.2
  refine a_callVi (pc := 1037) (d := 1) (st := [.inl r1028]) (o := 76) [.inl (sx xs (x3 + 1))] dL_law_1037 l_L_145 in_X12_count se_X12_count rfl rfl rfl ⟨Nat.le_of_ble_eq_true rfl, Nat.le_of_ble_eq_true rfl⟩ ⟨Nat.le_of_ble_eq_true rfl, Nat.le_of_ble_eq_true rfl⟩ (Nat.le_of_ble_eq_true rfl) ?_
  refine Calls.mono (fun r1037 M1037 hr1037 hM1037 h => ?_) h
  refine a_icmp_eq (pc := 1040) 1045 dL_law_1040 rfl ⟨fun hc => ?_, fun hc => ?_⟩
  · replace h := h.1 hc
    exact h
  · replace h := h.2 hc
    refine a_iconst (pc := 1043) dL_law_1043 (cnb rfl) ?_
    exact a_lret (pc := 1044) dL_law_1044 h
