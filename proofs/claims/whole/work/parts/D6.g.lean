set_option maxRecDepth 20000 in
theorem s_J0_isLatin1_aae02_0 {Q : Int → Me → Prop}  (M : Me) (h :
    Q 1 M) :
    Go (km 0 mJ0_isLatin1_aae02 Q) 0 [some (.inr 1001)] [] M := by
  refine a_getSs (pc := 0) dJ0_isLatin1_aae02_0 rfl ?_
  refine a_if_eq (pc := 3) 17 dJ0_isLatin1_aae02_3 rfl ⟨fun hc => absurd hc (by decide), fun _ => ?_⟩
  refine a_aload_n (pc := 6) dJ0_isLatin1_aae02_6 rfl ?_
  refine a_getSc (pc := 7) dJ0_isLatin1_aae02_7 rfl ?_
  refine a_if_ne (pc := 10) 17 dJ0_isLatin1_aae02_10 rfl ⟨fun hc => absurd hc (by decide), fun _ => ?_⟩
  refine a_iconst (pc := 13) dJ0_isLatin1_aae02_13 (cnb rfl) ?_
  refine a_goto (pc := 14) 18 dJ0_isLatin1_aae02_14 rfl ?_
  exact a_iretZ (pc := 18) dJ0_isLatin1_aae02_18 rfl (by decide) h
set_option maxRecDepth 20000 in
theorem e_J0_isLatin1_aae02 {Q : Int → Me → Prop}  {M : Me} (h :
    Q 1 M) : Calls 0 mJ0_isLatin1_aae02 [.inr 1001] M Q := Calls.of (by decide) (Nat.le_of_ble_eq_true rfl) (s_J0_isLatin1_aae02_0   M h)
set_option maxRecDepth 20000 in
theorem s_J0_coder_7d493_0 {Q : Int → Me → Prop}  (M : Me) (h :
    Q 0 M) :
    Go (km 0 mJ0_coder_7d493 Q) 0 [some (.inr 1001)] [] M := by
  refine a_getSs (pc := 0) dJ0_coder_7d493_0 rfl ?_
  refine a_if_eq (pc := 3) 13 dJ0_coder_7d493_3 rfl ⟨fun hc => absurd hc (by decide), fun _ => ?_⟩
  refine a_aload_n (pc := 6) dJ0_coder_7d493_6 rfl ?_
  refine a_getSc (pc := 7) dJ0_coder_7d493_7 rfl ?_
  refine a_goto (pc := 10) 14 dJ0_coder_7d493_10 rfl ?_
  exact a_iretB (pc := 14) dJ0_coder_7d493_14 rfl (by decide) h
set_option maxRecDepth 20000 in
theorem e_J0_coder_7d493 {Q : Int → Me → Prop}  {M : Me} (h :
    Q 0 M) : Calls 0 mJ0_coder_7d493 [.inr 1001] M Q := Calls.of (by decide) (Nat.le_of_ble_eq_true rfl) (s_J0_coder_7d493_0   M h)
set_option maxRecDepth 20000 in
theorem s_J1_canEncode_9a6ad_0 {Q : Int → Me → Prop}  (a : Int) (M : Me) (h :
    ((a < 0 →
    Q 0 M) ∧ (0 ≤ a →
    ((255 < a →
    Q 0 M) ∧ (a ≤ 255 →
    Q 1 M))))) :
    Go (km 0 mJ1_canEncode_9a6ad Q) 0 [some (.inl a)] [] M := by
  refine a_iload_n (pc := 0) dJ1_canEncode_9a6ad_0 rfl ?_
  refine a_if_lt (pc := 1) 15 dJ1_canEncode_9a6ad_1 rfl ⟨fun hc => ?_, fun hc => ?_⟩
  · replace h := h.1 hc
    refine a_iconst (pc := 15) dJ1_canEncode_9a6ad_15 (cnb rfl) ?_
    exact a_iretZ (pc := 16) dJ1_canEncode_9a6ad_16 rfl (by decide) h
  · replace h := h.2 hc
    refine a_iload_n (pc := 4) dJ1_canEncode_9a6ad_4 rfl ?_
    refine a_sipush (pc := 5) dJ1_canEncode_9a6ad_5 (by decide) (cnb rfl) ?_
    refine a_icmp_gt (pc := 8) 15 dJ1_canEncode_9a6ad_8 rfl ⟨fun hc => ?_, fun hc => ?_⟩
    · replace h := h.1 hc
      refine a_iconst (pc := 15) dJ1_canEncode_9a6ad_15 (cnb rfl) ?_
      exact a_iretZ (pc := 16) dJ1_canEncode_9a6ad_16 rfl (by decide) h
    · replace h := h.2 hc
      refine a_iconst (pc := 11) dJ1_canEncode_9a6ad_11 (cnb rfl) ?_
      refine a_goto (pc := 12) 16 dJ1_canEncode_9a6ad_12 rfl ?_
      exact a_iretZ (pc := 16) dJ1_canEncode_9a6ad_16 rfl (by decide) h
set_option maxRecDepth 20000 in
theorem e_J1_canEncode_9a6ad {Q : Int → Me → Prop}  {a : Int} {M : Me} (h :
    ((a < 0 →
    Q 0 M) ∧ (0 ≤ a →
    ((255 < a →
    Q 0 M) ∧ (a ≤ 255 →
    Q 1 M))))) : Calls 0 mJ1_canEncode_9a6ad [.inl a] M Q := Calls.of (by decide) (Nat.le_of_ble_eq_true rfl) (s_J1_canEncode_9a6ad_0  a M h)
