theorem p_isLatin1 {M : Me} {Q : Int → Me → Prop} (h : Q 1 M) : Calls 0 mJ0_isLatin1_aae02 [.inr 1001] M Q := e_J0_isLatin1_aae02 h
theorem p_coder {M : Me} {Q : Int → Me → Prop} (h : Q 0 M) : Calls 0 mJ0_coder_7d493 [.inr 1001] M Q := e_J0_coder_7d493 h
theorem p_canEncode {c : Int} {M : Me} {Q : Int → Me → Prop} (h : (0 ≤ c ∧ c ≤ 255 → Q 1 M) ∧ (¬ (0 ≤ c ∧ c ≤ 255) → Q 0 M)) : Calls 0 mJ1_canEncode_9a6ad [.inl c] M Q :=
  e_J1_canEncode_9a6ad ⟨fun a => h.2 (by omega), fun a => ⟨fun b => h.2 (by omega), fun b => h.1 (by omega)⟩⟩
