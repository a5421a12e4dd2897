theorem p_X12_stepsBetween {a b : Int} {M : Me} {Q : Int → Me → Prop} (ha : 0 ≤ a) (hb : 0 ≤ b) (h : Q (dst a b) M) : Calls 1 mX12_stepsBetween [.inl a, .inl b] M Q := by
  refine Calls.known (fun _ hs => ?_)
  have ca := hs.hd
  have cb := hs.tl.hd
  unfold cn at ca cb
  exact e_X12_stepsBetween ⟨by first | omega | (unfold cn; omega), ⟨by first | omega | (unfold cn; omega), ⟨by first | omega | (unfold cn; omega), ⟨by first | omega | (unfold cn; omega), ⟨by first | omega | (unfold cn; omega), ⟨by first | omega | (unfold cn; omega), ⟨by first | omega | (unfold cn; omega), ⟨by first | omega | (unfold cn; omega), ⟨by first | omega | (unfold cn; omega), (by exact h)⟩⟩⟩⟩⟩⟩⟩⟩⟩
theorem p_X9_byteAt {a : Int} {M : Me} {Q : Int → Me → Prop} (hn : M 1 1 ≤ 260) (h : (0 ≤ a ∧ a < M 1 1 → Q (M 2 a) M) ∧ (¬ (0 ≤ a ∧ a < M 1 1) → Q (-1) M)) : Calls 0 mX9_byteAt [.inr 1, .inl a] M Q := by
  exact e_X9_byteAt ⟨fun v1 => (by first | exact h.1 (by omega) | exact h.2 (by omega)), fun v1 => ⟨fun v2 => (by first | exact h.1 (by omega) | exact h.2 (by omega)), fun v2 => ⟨by first | omega | (unfold cn; omega), (by first | exact h.1 (by omega) | exact h.2 (by omega))⟩⟩⟩
theorem p_X9_clear {M : Me} {Q : Int → Me → Prop} (h : Q 0 (mput M 1 1 0)) : Calls 0 mX9_clear [.inr 1] M Q := e_X9_clear h
theorem p_X12_octet {a : Int} {M : Me} {Q : Int → Me → Prop} (h0 : 0 ≤ a ∧ a < 260) (h : Q (band (M 88 a) 255) M) : Calls 0 mX12_octet [.inr 76, .inl a] M Q := by
  exact e_X12_octet ⟨by first | omega | (unfold cn; omega), (by exact h)⟩
theorem p_X12_here {M : Me} {Q : Int → Me → Prop} (h0 : 0 ≤ M 76 14 ∧ M 76 15 ≤ 260) (h : (M 76 14 < M 76 15 → Q (band (M 88 (M 76 14)) 255) M) ∧ (¬ (M 76 14 < M 76 15) → Q (-1) M)) : Calls 0 mX12_here [.inr 76] M Q := by
  exact e_X12_here ⟨fun v1 => (by first | exact h.1 (by omega) | exact h.2 (by omega)), fun v1 => ⟨by first | omega | (unfold cn; omega), (by first | exact h.1 (by omega) | exact h.2 (by omega))⟩⟩
theorem p_X9_sign {M : Me} {Q : Int → Me → Prop} (h0 : M 1 2 ≤ 260) (h : (M 1 4 = 0 ∧ 0 ≤ M 1 3 ∧ M 1 3 < M 1 2 → Q (M 2 (M 1 3)) M) ∧ (¬ (M 1 4 = 0 ∧ 0 ≤ M 1 3 ∧ M 1 3 < M 1 2) → Q (-1) M)) : Calls 0 mX9_sign [.inr 1] M Q := by
  exact e_X9_sign ⟨fun v1 => (by first | exact h.1 (by omega) | exact h.2 (by omega)), fun v1 => ⟨fun v2 => (by first | exact h.1 (by omega) | exact h.2 (by omega)), fun v2 => ⟨fun v3 => (by first | exact h.1 (by omega) | exact h.2 (by omega)), fun v3 => ⟨by first | omega | (unfold cn; omega), (by first | exact h.1 (by omega) | exact h.2 (by omega))⟩⟩⟩⟩
theorem p_X1_letterBits {o : Nat} (ho : isX1 o) {a : Int} {M : Me} {Q : Int → Me → Prop} (h0 : 0 ≤ a ∧ a < 16) (h : (0 ≤ M (o + 3) a → Q (bor (bshl 1 (M (o + 2) a)) (bshl 1 (M (o + 3) a))) M) ∧ (¬ (0 ≤ M (o + 3) a) → Q (bshl 1 (M (o + 2) a)) M)) : Calls 0 mX1_letterBits [.inr o, .inl a] M Q := by
  exact e_X1_letterBits ho ⟨by first | omega | (unfold cn; omega), ⟨by first | omega | (unfold cn; omega), ⟨fun v1 => ⟨by first | omega | (unfold cn; omega), (by first | exact h.1 (by omega) | exact h.2 (by omega))⟩, fun v1 => (by first | exact h.1 (by omega) | exact h.2 (by omega))⟩⟩⟩
