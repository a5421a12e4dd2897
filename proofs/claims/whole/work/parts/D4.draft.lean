/-! ===== the class's draft of a law ===== -/
theorem d_add {M : Me} {a b n : Int} {Q : Int → Me → Prop} (hn : M 30 7 = n) (n0 : 0 ≤ n ∧ n < 240) (ha : 0 ≤ a ∧ a < 256) (hb : 0 ≤ b ∧ b < 1048576) (hQ : Q 0 (mput (mput M 35 n (256 * b + a)) 30 7 (n + 1))) : Calls 0 mX3_add [.inr 30, .inl a, .inl b] M Q := by
  refine e_X3_add ?_
  rw [hn]
  exact ⟨fun z => by exfalso; omega, fun _ => ⟨by unfold cn; omega, by unfold cn; omega, by omega, by unfold cn; omega, hQ⟩⟩
/-- behind a fault: it may add, or not -/
theorem d_addF {M : Me} {a b : Int} {Q : Int → Me → Prop} (n0 : 0 ≤ M 30 7) (ha : 0 ≤ a ∧ a < 65536) (hb : 0 ≤ b ∧ b < 1048576) (hQ : ∀ M', (∀ k i, k ≠ 35 → (k = 30 → i ≠ 7) → M' k i = M k i) → 0 ≤ M' 30 7 → (M 30 7 ≤ 240 → M' 30 7 ≤ 240) → Q 0 M') : Calls 0 mX3_add [.inr 30, .inl a, .inl b] M Q := by
  refine e_X3_add ⟨fun z => hQ M (fun _ _ _ _ => rfl) n0 (fun z => z), fun z => ⟨by unfold cn; omega, by unfold cn; omega, by omega, by unfold cn; omega, hQ _ (fun k i x y => ?_) ?_ (fun _ => ?_)⟩⟩
  · by_cases q : k = 30
    · rw [mput_ni _ _ _ _ (y q), mput_ne _ _ _ _ x]
    · rw [mput_ne _ _ _ _ q, mput_ne _ _ _ _ x]
  · rw [mput_same]; omega
  · rw [mput_same]; omega
