theorem bshr_11 : bshr 11 0 = 11 := by decide
theorem p_lengthS {M : Me} {Q : Int → Me → Prop} (h : Q 11 M) : Calls 1 mJ0_length_8abf5 [.inr 1001] M Q := e_J0_length_8abf5 (by rw [bshr_11]; exact h)
theorem bbyt_256 : ∀ n : Nat, n < 256 → bbyt (n : Int) = if n < 128 then (n : Int) else (n : Int) - 256 := by decide +kernel
theorem bchr_256 : ∀ n : Nat, n < 256 → bchr (n : Int) = (n : Int) := by decide +kernel
theorem bchr_id {c : Int} (h : 0 ≤ c ∧ c ≤ 255) : bchr c = c := by
  have := bchr_256 c.toNat (by omega)
  rw [show ((c.toNat : Nat) : Int) = c by omega] at this
  exact this
theorem sby_b (i : Int) : 97 ≤ sb i ∧ sb i ≤ 119 := by
  unfold sb
  repeat' split
  all_goals omega
theorem sb_eq {c i : Int} (h : 0 ≤ c ∧ c ≤ 255) : sb i = bbyt c ↔ sb i = c := by
  have := bbyt_256 c.toNat (by omega)
  rw [show ((c.toNat : Nat) : Int) = c by omega] at this
  have h2 := sby_b i
  rw [this]
  split <;> omega
def ixF (c : Int) : Nat → Int → Int
  | 0, _ => -1
  | k + 1, i => if sb i = c then i else ixF c k (i + 1)
theorem l_ixc {M : Me} {Q : Int → Me → Prop} {c : Int} (hc : 0 ≤ c ∧ c ≤ 255) {R : Int} (h : Q R M) : ∀ (k : Nat) (i : Int), 0 ≤ i → i + k = 11 → ixF c k i = R → Go (km 0 mJ1_indexOfChar_4cfef Q) 7 [some (.inr 1002), none, none, some (.inl 11), some (.inl (bbyt c)), some (.inl i)] [] M := by
  intro k
  induction k with
  | zero =>
    intro i i0 ik hR
    simp only [ixF] at hR
    exact s_J1_indexOfChar_4cfef_7 _ _ _ M ⟨fun _ => by rw [hR]; exact h, fun z => by exfalso; omega⟩
  | succ k ih =>
    intro i i0 ik hR
    simp only [ixF] at hR
    refine s_J1_indexOfChar_4cfef_7 _ _ _ M ⟨fun z => by exfalso; omega, fun _ => ⟨⟨i0, by omega⟩, fun z => ⟨by unfold cn; omega, ?_⟩, fun z => ?_⟩⟩
    · rw [if_neg (fun y => z ((sb_eq hc).mpr y))] at hR
      exact ih (i + 1) (by omega) (by omega) hR
    · rw [if_pos ((sb_eq hc).mp z)] at hR
      rw [hR]; exact h
theorem ixF_fct (c : Int) : ixF c 11 0 = fct c := by
  simp only [ixF, sb, fct]
  by_cases h0 : c = 99
  · subst h0; rfl
  by_cases h1 : c = 115
  · subst h1; rfl
  by_cases h2 : c = 109
  · subst h2; rfl
  by_cases h3 : c = 104
  · subst h3; rfl
  by_cases h4 : c = 108
  · subst h4; rfl
  by_cases h5 : c = 97
  · subst h5; rfl
  by_cases h6 : c = 107
  · subst h6; rfl
  by_cases h7 : c = 100
  · subst h7; rfl
  by_cases h8 : c = 110
  · subst h8; rfl
  by_cases h9 : c = 116
  · subst h9; rfl
  by_cases h10 : c = 119
  · subst h10; rfl
  rw [if_neg h0, if_neg h1, if_neg h2, if_neg h3, if_neg h4, if_neg h5, if_neg h6, if_neg h7, if_neg h8, if_neg h9, if_neg h10]
  simp
  omega
theorem p_ixc {M : Me} {Q : Int → Me → Prop} {c : Int} (hc : 0 ≤ c ∧ c ≤ 255) (h : Q (fct c) M) : Calls 0 mJ1_indexOfChar_4cfef [.inr 1002, .inl c, .inl 0, .inl 11] M Q :=
  e_J1_indexOfChar_4cfef (l_ixc hc h 11 0 (by omega) (by omega) (ixF_fct c))
