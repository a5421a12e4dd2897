/-! ===== keep, undo, check ===== -/
def cpM (M : Me) (p o : Nat) (n : Int) : Me := fun k i => if k = o ∧ (i = 5 ∨ i = 6) then M p i else if o + 1 ≤ k ∧ k ≤ o + 5 ∧ 0 ≤ i ∧ i < n then M (p + (k - o)) i else M k i
theorem p_X8_copyOf {o p : Nat} (ho : isX8 o) (hp : isX8 p) (hne : o ≠ p) {n : Int} (hn : 0 ≤ n ∧ n ≤ 16) {M : Me} {Q : Int → Me → Prop} (h : Q 0 (cpM M p o n)) : Calls 1 mX8_copyOf [.inr o, .inr p, .inl n] M Q := by
  have e : max 0 (min n 16) = n := by omega
  have key : ∀ M', M' = cpM M p o n → Q 0 M' := by rintro _ rfl; exact h
  refine e_X8_copyOf ho hp ?_
  rw [e]
  refine ⟨by omega, by omega, by omega, by omega, by omega, key _ ?_⟩
  funext k i
  rcases ho with rfl | rfl | rfl <;> rcases hp with rfl | rfl | rfl <;> first
    | exact absurd rfl hne
    | (by_cases i5 : i = 5
       · subst i5
         first
          | (rcases (show k = 37 ∨ k = 38 ∨ k = 39 ∨ k = 40 ∨ k = 41 ∨ k = 42 ∨ k = 43 ∨ k = 44 ∨ k = 45 ∨ k = 46 ∨ k = 47 ∨ k = 48 ∨ k = 49 ∨ k = 50 ∨ k = 51 ∨ k = 52 ∨ k = 53 ∨ k = 54 ∨ (k < 37 ∨ 54 < k) by omega) with rfl | rfl | rfl | rfl | rfl | rfl | rfl | rfl | rfl | rfl | rfl | rfl | rfl | rfl | rfl | rfl | rfl | rfl | hk <;> first
              | (simp [mput, mcopy, cpM]; done)
              | (have q : ∀ z, 37 ≤ z → z ≤ 54 → k ≠ z := by omega
                 simp [mput, mcopy, cpM, q 37, q 38, q 39, q 40, q 41, q 42, q 43, q 44, q 45, q 46, q 47, q 48, q 49, q 50, q 51, q 52, q 53, q 54]; omega))
       · by_cases i6 : i = 6
         · subst i6
           rcases (show k = 37 ∨ k = 38 ∨ k = 39 ∨ k = 40 ∨ k = 41 ∨ k = 42 ∨ k = 43 ∨ k = 44 ∨ k = 45 ∨ k = 46 ∨ k = 47 ∨ k = 48 ∨ k = 49 ∨ k = 50 ∨ k = 51 ∨ k = 52 ∨ k = 53 ∨ k = 54 ∨ (k < 37 ∨ 54 < k) by omega) with rfl | rfl | rfl | rfl | rfl | rfl | rfl | rfl | rfl | rfl | rfl | rfl | rfl | rfl | rfl | rfl | rfl | rfl | hk <;> first
              | (simp [mput, mcopy, cpM]; done)
              | (have q : ∀ z, 37 ≤ z → z ≤ 54 → k ≠ z := by omega
                 simp [mput, mcopy, cpM, q 37, q 38, q 39, q 40, q 41, q 42, q 43, q 44, q 45, q 46, q 47, q 48, q 49, q 50, q 51, q 52, q 53, q 54]; omega)
         · rcases (show k = 37 ∨ k = 38 ∨ k = 39 ∨ k = 40 ∨ k = 41 ∨ k = 42 ∨ k = 43 ∨ k = 44 ∨ k = 45 ∨ k = 46 ∨ k = 47 ∨ k = 48 ∨ k = 49 ∨ k = 50 ∨ k = 51 ∨ k = 52 ∨ k = 53 ∨ k = 54 ∨ (k < 37 ∨ 54 < k) by omega) with rfl | rfl | rfl | rfl | rfl | rfl | rfl | rfl | rfl | rfl | rfl | rfl | rfl | rfl | rfl | rfl | rfl | rfl | hk <;> first
              | (simp [mput, mcopy, cpM, i5, i6]; done)
              | (have q : ∀ z, 37 ≤ z → z ≤ 54 → k ≠ z := by omega
                 simp [mput, mcopy, cpM, i5, i6, q 37, q 38, q 39, q 40, q 41, q 42, q 43, q 44, q 45, q 46, q 47, q 48, q 49, q 50, q 51, q 52, q 53, q 54]; omega))
theorem l_X12_copies {a b : Nat} (ha : lay[a]? = some (.inl (false, 82))) (hb : lay[b]? = some (.inl (false, 82))) (hne : a ≠ b) {M : Me} {Q : Int → Me → Prop} (h : Q 0 (mcopy M a b 82)) : ∀ (k : Nat) (c : Int), 0 ≤ c → c + k = 82 → Go (km 0 mX12_copies Q) 2 [some (.inr a), some (.inr b), some (.inl c)] [] (mcopy M a b c) := by
  intro k
  induction k with
  | zero =>
    intro c c0 hk
    have : c = 82 := by omega
    subst this
    exact s_X12_copies_2 ha hb 82 _ ⟨fun _ => h, fun v => by exfalso; omega⟩
  | succ k ih =>
    intro c c0 hk
    refine s_X12_copies_2 ha hb c _ ⟨fun v => by exfalso; omega, fun _ => ⟨by omega, by omega, by unfold cn; omega, ?_⟩⟩
    have e : mput (mcopy M a b c) b c (mcopy M a b c a c) = mcopy M a b (c + 1) := by
      funext x i
      unfold mput
      rw [mcopy_ne M _ _ hne]
      unfold mcopy
      by_cases hx : x = b
      · by_cases hi : i = c
        · subst hi; simp [hx, c0]
          intro q; omega
        · simp [hx, hi]
          by_cases h1 : 0 ≤ i ∧ i < c
          · rw [if_pos h1, if_pos (by omega)]
          · rw [if_neg h1, if_neg (by omega)]
      · simp [hx]
    rw [e]
    exact ih (c + 1) (by omega) (by omega)
theorem p_X12_copies {a b : Nat} (ha : lay[a]? = some (.inl (false, 82))) (hb : lay[b]? = some (.inl (false, 82))) (hne : a ≠ b) {M : Me} {Q : Int → Me → Prop} (h : Q 0 (mcopy M a b 82)) : Calls 0 mX12_copies [.inr a, .inr b] M Q := by
  refine e_X12_copies ha hb ?_
  have := l_X12_copies ha hb hne h 82 0 (by omega) (by omega)
  have e : mcopy M a b 0 = M := by
    funext x i
    unfold mcopy
    rw [if_neg (by omega)]
  rw [e] at this
  exact this
theorem x_keep {M : Me} {Q : Int → Me → Prop} (h0 : 0 ≤ M 3 8) (h1 : M 3 8 ≤ 16) (h : Q (M 37 5) (mput (mput (cpM M 37 43 (M 3 8)) 0 14 (M 3 8)) 0 13 1)) : Calls 2 mX11_keep [.inr 0] M Q := by
  refine e_X11_keep (p_X8_copyOf (Or.inr (Or.inl rfl)) (Or.inl rfl) (by decide) ⟨h0, h1⟩ ?_)
  have e1 : cpM M 37 43 (M 3 8) 37 5 = M 37 5 := by simp [cpM]
  have e2 : cpM M 37 43 (M 3 8) 3 8 = M 3 8 := by simp [cpM]
  rw [e1, e2]
  exact h
theorem m_keep {M : Me} {Q : Int → Me → Prop} (h : Q (M 77 80) (mcopy (mput (mput M 76 64 1) 76 65 (M 76 11)) 77 79 82)) : Calls 1 mX12_keep [.inr 76] M Q := by
  refine e_X12_keep (p_X12_copies rfl rfl (by decide) ?_)
  have e1 : mcopy (mput (mput M 76 64 1) 76 65 (M 76 11)) 77 79 82 77 80 = M 77 80 := by
    rw [mcopy_ne _ _ _ (by decide), mput_ne _ _ _ _ (by decide), mput_ne _ _ _ _ (by decide)]
  rw [e1]
  exact h
theorem x_undo {M : Me} {Q : Int → Me → Prop} (h0 : 0 ≤ M 3 8) (h1 : M 3 8 ≤ 16) (hk : M 0 13 ≠ 0 → 0 ≤ M 0 14) (hy : M 0 13 ≠ 0 → Q 1 (cpM M 43 37 (min (M 0 14) (M 3 8)))) (hn : M 0 13 = 0 → Q 0 M) : Calls 2 mX11_undo [.inr 0] M Q := by
  refine e_X11_undo ⟨fun v => p_X8_copyOf (Or.inl rfl) (Or.inr (Or.inl rfl)) (by decide) (by have := hk v; omega) (hy v), hn⟩
def und (M : Me) (c r : Int) : Me := fun k i => if k = 77 ∧ 0 ≤ i ∧ i < 80 ∧ (i % 16 < c ∨ (i % 16 = c ∧ i < r)) then M 79 i else M k i
theorem und_79 (M : Me) (c r i : Int) : und M c r 79 i = M 79 i := by simp [und]
theorem und_76 (M : Me) (c r i : Int) : und M c r 76 i = M 76 i := by simp [und]
theorem l_X12_undo_28 {M : Me} {Q : Int → Me → Prop} {c : Int} (hc : 0 ≤ c ∧ c < 16) (hk : Go (km 1 mX12_undo Q) 11 [some (.inr 76), some (.inl (c + 1)), none] [] (und M (c + 1) 0)) : ∀ (k : Nat) (r : Int), 0 ≤ r → r % 16 = 0 → r + 16 * k = 80 → Go (km 1 mX12_undo Q) 28 [some (.inr 76), some (.inl c), some (.inl r)] [] (und M c r) := by
  intro k
  induction k with
  | zero =>
    intro r r0 rm hr
    have e : und M c r = und M (c + 1) 0 := by
      funext x i
      unfold und
      by_cases h1 : x = 77 ∧ 0 ≤ i ∧ i < 80 ∧ (i % 16 < c ∨ (i % 16 = c ∧ i < r))
      · rw [if_pos h1, if_pos (by omega)]
      · rw [if_neg h1, if_neg (by omega)]
    rw [← e] at hk
    exact s_X12_undo_28 c r _ ⟨fun _ => ⟨by unfold cn; omega, hk⟩, fun v => by exfalso; omega⟩
  | succ k ih =>
    intro r r0 rm hr
    refine s_X12_undo_28 c r _ ⟨fun v => by exfalso; omega, fun _ => ⟨by unfold cn; omega, by unfold cn; omega, by omega, by omega, by unfold cn; omega, ?_⟩⟩
    have e : mput (und M c r) 77 (r + c) (und M c r 79 (r + c)) = und M c (r + 16) := by
      funext x i
      rw [und_79]
      unfold mput und
      by_cases h1 : x = 77 ∧ i = r + c
      · obtain ⟨rfl, rfl⟩ := h1
        rw [if_pos ⟨rfl, rfl⟩, if_pos (by omega)]
      · rw [if_neg h1]
        by_cases h2 : x = 77 ∧ 0 ≤ i ∧ i < 80 ∧ (i % 16 < c ∨ (i % 16 = c ∧ i < r))
        · rw [if_pos h2, if_pos (by omega)]
        · rw [if_neg h2, if_neg (by omega)]
    rw [e]
    exact ih (r + 16) (by omega) (by omega) (by omega)
theorem l_X12_undo_11 {M : Me} {Q : Int → Me → Prop} {m : Int} (hm : m = min (M 76 11) (M 76 65)) (hm16 : m ≤ 16) (h : Q 1 (mput (mput (und M m 0) 77 80 (M 79 80)) 77 81 (M 79 81))) : ∀ (k : Nat) (c : Int), 0 ≤ c → c + k = m → Go (km 1 mX12_undo Q) 11 [some (.inr 76), some (.inl c), none] [] (und M c 0) := by
  intro k
  induction k with
  | zero =>
    intro c c0 hk
    have : c = m := by omega
    subst this
    refine s_X12_undo_11 c _ ?_
    rw [und_76, und_76, und_79, und_79]
    exact ⟨fun _ => h, fun v => by exfalso; omega⟩
  | succ k ih =>
    intro c c0 hk
    refine s_X12_undo_11 c _ ?_
    rw [und_76, und_76]
    exact ⟨fun v => by exfalso; omega, fun _ => l_X12_undo_28 (by omega) (ih (c + 1) (by omega) (by omega)) 5 0 (by omega) (by omega) (by omega)⟩
theorem m_undo {M : Me} {Q : Int → Me → Prop} (h0 : 0 ≤ M 76 11) (h1 : M 76 11 ≤ 16) (hk : M 76 64 ≠ 0 → 0 ≤ M 76 65) (hy : M 76 64 ≠ 0 → Q 1 (mput (mput (und M (min (M 76 11) (M 76 65)) 0) 77 80 (M 79 80)) 77 81 (M 79 81))) (hn : M 76 64 = 0 → Q 0 M) : Calls 1 mX12_undo [.inr 76] M Q := by
  refine e_X12_undo ⟨fun v => ?_, hn⟩
  have := hk v
  have g := l_X12_undo_11 rfl (by omega) (hy v) (min (M 76 11) (M 76 65)).toNat 0 (by omega) (by omega)
  have e : und M 0 0 = M := by
    funext x i
    unfold und
    rw [if_neg (by omega)]
  rw [e] at g
  exact g
