/-! ===== the trees of the class: sorted, each once ===== -/
def srt (f : Int → Int) (s : Int) : Prop := ∀ i j, 0 ≤ i → i < j → j < s → f i < f j
def memF (f : Int → Int) (s x : Int) : Prop := ∃ i, 0 ≤ i ∧ i < s ∧ f i = x
def Fr57 (M M' : Me) : Prop := ∀ k i, k ≠ 57 → k ≠ 58 → M' k i = M k i
def putPost (M : Me) (a : Int) (M' : Me) : Prop := Fr57 M M' ∧ 0 ≤ M' 57 3 ∧ M' 57 3 ≤ M 57 3 + 1 ∧ srt (M' 58) (M' 57 3) ∧ ∀ x, memF (M' 58) (M' 57 3) x ↔ (memF (M 58) (M 57 3) x ∨ x = a)
theorem l_X2_put_76 {Q : Int → Me → Prop} {M0 : Me} {a t s : Int} (hs : M0 57 3 = s) (hs32 : s < 32) (hso : srt (M0 58) s) (t0 : 0 ≤ t) (ts : t ≤ s) (hlo : ∀ j, 0 ≤ j → j < t → M0 58 j < a) (hhi : ∀ j, t ≤ j → j < s → a < M0 58 j) (hQ : ∀ M', putPost M0 a M' → Q 0 M') :
    ∀ (k : Nat) (x : Int) (M : Me), x = t + k → x ≤ s → Fr57 M0 M → M 57 3 = s → (∀ j, 0 ≤ j → j ≤ x → j < s → M 58 j = M0 58 j) → (∀ j, x < j → j ≤ s → M 58 j = M0 58 (j - 1)) → Go (km 0 mX2_put Q) 76 [some (.inr 57), some (.inl a), some (.inl t), none, some (.inl x)] [] M := by
  intro k
  induction k with
  | zero =>
    intro x M hx hxs f h3 h1 h2
    have ext : x = t := by omega
    refine s_X2_put_76 a t x M ⟨fun _ => ⟨by omega, by rw [h3]; unfold cn; omega, hQ _ ?_⟩, fun v => by exfalso; omega⟩
    rw [h3]
    have g1 : ∀ j, mput (mput M 58 t a) 57 3 (s + 1) 58 j = if j = t then a else M 58 j := fun j => by
      rw [mput_ne _ _ _ _ (by decide)]
      unfold mput
      by_cases q : j = t <;> simp [q]
    have g2 : mput (mput M 58 t a) 57 3 (s + 1) 57 3 = s + 1 := mput_same _ _ _ _
    have val : ∀ j, 0 ≤ j → j < s + 1 → mput (mput M 58 t a) 57 3 (s + 1) 58 j = if j < t then M0 58 j else if j = t then a else M0 58 (j - 1) := fun j j0 j1 => by
      rw [g1]
      by_cases q1 : j < t
      · rw [if_neg (by omega), if_pos q1]; exact h1 j j0 (by omega) (by omega)
      · rw [if_neg q1]
        by_cases q2 : j = t
        · rw [if_pos q2, if_pos q2]
        · rw [if_neg q2, if_neg q2]; exact h2 j (by omega) (by omega)
    refine ⟨fun k i a1 a2 => (mput_ne _ _ _ _ a1).trans ((mput_ne _ _ _ _ a2).trans (f k i a1 a2)), by omega, by omega, ?_, ?_⟩
    · rw [g2]
      intro i j i0 ij js
      rw [val i i0 (by omega), val j (by omega) js]
      by_cases p1 : j < t
      · rw [if_pos (by omega), if_pos p1]; exact hso i j i0 ij (by omega)
      · rw [if_neg p1]
        by_cases p2 : j = t
        · rw [if_pos p2, if_pos (by omega)]; exact hlo i i0 (by omega)
        · rw [if_neg p2]
          by_cases q1 : i < t
          · rw [if_pos q1]; exact hso i (j - 1) i0 (by omega) (by omega)
          · rw [if_neg q1]
            by_cases q2 : i = t
            · rw [if_pos q2]; exact hhi (j - 1) (by omega) (by omega)
            · rw [if_neg q2]; exact hso (i - 1) (j - 1) (by omega) (by omega) (by omega)
    · intro y
      rw [g2, hs]
      constructor
      · rintro ⟨j, j0, j1, j2⟩
        rw [val j j0 j1] at j2
        by_cases p1 : j < t
        · rw [if_pos p1] at j2; exact Or.inl ⟨j, j0, by omega, j2⟩
        · rw [if_neg p1] at j2
          by_cases p2 : j = t
          · rw [if_pos p2] at j2; exact Or.inr j2.symm
          · rw [if_neg p2] at j2; exact Or.inl ⟨j - 1, by omega, by omega, j2⟩
      · rintro (⟨j, j0, j1, j2⟩ | rfl)
        · by_cases p1 : j < t
          · exact ⟨j, j0, by omega, by rw [val j j0 (by omega), if_pos p1]; exact j2⟩
          · refine ⟨j + 1, by omega, by omega, ?_⟩
            rw [val (j + 1) (by omega) (by omega), if_neg (by omega), if_neg (by omega), show j + 1 - 1 = j by omega]
            exact j2
        · exact ⟨t, t0, by omega, by rw [val t t0 (by omega), if_neg (by omega), if_pos rfl]⟩
  | succ k ih =>
    intro x M hx hxs f h3 h1 h2
    refine s_X2_put_76 a t x M ⟨fun v => by exfalso; omega, fun _ => ⟨by unfold cn; omega, by omega, by omega, by unfold cn; omega, ?_⟩⟩
    refine ih (x + -1) _ (by omega) (by omega) (fun k i a1 a2 => (mput_ne _ _ _ _ a2).trans (f k i a1 a2)) (by rw [mput_ne _ _ _ _ (by decide)]; exact h3) (fun j j0 j1 j2 => ?_) (fun j j0 j1 => ?_)
    · rw [mput_ni _ _ _ _ (by omega)]; exact h1 j j0 (by omega) j2
    · by_cases q : j = x
      · subst q
        rw [mput_same]
        exact h1 (j - 1) (by omega) (by omega) (by omega)
      · rw [mput_ni _ _ _ _ q]; exact h2 j (by omega) j1
theorem l_X2_put_4 {Q : Int → Me → Prop} {M : Me} {a : Int} (h0 : 0 ≤ M 57 3) (h32 : M 57 3 < 32) (hso : srt (M 58) (M 57 3)) (hQ : ∀ M', putPost M a M' → Q 0 M') :
    ∀ (k : Nat) (t i : Int), 0 ≤ t → t ≤ i → i + k = M 57 3 → (∀ j, 0 ≤ j → j < t → M 58 j < a) → (∀ j, t ≤ j → j < i → a ≤ M 58 j) → Go (km 0 mX2_put Q) 4 [some (.inr 57), some (.inl a), some (.inl t), some (.inl i), none] [] M := by
  intro k
  induction k with
  | zero =>
    intro t i t0 ti hi hlo hhi
    have here : (t < M 57 3 → M 58 t ≠ a) → Go (km 0 mX2_put Q) 76 [some (.inr 57), some (.inl a), some (.inl t), none, some (.inl (M 57 3))] [] M := fun q => by
      refine l_X2_put_76 (M0 := M) (s := M 57 3) rfl h32 hso t0 (by omega) hlo (fun j j0 j1 => ?_) hQ (M 57 3 - t).toNat (M 57 3) M (by omega) (Int.le_refl _) (fun _ _ _ _ => rfl) rfl (fun _ _ _ _ => rfl) (fun j a b => by omega)
      have h1 := hhi j j0 (by omega)
      by_cases e : j = t
      · subst e; have := q j1; omega
      · have := hso t j t0 (by omega) j1
        have := hhi t (Int.le_refl _) (by omega)
        omega
    have there : t < M 57 3 → M 58 t = a → Q 0 M := fun q1 q2 => hQ M ⟨fun _ _ _ _ => rfl, h0, by omega, hso, fun x => ⟨fun q => Or.inl q, fun q => by
      rcases q with q | rfl
      · exact q
      · exact ⟨t, t0, q1, q2⟩⟩⟩
    exact s_X2_put_4 a t i M ⟨fun _ => ⟨fun v => ⟨fun _ => here (fun q => by omega), fun v => by exfalso; omega⟩, fun v => ⟨by omega, fun v2 => ⟨fun _ => here (fun _ => v2), fun v => by exfalso; omega⟩, fun v2 => there v v2⟩⟩, fun v => by exfalso; omega⟩
  | succ k ih =>
    intro t i t0 ti hi hlo hhi
    refine s_X2_put_4 a t i M ⟨fun v => by exfalso; omega, fun _ => ⟨by omega, fun v => ⟨by unfold cn; omega, ih t (i + 1) t0 (by omega) (by omega) hlo (fun j j0 j1 => ?_)⟩, fun v => ⟨by unfold cn; omega, by unfold cn; omega, ih (i + 1) (i + 1) (by omega) (Int.le_refl _) (by omega) (fun j j0 j1 => ?_) (fun j j0 j1 => by omega)⟩⟩⟩
    · by_cases e : j = i
      · subst e; exact v
      · exact hhi j j0 (by omega)
    · by_cases e : j = i
      · subst e; exact v
      · have := hso j i j0 (by omega) (by omega); omega
theorem p_X2_put {Q : Int → Me → Prop} {M : Me} {a : Int} (h0 : 0 ≤ M 57 3) (h32 : M 57 3 < 32) (hso : srt (M 58) (M 57 3)) (hQ : ∀ M', putPost M a M' → Q 0 M') : Calls 0 mX2_put [.inr 57, .inl a] M Q :=
  e_X2_put (l_X2_put_4 h0 h32 hso hQ (M 57 3).toNat 0 0 (by omega) (by omega) (by omega) (fun j a b => by omega) (fun j a b => by omega))
/-- a place with a tree -/
def treeP (tr st pc : Int → Int) (n x : Int) : Prop := ∃ c, 0 ≤ c ∧ c < n ∧ (tr c = x ∨ (st c = 3 ∧ pc c = x))
theorem l_X2_gather {Q : Int → Me → Prop} {M0 : Me} (h16 : M0 3 8 ≤ 16) (hQ : ∀ M', Fr57 M0 M' → 0 ≤ M' 57 3 → M' 57 3 ≤ 32 → srt (M' 58) (M' 57 3) → (∀ x, memF (M' 58) (M' 57 3) x ↔ treeP (M0 4) (M0 38) (M0 39) (M0 3 8) x) → Q 0 M') :
    ∀ (k : Nat) (c : Int) (M : Me), 0 ≤ c → c + k = M0 3 8 → Fr57 M0 M → 0 ≤ M 57 3 → M 57 3 ≤ 2 * c → srt (M 58) (M 57 3) → (∀ x, memF (M 58) (M 57 3) x ↔ treeP (M0 4) (M0 38) (M0 39) c x) → Go (km 1 mX2_gather Q) 7 [some (.inr 57), some (.inr 3), some (.inr 37), some (.inl c)] [] M := by
  intro k
  induction k with
  | zero =>
    intro c M c0 hc f s0 s2 hso hmem
    have : c = M0 3 8 := by omega
    subst this
    refine s_X2_gather_7 _ M ?_
    rw [f 3 8 (by decide) (by decide)]
    exact ⟨fun _ => hQ M f s0 (by omega) hso hmem, fun v => by exfalso; omega⟩
  | succ k ih =>
    intro c M c0 hc f s0 s2 hso hmem
    refine s_X2_gather_7 c M ?_
    rw [f 3 8 (by decide) (by decide), f 4 c (by decide) (by decide)]
    refine ⟨fun v => by exfalso; omega, fun _ => ⟨by omega, p_X2_put s0 (by omega) hso (fun M1 p1 => ?_)⟩⟩
    obtain ⟨f1, a0, a1, a2, a3⟩ := p1
    have e38 : M1 38 c = M0 38 c := by rw [f1 38 c (by decide) (by decide), f 38 c (by decide) (by decide)]
    have e39 : M1 39 c = M0 39 c := by rw [f1 39 c (by decide) (by decide), f 39 c (by decide) (by decide)]
    rw [e38, e39]
    refine ⟨by omega, fun v => ⟨by unfold cn; omega, ?_⟩, fun v => ⟨by omega, p_X2_put a0 (by omega) a2 (fun M2 p2 => ⟨by unfold cn; omega, ?_⟩)⟩⟩
    · refine ih (c + 1) M1 (by omega) (by omega) (fun k i h1 h2 => (f1 k i h1 h2).trans (f k i h1 h2)) a0 (by omega) a2 (fun x => ?_)
      rw [a3 x, hmem x]
      constructor
      · rintro (⟨d, d0, d1, d2⟩ | rfl)
        · exact ⟨d, d0, by omega, d2⟩
        · exact ⟨c, c0, by omega, Or.inl rfl⟩
      · rintro ⟨d, d0, d1, d2⟩
        by_cases e : d = c
        · subst e
          rcases d2 with q | q
          · exact Or.inr q.symm
          · exact absurd q.1 v
        · exact Or.inl ⟨d, d0, by omega, d2⟩
    · obtain ⟨f2, b0, b1, b2, b3⟩ := p2
      refine ih (c + 1) M2 (by omega) (by omega) (fun k i h1 h2 => (f2 k i h1 h2).trans ((f1 k i h1 h2).trans (f k i h1 h2))) b0 (by omega) b2 (fun x => ?_)
      rw [b3 x, a3 x, hmem x]
      constructor
      · rintro ((⟨d, d0, d1, d2⟩ | rfl) | rfl)
        · exact ⟨d, d0, by omega, d2⟩
        · exact ⟨c, c0, by omega, Or.inl rfl⟩
        · exact ⟨c, c0, by omega, Or.inr ⟨v, rfl⟩⟩
      · rintro ⟨d, d0, d1, d2⟩
        by_cases e : d = c
        · subst e
          rcases d2 with q | q
          · exact Or.inl (Or.inr q.symm)
          · exact Or.inr q.2.symm
        · exact Or.inl (Or.inl ⟨d, d0, by omega, d2⟩)
theorem p_X2_gather {Q : Int → Me → Prop} {M : Me} (h0 : 0 ≤ M 3 8) (h16 : M 3 8 ≤ 16) (hQ : ∀ M', Fr57 M M' → 0 ≤ M' 57 3 → M' 57 3 ≤ 32 → srt (M' 58) (M' 57 3) → (∀ x, memF (M' 58) (M' 57 3) x ↔ treeP (M 4) (M 38) (M 39) (M 3 8) x) → Q 0 M') : Calls 1 mX2_gather [.inr 57, .inr 3, .inr 37] M Q := by
  refine e_X2_gather (l_X2_gather (M0 := M) h16 hQ (M 3 8).toNat 0 _ (by omega) (by omega) (fun k i h1 h2 => mput_ne _ _ _ _ h1) (by rw [mput_same]; omega) (by rw [mput_same]; omega) (fun i j a b c => by rw [mput_same] at c; omega) (fun x => ?_))
  rw [mput_same]
  constructor
  · rintro ⟨i, a, b, -⟩; omega
  · rintro ⟨i, a, b, -⟩; omega
