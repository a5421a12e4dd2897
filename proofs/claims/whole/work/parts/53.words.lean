/-! ===== words ===== -/
def updf (f : Int → Int) (x : Int) : Int → Int := fun j => if j = x then f x + 1 else f j
def rdw (t : Int → Int) : Nat → Int → (Int → Int) → Int → Int → Option ((Int → Int) × Int)
  | 0, _, nd, w, l => if l = 0 then some (nd, w) else none
  | k + 1, i, nd, w, l => if 8 ≤ w then none else if t i = 255 then (if l = 0 then none else rdw t k (i + 1) nd (w + 1) 0) else if 0 ≤ t i ∧ t i < 16 then rdw t k (i + 1) (updf nd (16 * w + t i)) w (l + 1) else none
theorem rdw_full {t : Int → Int} {k : Nat} {i w l : Int} {nd : Int → Int} (h : 8 ≤ w) : rdw t (k + 1) i nd w l = none := by simp only [rdw, if_pos h]
theorem rdw_end0 {t : Int → Int} {k : Nat} {i w l : Int} {nd : Int → Int} (h2 : t i = 255) (h3 : l = 0) : rdw t (k + 1) i nd w l = none := by
  by_cases h : 8 ≤ w
  · exact rdw_full h
  · simp only [rdw, if_neg h, if_pos h2, if_pos h3]
theorem rdw_end {t : Int → Int} {k : Nat} {i w l : Int} {nd : Int → Int} (h : w < 8) (h2 : t i = 255) (h3 : l ≠ 0) : rdw t (k + 1) i nd w l = rdw t k (i + 1) nd (w + 1) 0 := by simp only [rdw, if_neg (show ¬ 8 ≤ w by omega), if_pos h2, if_neg h3]
theorem rdw_let {t : Int → Int} {k : Nat} {i w l : Int} {nd : Int → Int} (h : w < 8) (h2 : 0 ≤ t i ∧ t i < 16) : rdw t (k + 1) i nd w l = rdw t k (i + 1) (updf nd (16 * w + t i)) w (l + 1) := by simp only [rdw, if_neg (show ¬ 8 ≤ w by omega), if_neg (show ¬ t i = 255 by omega), if_pos h2]
theorem rdw_bad {t : Int → Int} {k : Nat} {i w l : Int} {nd : Int → Int} (h2 : t i ≠ 255) (h3 : ¬ (0 ≤ t i ∧ t i < 16)) : rdw t (k + 1) i nd w l = none := by
  by_cases h : 8 ≤ w
  · exact rdw_full h
  · simp only [rdw, if_neg h, if_neg h2, if_neg h3]
abbrev Gw_X7_read (Q : Int → Me → Prop) (n l i : Int) (M : Me) : Prop := Go (km 1 mX7_read Q) 34 [some (.inr 66), some (.inr 1), some (.inl n), some (.inl l), some (.inl i), none, none, none] [] M
abbrev Gw_X12_readsWords (Q : Int → Me → Prop) (n l i : Int) (M : Me) : Prop := Go (km 1 mX12_readsWords Q) 31 [some (.inr 76), some (.inl n), some (.inl l), some (.inl i), none] [] M
def Fw_X7_read (M M' : Me) : Prop := ∀ k i, ¬ (k = 66 ∧ i = 2) → k ≠ 68 → M' k i = M k i
theorem l_X7_read {Q : Int → Me → Prop} {t : Int → Int} {n : Int} (hn : n ≤ 60) : ∀ (k : Nat) (i l : Int) (M : Me) (nd : Int → Int), 0 ≤ i → i + k = n → n ≤ M 1 1 → M 1 1 ≤ 260 → 0 ≤ M 66 2 → M 66 2 ≤ 8 → 0 ≤ l → l ≤ i → (M 66 2 = 8 → l = 0) → (∀ j, 0 ≤ j → j < n → M 2 j = t j) → (∀ j, 0 ≤ t j) → (∀ j, 0 ≤ j → j < 128 → M 68 j = nd j ∧ 0 ≤ nd j ∧ nd j ≤ i) →
    (rdw t k i nd (M 66 2) l = none → ∀ M', Fw_X7_read M M' → Q 0 M') → (∀ nd' w', rdw t k i nd (M 66 2) l = some (nd', w') → ∀ M', Fw_X7_read M M' → M' 66 2 = w' → (∀ j, 0 ≤ j → j < 128 → M' 68 j = nd' j ∧ 0 ≤ nd' j ∧ nd' j ≤ n) → 0 ≤ w' → w' ≤ 8 → Q 1 M') → Gw_X7_read Q n l i M := by
  intro k
  induction k with
  | zero =>
    intro i l M nd i0 ik g1 g2 s0 s8 l0 li l8 ht tn hnd hN hS
    refine s_X7_read_34 n l i M ⟨fun _ => ⟨fun v => ?_, fun v => ?_⟩, fun v => by exfalso; omega⟩
    · exact hN (by simp only [rdw, if_neg v]) M (fun _ _ _ _ => rfl)
    · exact hS nd _ (by simp only [rdw, if_pos v]) M (fun _ _ _ _ => rfl) rfl (fun j a b => by have := hnd j a b; exact ⟨this.1, this.2.1, by omega⟩) s0 s8
  | succ k ih =>
    intro i l M nd i0 ik g1 g2 s0 s8 l0 li l8 ht tn hnd hN hS
    have hti := ht i i0 (by omega)
    have hti0 := tn i
    have hend : M 66 2 < 8 → t i = 255 → l ≠ 0 → Gw_X7_read Q n 0 (i + 1) (mput M 66 2 (M 66 2 + 1)) := fun a b c => by
      have e := rdw_end (t := t) (k := k) (i := i) (nd := nd) a b c
      have f : Fw_X7_read M (mput M 66 2 (M 66 2 + 1)) := fun k i h1 h2 => by unfold mput; rw [if_neg h1]
      have es : mput M 66 2 (M 66 2 + 1) 66 2 = M 66 2 + 1 := mput_same _ _ _ _
      refine ih (i + 1) 0 _ nd (by omega) (by omega) (by rw [mput_ne _ _ _ _ (by decide)]; exact g1) (by rw [mput_ne _ _ _ _ (by decide)]; exact g2) (by omega) (by omega) (by omega) (by omega) (fun _ => rfl) (fun j a b => ?_) tn (fun j a b => ?_) (fun h M' f' => ?_) (fun nd' w' h M' f' => ?_)
      · rw [mput_ne _ _ _ _ (by decide)]; exact ht j a b
      · rw [mput_ne _ _ _ _ (by decide)]; have := hnd j a b; exact ⟨this.1, this.2.1, by omega⟩
      · rw [es] at h
        exact hN (e.trans h) M' (fun k i h1 h2 => (f' k i h1 h2).trans (f k i h1 h2))
      · rw [es] at h
        exact hS nd' w' (e.trans h) M' (fun k i h1 h2 => (f' k i h1 h2).trans (f k i h1 h2))
    have hlet : M 66 2 < 8 → 0 ≤ t i ∧ t i < 16 → Gw_X7_read Q n (l + 1) (i + 1) (mput M 68 (16 * M 66 2 + t i) (M 68 (16 * M 66 2 + t i) + 1)) := fun a b => by
      have e := rdw_let (t := t) (k := k) (i := i) (l := l) (nd := nd) a b
      have hx := hnd (16 * M 66 2 + t i) (by omega) (by omega)
      have f : Fw_X7_read M (mput M 68 (16 * M 66 2 + t i) (M 68 (16 * M 66 2 + t i) + 1)) := fun k i h1 h2 => mput_ne _ _ _ _ h2
      have es : mput M 68 (16 * M 66 2 + t i) (M 68 (16 * M 66 2 + t i) + 1) 66 2 = M 66 2 := mput_ne _ _ _ _ (by decide)
      refine ih (i + 1) (l + 1) _ (updf nd (16 * M 66 2 + t i)) (by omega) (by omega) (by rw [mput_ne _ _ _ _ (by decide)]; exact g1) (by rw [mput_ne _ _ _ _ (by decide)]; exact g2) (by omega) (by omega) (by omega) (by omega) (fun _ => by omega) (fun j a b => ?_) tn (fun j a b => ?_) (fun h M' f' => ?_) (fun nd' w' h M' f' => ?_)
      · rw [mput_ne _ _ _ _ (by decide)]; exact ht j a b
      · unfold updf
        by_cases q : j = 16 * M 66 2 + t i
        · subst q
          rw [mput_same, if_pos rfl, hx.1]
          exact ⟨rfl, by omega, by omega⟩
        · rw [mput_ni _ _ _ _ q, if_neg q]
          have := hnd j a b
          exact ⟨this.1, this.2.1, by omega⟩
      · rw [es] at h
        exact hN (e.trans h) M' (fun k i h1 h2 => (f' k i h1 h2).trans (f k i h1 h2))
      · rw [es] at h
        exact hS nd' w' (e.trans h) M' (fun k i h1 h2 => (f' k i h1 h2).trans (f k i h1 h2))
    have hx : M 66 2 < 8 → t i < 16 → M 68 (16 * M 66 2 + t i) = nd (16 * M 66 2 + t i) ∧ 0 ≤ nd (16 * M 66 2 + t i) ∧ nd (16 * M 66 2 + t i) ≤ i := fun a b => hnd _ (by omega) (by omega)
    refine s_X7_read_34 n l i M ?_
    rw [hti]
    exact ⟨fun v1 => ⟨fun v2 => (by first | (exfalso; omega) | exact hN (by first | exact rdw_full (by omega) | exact rdw_end0 (by omega) (by omega) | exact rdw_bad (by omega) (by omega)) M (fun _ _ _ _ => rfl)), fun v2 => (by first | (exfalso; omega) | exact hN (by first | exact rdw_full (by omega) | exact rdw_end0 (by omega) (by omega) | exact rdw_bad (by omega) (by omega)) M (fun _ _ _ _ => rfl))⟩, fun v1 => ⟨by first | omega | (unfold cn; omega) | (have := hx (by omega) (by omega); unfold cn; omega), ⟨fun v2 => ⟨fun v3 => ⟨fun v4 => ⟨fun v5 => (by first | (exfalso; omega) | exact hN (by first | exact rdw_full (by omega) | exact rdw_end0 (by omega) (by omega) | exact rdw_bad (by omega) (by omega)) M (fun _ _ _ _ => rfl)), fun v5 => (by first | (exfalso; omega) | exact hN (by first | exact rdw_full (by omega) | exact rdw_end0 (by omega) (by omega) | exact rdw_bad (by omega) (by omega)) M (fun _ _ _ _ => rfl))⟩, fun v4 => ⟨fun v5 => ⟨fun v6 => (by first | (exfalso; omega) | exact hN (by first | exact rdw_full (by omega) | exact rdw_end0 (by omega) (by omega) | exact rdw_bad (by omega) (by omega)) M (fun _ _ _ _ => rfl)), fun v6 => (by first | (exfalso; omega) | exact hN (by first | exact rdw_full (by omega) | exact rdw_end0 (by omega) (by omega) | exact rdw_bad (by omega) (by omega)) M (fun _ _ _ _ => rfl))⟩, fun v5 => ⟨fun v6 => (by first | (exfalso; omega) | exact hN (by first | exact rdw_full (by omega) | exact rdw_end0 (by omega) (by omega) | exact rdw_bad (by omega) (by omega)) M (fun _ _ _ _ => rfl)), fun v6 => ⟨by first | omega | (unfold cn; omega) | (have := hx (by omega) (by omega); unfold cn; omega), ⟨by first | omega | (unfold cn; omega) | (have := hx (by omega) (by omega); unfold cn; omega), ⟨by first | omega | (unfold cn; omega) | (have := hx (by omega) (by omega); unfold cn; omega), ⟨by first | omega | (unfold cn; omega) | (have := hx (by omega) (by omega); unfold cn; omega), ⟨by first | omega | (unfold cn; omega) | (have := hx (by omega) (by omega); unfold cn; omega), ⟨by first | omega | (unfold cn; omega) | (have := hx (by omega) (by omega); unfold cn; omega), ⟨by first | omega | (unfold cn; omega) | (have := hx (by omega) (by omega); unfold cn; omega), (by first | (exfalso; omega) | exact hend (by omega) (by omega) (by omega) | exact hlet (by omega) (by omega))⟩⟩⟩⟩⟩⟩⟩⟩⟩⟩, fun v3 => ⟨fun v4 => ⟨fun v5 => (by first | (exfalso; omega) | exact hN (by first | exact rdw_full (by omega) | exact rdw_end0 (by omega) (by omega) | exact rdw_bad (by omega) (by omega)) M (fun _ _ _ _ => rfl)), fun v5 => ⟨fun v6 => (by first | (exfalso; omega) | exact hN (by first | exact rdw_full (by omega) | exact rdw_end0 (by omega) (by omega) | exact rdw_bad (by omega) (by omega)) M (fun _ _ _ _ => rfl)), fun v6 => ⟨by first | omega | (unfold cn; omega) | (have := hx (by omega) (by omega); unfold cn; omega), ⟨by first | omega | (unfold cn; omega) | (have := hx (by omega) (by omega); unfold cn; omega), (by first | (exfalso; omega) | exact hend (by omega) (by omega) (by omega) | exact hlet (by omega) (by omega))⟩⟩⟩⟩, fun v4 => ⟨fun v5 => ⟨fun v6 => (by first | (exfalso; omega) | exact hN (by first | exact rdw_full (by omega) | exact rdw_end0 (by omega) (by omega) | exact rdw_bad (by omega) (by omega)) M (fun _ _ _ _ => rfl)), fun v6 => ⟨fun v7 => (by first | (exfalso; omega) | exact hN (by first | exact rdw_full (by omega) | exact rdw_end0 (by omega) (by omega) | exact rdw_bad (by omega) (by omega)) M (fun _ _ _ _ => rfl)), fun v7 => ⟨by first | omega | (unfold cn; omega) | (have := hx (by omega) (by omega); unfold cn; omega), ⟨by first | omega | (unfold cn; omega) | (have := hx (by omega) (by omega); unfold cn; omega), (by first | (exfalso; omega) | exact hend (by omega) (by omega) (by omega) | exact hlet (by omega) (by omega))⟩⟩⟩⟩, fun v5 => ⟨fun v6 => (by first | (exfalso; omega) | exact hN (by first | exact rdw_full (by omega) | exact rdw_end0 (by omega) (by omega) | exact rdw_bad (by omega) (by omega)) M (fun _ _ _ _ => rfl)), fun v6 => ⟨fun v7 => (by first | (exfalso; omega) | exact hN (by first | exact rdw_full (by omega) | exact rdw_end0 (by omega) (by omega) | exact rdw_bad (by omega) (by omega)) M (fun _ _ _ _ => rfl)), fun v7 => ⟨by first | omega | (unfold cn; omega) | (have := hx (by omega) (by omega); unfold cn; omega), ⟨by first | omega | (unfold cn; omega) | (have := hx (by omega) (by omega); unfold cn; omega), (by first | (exfalso; omega) | exact hend (by omega) (by omega) (by omega) | exact hlet (by omega) (by omega))⟩⟩⟩⟩⟩⟩⟩, fun v2 => ⟨fun v3 => (by first | (exfalso; omega) | exact hN (by first | exact rdw_full (by omega) | exact rdw_end0 (by omega) (by omega) | exact rdw_bad (by omega) (by omega)) M (fun _ _ _ _ => rfl)), fun v3 => (by first | (exfalso; omega) | exact hN (by first | exact rdw_full (by omega) | exact rdw_end0 (by omega) (by omega) | exact rdw_bad (by omega) (by omega)) M (fun _ _ _ _ => rfl))⟩⟩⟩⟩
def Fw_X12_readsWords (M M' : Me) : Prop := ∀ k i, ¬ (k = 76 ∧ i = 55) → k ≠ 115 → M' k i = M k i
theorem l_X12_readsWords {Q : Int → Me → Prop} {t : Int → Int} {n : Int} (hn : n ≤ 60) : ∀ (k : Nat) (i l : Int) (M : Me) (nd : Int → Int), 0 ≤ i → i + k = n →  0 ≤ M 76 55 → M 76 55 ≤ 8 → 0 ≤ l → l ≤ i → (M 76 55 = 8 → l = 0) → (∀ j, 0 ≤ j → j < n → band (M 88 j) 255 = t j) → (∀ j, 0 ≤ t j) → (∀ j, 0 ≤ j → j < 128 → M 115 j = nd j ∧ 0 ≤ nd j ∧ nd j ≤ i) →
    (rdw t k i nd (M 76 55) l = none → ∀ M', Fw_X12_readsWords M M' → Q 0 M') → (∀ nd' w', rdw t k i nd (M 76 55) l = some (nd', w') → ∀ M', Fw_X12_readsWords M M' → M' 76 55 = w' → (∀ j, 0 ≤ j → j < 128 → M' 115 j = nd' j ∧ 0 ≤ nd' j ∧ nd' j ≤ n) → 0 ≤ w' → w' ≤ 8 → Q 1 M') → Gw_X12_readsWords Q n l i M := by
  intro k
  induction k with
  | zero =>
    intro i l M nd i0 ik  s0 s8 l0 li l8 ht tn hnd hN hS
    refine s_X12_readsWords_31 n l i M ⟨fun _ => ⟨fun v => ?_, fun v => ?_⟩, fun v => by exfalso; omega⟩
    · exact hN (by simp only [rdw, if_neg v]) M (fun _ _ _ _ => rfl)
    · exact hS nd _ (by simp only [rdw, if_pos v]) M (fun _ _ _ _ => rfl) rfl (fun j a b => by have := hnd j a b; exact ⟨this.1, this.2.1, by omega⟩) s0 s8
  | succ k ih =>
    intro i l M nd i0 ik  s0 s8 l0 li l8 ht tn hnd hN hS
    have hti := ht i i0 (by omega)
    have hti0 := tn i
    have hend : M 76 55 < 8 → t i = 255 → l ≠ 0 → Gw_X12_readsWords Q n 0 (i + 1) (mput M 76 55 (M 76 55 + 1)) := fun a b c => by
      have e := rdw_end (t := t) (k := k) (i := i) (nd := nd) a b c
      have f : Fw_X12_readsWords M (mput M 76 55 (M 76 55 + 1)) := fun k i h1 h2 => by unfold mput; rw [if_neg h1]
      have es : mput M 76 55 (M 76 55 + 1) 76 55 = M 76 55 + 1 := mput_same _ _ _ _
      refine ih (i + 1) 0 _ nd (by omega) (by omega)  (by omega) (by omega) (by omega) (by omega) (fun _ => rfl) (fun j a b => ?_) tn (fun j a b => ?_) (fun h M' f' => ?_) (fun nd' w' h M' f' => ?_)
      · rw [mput_ne _ _ _ _ (by decide)]; exact ht j a b
      · rw [mput_ne _ _ _ _ (by decide)]; have := hnd j a b; exact ⟨this.1, this.2.1, by omega⟩
      · rw [es] at h
        exact hN (e.trans h) M' (fun k i h1 h2 => (f' k i h1 h2).trans (f k i h1 h2))
      · rw [es] at h
        exact hS nd' w' (e.trans h) M' (fun k i h1 h2 => (f' k i h1 h2).trans (f k i h1 h2))
    have hlet : M 76 55 < 8 → 0 ≤ t i ∧ t i < 16 → Gw_X12_readsWords Q n (l + 1) (i + 1) (mput M 115 (16 * M 76 55 + t i) (M 115 (16 * M 76 55 + t i) + 1)) := fun a b => by
      have e := rdw_let (t := t) (k := k) (i := i) (l := l) (nd := nd) a b
      have hx := hnd (16 * M 76 55 + t i) (by omega) (by omega)
      have f : Fw_X12_readsWords M (mput M 115 (16 * M 76 55 + t i) (M 115 (16 * M 76 55 + t i) + 1)) := fun k i h1 h2 => mput_ne _ _ _ _ h2
      have es : mput M 115 (16 * M 76 55 + t i) (M 115 (16 * M 76 55 + t i) + 1) 76 55 = M 76 55 := mput_ne _ _ _ _ (by decide)
      refine ih (i + 1) (l + 1) _ (updf nd (16 * M 76 55 + t i)) (by omega) (by omega)  (by omega) (by omega) (by omega) (by omega) (fun _ => by omega) (fun j a b => ?_) tn (fun j a b => ?_) (fun h M' f' => ?_) (fun nd' w' h M' f' => ?_)
      · rw [mput_ne _ _ _ _ (by decide)]; exact ht j a b
      · unfold updf
        by_cases q : j = 16 * M 76 55 + t i
        · subst q
          rw [mput_same, if_pos rfl, hx.1]
          exact ⟨rfl, by omega, by omega⟩
        · rw [mput_ni _ _ _ _ q, if_neg q]
          have := hnd j a b
          exact ⟨this.1, this.2.1, by omega⟩
      · rw [es] at h
        exact hN (e.trans h) M' (fun k i h1 h2 => (f' k i h1 h2).trans (f k i h1 h2))
      · rw [es] at h
        exact hS nd' w' (e.trans h) M' (fun k i h1 h2 => (f' k i h1 h2).trans (f k i h1 h2))
    have hx : M 76 55 < 8 → t i < 16 → M 115 (16 * M 76 55 + t i) = nd (16 * M 76 55 + t i) ∧ 0 ≤ nd (16 * M 76 55 + t i) ∧ nd (16 * M 76 55 + t i) ≤ i := fun a b => hnd _ (by omega) (by omega)
    refine s_X12_readsWords_31 n l i M ?_
    rw [hti]
    exact ⟨fun v1 => ⟨fun v2 => (by first | (exfalso; omega) | exact hN (by first | exact rdw_full (by omega) | exact rdw_end0 (by omega) (by omega) | exact rdw_bad (by omega) (by omega)) M (fun _ _ _ _ => rfl)), fun v2 => (by first | (exfalso; omega) | exact hN (by first | exact rdw_full (by omega) | exact rdw_end0 (by omega) (by omega) | exact rdw_bad (by omega) (by omega)) M (fun _ _ _ _ => rfl))⟩, fun v1 => ⟨by first | omega | (unfold cn; omega) | (have := hx (by omega) (by omega); unfold cn; omega), ⟨fun v2 => ⟨fun v3 => (by first | (exfalso; omega) | exact hN (by first | exact rdw_full (by omega) | exact rdw_end0 (by omega) (by omega) | exact rdw_bad (by omega) (by omega)) M (fun _ _ _ _ => rfl)), fun v3 => ⟨fun v4 => ⟨by first | omega | (unfold cn; omega) | (have := hx (by omega) (by omega); unfold cn; omega), ⟨by first | omega | (unfold cn; omega) | (have := hx (by omega) (by omega); unfold cn; omega), ⟨by first | omega | (unfold cn; omega) | (have := hx (by omega) (by omega); unfold cn; omega), ⟨by first | omega | (unfold cn; omega) | (have := hx (by omega) (by omega); unfold cn; omega), ⟨by first | omega | (unfold cn; omega) | (have := hx (by omega) (by omega); unfold cn; omega), ⟨by first | omega | (unfold cn; omega) | (have := hx (by omega) (by omega); unfold cn; omega), ⟨by first | omega | (unfold cn; omega) | (have := hx (by omega) (by omega); unfold cn; omega), ⟨by first | omega | (unfold cn; omega) | (have := hx (by omega) (by omega); unfold cn; omega), ⟨by first | omega | (unfold cn; omega) | (have := hx (by omega) (by omega); unfold cn; omega), (by first | (exfalso; omega) | exact hend (by omega) (by omega) (by omega) | exact hlet (by omega) (by omega))⟩⟩⟩⟩⟩⟩⟩⟩⟩, fun v4 => (by first | (exfalso; omega) | exact hN (by first | exact rdw_full (by omega) | exact rdw_end0 (by omega) (by omega) | exact rdw_bad (by omega) (by omega)) M (fun _ _ _ _ => rfl))⟩⟩, fun v2 => ⟨fun v3 => ⟨by first | omega | (unfold cn; omega) | (have := hx (by omega) (by omega); unfold cn; omega), ⟨by first | omega | (unfold cn; omega) | (have := hx (by omega) (by omega); unfold cn; omega), (by first | (exfalso; omega) | exact hend (by omega) (by omega) (by omega) | exact hlet (by omega) (by omega))⟩⟩, fun v3 => (by first | (exfalso; omega) | exact hN (by first | exact rdw_full (by omega) | exact rdw_end0 (by omega) (by omega) | exact rdw_bad (by omega) (by omega)) M (fun _ _ _ _ => rfl))⟩⟩⟩⟩
/-! the noughts at the beginning -/
theorem l_X7_read_2 {Q : Int → Me → Prop} {n : Int} (M0 : Me) (h : ∀ M, Fw_X7_read M0 M → M 66 2 = 0 → (∀ j, 0 ≤ j → j < 128 → M 68 j = 0) → Gw_X7_read Q n 0 0 M) : ∀ (k : Nat) (i : Int) (M : Me), 0 ≤ i → i + k = 128 → Fw_X7_read M0 M → (∀ j, 0 ≤ j → j < i → M 68 j = 0) → Go (km 1 mX7_read Q) 2 [some (.inr 66), some (.inr 1), some (.inl n), some (.inl i), none, none, none, none] [] M := by
  intro k
  induction k with
  | zero =>
    intro i M i0 ik f hz
    refine s_X7_read_2 n i M ⟨fun _ => h _ (fun k i h1 h2 => ?_) (mput_same _ _ _ _) (fun j a b => ?_), fun v => by exfalso; omega⟩
    · rw [← f k i h1 h2]; unfold mput; rw [if_neg h1]
    · rw [mput_ne _ _ _ _ (by decide)]; exact hz j a (by omega)
  | succ k ih =>
    intro i M i0 ik f hz
    refine s_X7_read_2 n i M ⟨fun v => by exfalso; omega, fun _ => ⟨by omega, by unfold cn; omega, ?_⟩⟩
    refine ih (i + 1) _ (by omega) (by omega) (fun k i h1 h2 => (mput_ne _ _ _ _ h2).trans (f k i h1 h2)) (fun j a b => ?_)
    by_cases q : j = i
    · subst q; exact mput_same _ _ _ _
    · rw [mput_ni _ _ _ _ q]; exact hz j a (by omega)
theorem l_X12_readsWords_2 {Q : Int → Me → Prop} {n : Int} (M0 : Me) (h : ∀ M, Fw_X12_readsWords M0 M → M 76 55 = 0 → (∀ j, 0 ≤ j → j < 128 → M 115 j = 0) → Gw_X12_readsWords Q n 0 0 M) : ∀ (k : Nat) (i : Int) (M : Me), 0 ≤ i → i + k = 128 → Fw_X12_readsWords M0 M → (∀ j, 0 ≤ j → j < i → M 115 j = 0) → Go (km 1 mX12_readsWords Q) 2 [some (.inr 76), some (.inl n), some (.inl i), none, none] [] M := by
  intro k
  induction k with
  | zero =>
    intro i M i0 ik f hz
    refine s_X12_readsWords_2 n i M ⟨fun _ => h _ (fun k i h1 h2 => ?_) (mput_same _ _ _ _) (fun j a b => ?_), fun v => by exfalso; omega⟩
    · rw [← f k i h1 h2]; unfold mput; rw [if_neg h1]
    · rw [mput_ne _ _ _ _ (by decide)]; exact hz j a (by omega)
  | succ k ih =>
    intro i M i0 ik f hz
    refine s_X12_readsWords_2 n i M ⟨fun v => by exfalso; omega, fun _ => ⟨by omega, by unfold cn; omega, ?_⟩⟩
    refine ih (i + 1) _ (by omega) (by omega) (fun k i h1 h2 => (mput_ne _ _ _ _ h2).trans (f k i h1 h2)) (fun j a b => ?_)
    by_cases q : j = i
    · subst q; exact mput_same _ _ _ _
    · rw [mput_ni _ _ _ _ q]; exact hz j a (by omega)
theorem p_X7_read {Q : Int → Me → Prop} {t : Int → Int} {n : Int} {M : Me} (h1 : 1 ≤ n) (hn : n ≤ 60) (g1 : n ≤ M 1 1) (g2 : M 1 1 ≤ 260) (ht : ∀ j, 0 ≤ j → j < n → M 2 j = t j) (tn : ∀ j, 0 ≤ t j)
    (hN : rdw t n.toNat 0 (fun _ => 0) 0 0 = none → ∀ M', Fw_X7_read M M' → Q 0 M') (hS : ∀ nd' w', rdw t n.toNat 0 (fun _ => 0) 0 0 = some (nd', w') → ∀ M', Fw_X7_read M M' → M' 66 2 = w' → (∀ j, 0 ≤ j → j < 128 → M' 68 j = nd' j ∧ 0 ≤ nd' j ∧ nd' j ≤ n) → 0 ≤ w' → w' ≤ 8 → Q 1 M') : Calls 1 mX7_read [.inr 66, .inr 1, .inl n] M Q := by
  refine e_X7_read (l_X7_read_2 M (fun M1 f1 z1 z2 => ?_) 128 0 M (by omega) (by omega) (fun _ _ _ _ => rfl) (fun j a b => by omega))
  have e1 : M1 1 1 = M 1 1 := f1 1 1 (by decide) (by decide)
  refine l_X7_read hn n.toNat 0 0 M1 (fun _ => 0) (by omega) (by omega) (by omega) (by omega) (by omega) (by omega) (by omega) (by omega) (fun _ => rfl) (fun j a b => ?_) tn (fun j a b => ⟨z2 j a b, by omega, by omega⟩) (fun h M' f => ?_) (fun nd' w' h M' f => ?_)
  · rw [f1 2 j (fun q => absurd q.1 (by decide)) (by decide)]; exact ht j a b
  · rw [z1] at h
    exact hN h M' (fun k i a b => (f k i a b).trans (f1 k i a b))
  · rw [z1] at h
    exact hS nd' w' h M' (fun k i a b => (f k i a b).trans (f1 k i a b))
theorem p_X12_readsWords {Q : Int → Me → Prop} {t : Int → Int} {n : Int} {M : Me} (h1 : 1 ≤ n) (hn : n ≤ 60) (ht : ∀ j, 0 ≤ j → j < n → band (M 88 j) 255 = t j) (tn : ∀ j, 0 ≤ t j)
    (hN : rdw t n.toNat 0 (fun _ => 0) 0 0 = none → ∀ M', Fw_X12_readsWords M M' → Q 0 M') (hS : ∀ nd' w', rdw t n.toNat 0 (fun _ => 0) 0 0 = some (nd', w') → ∀ M', Fw_X12_readsWords M M' → M' 76 55 = w' → (∀ j, 0 ≤ j → j < 128 → M' 115 j = nd' j ∧ 0 ≤ nd' j ∧ nd' j ≤ n) → 0 ≤ w' → w' ≤ 8 → Q 1 M') : Calls 1 mX12_readsWords [.inr 76, .inl n] M Q := by
  refine e_X12_readsWords (l_X12_readsWords_2 M (fun M1 f1 z1 z2 => ?_) 128 0 M (by omega) (by omega) (fun _ _ _ _ => rfl) (fun j a b => by omega))
  refine l_X12_readsWords hn n.toNat 0 0 M1 (fun _ => 0) (by omega) (by omega) (by omega) (by omega) (by omega) (by omega) (fun _ => rfl) (fun j a b => ?_) tn (fun j a b => ⟨z2 j a b, by omega, by omega⟩) (fun h M' f => ?_) (fun nd' w' h M' f => ?_)
  · rw [f1 88 j (fun q => absurd q.1 (by decide)) (by decide)]; exact ht j a b
  · rw [z1] at h
    exact hN h M' (fun k i a b => (f k i a b).trans (f1 k i a b))
  · rw [z1] at h
    exact hS nd' w' h M' (fun k i a b => (f k i a b).trans (f1 k i a b))
