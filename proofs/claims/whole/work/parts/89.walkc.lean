/-! ===== a season of the class, over any of its standings ===== -/
def Hold (n : Int) (o : Nat) (M : Me) (S : Int → Int) : Prop := (∀ d, 0 ≤ d → d < n → M (o + 1) d = S d ∧ M (o + 2) d = S (16 + d) ∧ M (o + 3) d = S (32 + d) ∧ M (o + 4) d = S (48 + d) ∧ M (o + 5) d = S (64 + d)) ∧ M o 5 = S 80 ∧ M o 6 = S 81
def WFr (o : Nat) (M M' : Me) : Prop := ∀ k i, (k < o ∨ o + 5 < k) → k ≠ 56 → k ≠ 28 → (k = 22 → i ≠ 8) → M' k i = M k i
def StC (n : Int) (D L M : Me) : Prop := M 3 8 = n ∧ (∀ d, 0 ≤ d → d < n → M 4 d = D 0 d ∧ M 11 d = D 1 d ∧ M 7 d = D 2 d ∧ M 8 d = D 3 d ∧ M 9 d = D 4 d) ∧ LawC M L
theorem WFr.rf (o : Nat) (M : Me) : WFr o M M := fun _ _ _ _ _ _ => rfl
theorem WFr.tr {o : Nat} {A B C : Me} (h : WFr o A B) (h' : WFr o B C) : WFr o A C := fun k i a b c d => (h' k i a b c d).trans (h k i a b c d)
theorem WFr.put {o : Nat} (M : Me) {k : Nat} (i v : Int) (h : o ≤ k ∧ k ≤ o + 5) : WFr o M (mput M k i v) := fun _ _ a _ _ _ => mput_ne _ _ _ _ (by omega)
theorem WFr.put56 (o : Nat) (M : Me) (i v : Int) : WFr o M (mput M 56 i v) := fun _ _ _ b _ _ => mput_ne _ _ _ _ b
theorem WFr.of28 (o : Nat) {M M' : Me} (h : Fr28 M M') : WFr o M M' := fun k i _ _ c d => h k i c d
theorem isX8_le {o : Nat} (ho : isX8 o) : 37 ≤ o ∧ o ≤ 49 := by unfold isX8 at ho; omega
theorem StC.mv {n : Int} {D L M M' : Me} {o : Nat} (ho : isX8 o) (h : StC n D L M) (f : WFr o M M') : StC n D L M' := by
  have hb := isX8_le ho
  have g : ∀ k i, k < 28 → (k = 22 → i ≠ 8) → M' k i = M k i := fun k i a b => f k i (by omega) (by omega) (by omega) b
  obtain ⟨h1, h2, h3, h4⟩ := h
  refine ⟨by rw [g 3 8 (by first | omega | decide) (by first | omega | decide)]; exact h1, fun d d0 d1 => ?_, by rw [g 22 6 (by first | omega | decide) (by first | omega | decide)]; exact h3, fun r r0 r1 => ?_⟩
  · rw [g 4 d (by first | omega | decide) (by first | omega | decide), g 11 d (by first | omega | decide) (by first | omega | decide), g 7 d (by first | omega | decide) (by first | omega | decide), g 8 d (by first | omega | decide) (by first | omega | decide), g 9 d (by first | omega | decide) (by first | omega | decide)]
    exact h2 d d0 d1
  · rw [g 23 r (by first | omega | decide) (by first | omega | decide), g 24 r (by first | omega | decide) (by first | omega | decide), g 25 r (by first | omega | decide) (by first | omega | decide), g 26 r (by first | omega | decide) (by first | omega | decide)]
    obtain ⟨c1, c2, c3, c4, c5⟩ := h4 r r0 r1
    exact ⟨c1, c2, c3, c4, fun i a b => by rw [g 27 i (by first | omega | decide) (by first | omega | decide)]; exact c5 i a b⟩
theorem Hold.mv {n : Int} {o : Nat} {M M' : Me} {S : Int → Int} (h : Hold n o M S) (f : ∀ k i, o ≤ k → k ≤ o + 5 → M' k i = M k i) : Hold n o M' S := by
  refine ⟨fun d d0 d1 => ?_, ?_, ?_⟩
  · rw [f (o + 1) d (by omega) (by omega), f (o + 2) d (by omega) (by omega), f (o + 3) d (by omega) (by omega), f (o + 4) d (by omega) (by omega), f (o + 5) d (by omega) (by omega)]
    exact h.1 d d0 d1
  · rw [f o 5 (by omega) (by omega)]; exact h.2.1
  · rw [f o 6 (by omega) (by omega)]; exact h.2.2
theorem Hold.of28 {n : Int} {o : Nat} (ho : isX8 o) {M M' : Me} {S : Int → Int} (h : Hold n o M S) (f : Fr28 M M') : Hold n o M' S := h.mv (fun k i a b => by have := isX8_le ho; exact f k i (by omega) (by omega))
theorem Hold.p56 {n : Int} {o : Nat} (ho : isX8 o) {M : Me} {S : Int → Int} (h : Hold n o M S) (i v : Int) : Hold n o (mput M 56 i v) S := h.mv (fun k i a b => by have := isX8_le ho; exact mput_ne _ _ _ _ (by omega))
theorem Hold.p1 {n : Int} {o : Nat} {M : Me} {S : Int → Int} (h16 : n ≤ 16) (h : Hold n o M S) {c : Int} (c0 : 0 ≤ c) (c1 : c < n) (v : Int) : Hold n o (mput M (o + 1) c v) (upS S (c) v) := by
  refine ⟨fun d d0 d1 => ?_, ?_, ?_⟩
  · obtain ⟨g1, g2, g3, g4, g5⟩ := h.1 d d0 d1
    unfold mput upS
    refine ⟨?_, ?_, ?_, ?_, ?_⟩ <;> split <;> split <;> first | rfl | (exfalso; omega) | assumption
  · have := h.2.1
    unfold mput upS
    split <;> split <;> first | rfl | (exfalso; omega) | assumption
  · have := h.2.2
    unfold mput upS
    split <;> split <;> first | rfl | (exfalso; omega) | assumption
theorem Hold.p2 {n : Int} {o : Nat} {M : Me} {S : Int → Int} (h16 : n ≤ 16) (h : Hold n o M S) {c : Int} (c0 : 0 ≤ c) (c1 : c < n) (v : Int) : Hold n o (mput M (o + 2) c v) (upS S (16 + c) v) := by
  refine ⟨fun d d0 d1 => ?_, ?_, ?_⟩
  · obtain ⟨g1, g2, g3, g4, g5⟩ := h.1 d d0 d1
    unfold mput upS
    refine ⟨?_, ?_, ?_, ?_, ?_⟩ <;> split <;> split <;> first | rfl | (exfalso; omega) | assumption
  · have := h.2.1
    unfold mput upS
    split <;> split <;> first | rfl | (exfalso; omega) | assumption
  · have := h.2.2
    unfold mput upS
    split <;> split <;> first | rfl | (exfalso; omega) | assumption
theorem Hold.p3 {n : Int} {o : Nat} {M : Me} {S : Int → Int} (h16 : n ≤ 16) (h : Hold n o M S) {c : Int} (c0 : 0 ≤ c) (c1 : c < n) (v : Int) : Hold n o (mput M (o + 3) c v) (upS S (32 + c) v) := by
  refine ⟨fun d d0 d1 => ?_, ?_, ?_⟩
  · obtain ⟨g1, g2, g3, g4, g5⟩ := h.1 d d0 d1
    unfold mput upS
    refine ⟨?_, ?_, ?_, ?_, ?_⟩ <;> split <;> split <;> first | rfl | (exfalso; omega) | assumption
  · have := h.2.1
    unfold mput upS
    split <;> split <;> first | rfl | (exfalso; omega) | assumption
  · have := h.2.2
    unfold mput upS
    split <;> split <;> first | rfl | (exfalso; omega) | assumption
theorem Hold.p4 {n : Int} {o : Nat} {M : Me} {S : Int → Int} (h16 : n ≤ 16) (h : Hold n o M S) {c : Int} (c0 : 0 ≤ c) (c1 : c < n) (v : Int) : Hold n o (mput M (o + 4) c v) (upS S (48 + c) v) := by
  refine ⟨fun d d0 d1 => ?_, ?_, ?_⟩
  · obtain ⟨g1, g2, g3, g4, g5⟩ := h.1 d d0 d1
    unfold mput upS
    refine ⟨?_, ?_, ?_, ?_, ?_⟩ <;> split <;> split <;> first | rfl | (exfalso; omega) | assumption
  · have := h.2.1
    unfold mput upS
    split <;> split <;> first | rfl | (exfalso; omega) | assumption
  · have := h.2.2
    unfold mput upS
    split <;> split <;> first | rfl | (exfalso; omega) | assumption
theorem Hold.p5 {n : Int} {o : Nat} {M : Me} {S : Int → Int} (h16 : n ≤ 16) (h : Hold n o M S) {c : Int} (c0 : 0 ≤ c) (c1 : c < n) (v : Int) : Hold n o (mput M (o + 5) c v) (upS S (64 + c) v) := by
  refine ⟨fun d d0 d1 => ?_, ?_, ?_⟩
  · obtain ⟨g1, g2, g3, g4, g5⟩ := h.1 d d0 d1
    unfold mput upS
    refine ⟨?_, ?_, ?_, ?_, ?_⟩ <;> split <;> split <;> first | rfl | (exfalso; omega) | assumption
  · have := h.2.1
    unfold mput upS
    split <;> split <;> first | rfl | (exfalso; omega) | assumption
  · have := h.2.2
    unfold mput upS
    split <;> split <;> first | rfl | (exfalso; omega) | assumption
theorem Hold.q5 {n : Int} {o : Nat} {M : Me} {S : Int → Int} (h16 : n ≤ 16) (h : Hold n o M S) (v : Int) : Hold n o (mput M o 5 v) (upS S 80 v) := by
  refine ⟨fun d d0 d1 => ?_, ?_, ?_⟩
  · obtain ⟨g1, g2, g3, g4, g5⟩ := h.1 d d0 d1
    unfold mput upS
    refine ⟨?_, ?_, ?_, ?_, ?_⟩ <;> split <;> split <;> first | rfl | (exfalso; omega) | assumption
  · have := h.2.1
    unfold mput upS
    split <;> split <;> first | rfl | (exfalso; omega) | assumption
  · have := h.2.2
    unfold mput upS
    split <;> split <;> first | rfl | (exfalso; omega) | assumption
theorem Hold.q6 {n : Int} {o : Nat} {M : Me} {S : Int → Int} (h16 : n ≤ 16) (h : Hold n o M S) (v : Int) : Hold n o (mput M o 6 v) (upS S 81 v) := by
  refine ⟨fun d d0 d1 => ?_, ?_, ?_⟩
  · obtain ⟨g1, g2, g3, g4, g5⟩ := h.1 d d0 d1
    unfold mput upS
    refine ⟨?_, ?_, ?_, ?_, ?_⟩ <;> split <;> split <;> first | rfl | (exfalso; omega) | assumption
  · have := h.2.1
    unfold mput upS
    split <;> split <;> first | rfl | (exfalso; omega) | assumption
  · have := h.2.2
    unfold mput upS
    split <;> split <;> first | rfl | (exfalso; omega) | assumption
theorem p_aim {Q : Int → Me → Prop} {M : Me} {o : Nat} (ho : isX8 o) {n : Int} {D L : Me} {S : Int → Int} (hD : Dk n D) (hs : StC n D L M) (hH : Hold n o M S) {c : Int} (c0 : 0 ≤ c) (c1 : c < n) (h : Q (aimF D S c) M) : Calls 0 mX10_aim [.inr 55, .inr o, .inl c] M Q := by
  have h16 := hD.1
  obtain ⟨-, -, -, -, g5⟩ := hH.1 c c0 c1
  obtain ⟨d1, d2, -⟩ := hs.2.1 c c0 c1
  refine e_X10_aim ho ?_
  rw [g5, d1, d2]
  unfold aimF at h
  refine ⟨by omega, fun q => ⟨by omega, ?_⟩, fun q => ⟨by omega, ?_⟩⟩
  · rw [if_neg q] at h; exact h
  · rw [if_pos q] at h; exact h
theorem l_othersAt {Q : Int → Me → Prop} {M : Me} {o : Nat} (ho : isX8 o) {n : Int} {S : Int → Int} (h16 : n ≤ 16) (hn : M 3 8 = n) (hH : Hold n o M S) {c : Int} (c0 : 0 ≤ c) (c1 : c < n) {R : Int} (hQ : Q R M) :
    ∀ (k : Nat) (e acc : Int), 0 ≤ e → e + k = n → 0 ≤ acc → acc ≤ e → iter (othS S c) k e acc = R → Go (km 0 mX10_othersAt Q) 5 [some (.inr 55), some (.inr o), some (.inl c), some (.inl acc), some (.inl e)] [] M := by
  intro k
  induction k with
  | zero =>
    intro e acc e0 he a0 a1 hR
    refine s_X10_othersAt_5 ho _ _ _ M ⟨fun _ => ?_, fun q => by exfalso; omega⟩
    simp only [iter] at hR
    rw [hR]; exact hQ
  | succ k ih =>
    intro e acc e0 he a0 a1 hR
    obtain ⟨g1, g2, -⟩ := hH.1 e e0 (by omega)
    obtain ⟨k1, k2, -⟩ := hH.1 c c0 c1
    simp only [iter, othS] at hR
    refine s_X10_othersAt_5 ho _ _ _ M ?_
    rw [hn, g1, g2, k2]
    refine ⟨fun q => by exfalso; omega, fun _ => ⟨fun q => ⟨by unfold cn; omega, ?_⟩, fun q => ⟨by omega, fun q2 => ⟨by unfold cn; omega, ?_⟩, fun q2 => ⟨by omega, by omega, fun q3 => ⟨by unfold cn; omega, ?_⟩, fun q3 => ⟨by unfold cn; omega, by unfold cn; omega, ?_⟩⟩⟩⟩⟩
    · rw [if_neg (fun z => z.1 q)] at hR; exact ih (e + 1) acc (by omega) (by omega) a0 (by omega) hR
    · rw [if_neg (fun z => q2 z.2.1)] at hR; exact ih (e + 1) acc (by omega) (by omega) a0 (by omega) hR
    · rw [if_neg (fun z => q3 z.2.2)] at hR; exact ih (e + 1) acc (by omega) (by omega) a0 (by omega) hR
    · rw [if_pos ⟨q, q2, q3⟩] at hR; exact ih (e + 1) (acc + 1) (by omega) (by omega) (by omega) (by omega) hR
theorem p_tellValues {Q : Int → Me → Prop} {M : Me} {o : Nat} (ho : isX8 o) {n : Int} {D L : Me} {S : Int → Int} (hD : Dk n D) (hs : StC n D L M) (hH : Hold n o M S) (hR : Rg n S) {c : Int} (c0 : 0 ≤ c) (c1 : c < n)
    (hQ : ∀ M', WFr o M M' → Hold n o M' (upS S 81 (drw S)) → (∀ j, 0 ≤ j → j < 11 → M' 56 j = factF D n S c j) → Q 0 M') : Calls 2 mX10_tellValues [.inr 55, .inr o, .inl c] M Q := by
  have h16 := hD.1
  have hb := isX8_le ho
  obtain ⟨g1, g2, g3, g4, g5⟩ := hH.1 c c0 c1
  obtain ⟨d1, d2, d3, d4, d5⟩ := hs.2.1 c c0 c1
  obtain ⟨r1, r2, r3, r4, r5⟩ := hR.1 c c0 c1
  have ha := aimF_pl hD (S := S) c0 c1
  refine e_X10_tellValues ho ⟨by omega, by omega, by omega, by omega, by omega, by omega, by omega, ?_⟩
  rw [g1, g2, g3, g4, d3, d4, d5]
  have w1 : WFr o M (mput (mput (mput (mput (mput (mput (mput M 56 0 c) 56 1 (S c)) 56 2 (S (32 + c))) 56 3 (D 2 c)) 56 4 (D 3 c)) 56 5 (D 4 c)) 56 6 (S (48 + c))) :=
    (WFr.put56 o M _ _).tr ((WFr.put56 o _ _ _).tr ((WFr.put56 o _ _ _).tr ((WFr.put56 o _ _ _).tr ((WFr.put56 o _ _ _).tr ((WFr.put56 o _ _ _).tr (WFr.put56 o _ _ _))))))
  have hH1 := (((((((hH.p56 ho 0 c).p56 ho 1 (S c)).p56 ho 2 (S (32 + c))).p56 ho 3 (D 2 c)).p56 ho 4 (D 3 c)).p56 ho 5 (D 4 c)).p56 ho 6 (S (48 + c)))
  have f0 : ∀ j, 0 ≤ j → j < 7 → (mput (mput (mput (mput (mput (mput (mput M 56 0 c) 56 1 (S c)) 56 2 (S (32 + c))) 56 3 (D 2 c)) 56 4 (D 3 c)) 56 5 (D 4 c)) 56 6 (S (48 + c))) 56 j = factF D n S c j := fun j j0 j1 => by
    rcases (show j = 0 ∨ j = 1 ∨ j = 2 ∨ j = 3 ∨ j = 4 ∨ j = 5 ∨ j = 6 by omega) with rfl | rfl | rfl | rfl | rfl | rfl | rfl <;> simp [mput, factF]
  generalize mput (mput (mput (mput (mput (mput (mput M 56 0 c) 56 1 (S c)) 56 2 (S (32 + c))) 56 3 (D 2 c)) 56 4 (D 3 c)) 56 5 (D 4 c)) 56 6 (S (48 + c)) = M1 at w1 hH1 f0
  refine p_aim ho hD (hs.mv ho w1) hH1 c0 c1 ⟨r2.1, ha.1, ?_⟩
  have hH2 := hH1.p56 ho 7 (dst (S (16 + c)) (aimF D S c))
  have w2 := w1.tr (WFr.put56 o M1 7 (dst (S (16 + c)) (aimF D S c)))
  have s2 := hs.mv ho w2
  refine e_X10_othersAt ho (l_othersAt ho h16 s2.1 hH2 c0 c1 (R := iter (othS S c) n.toNat 0 0) ?_ n.toNat 0 0 (by omega) (by have := hD.2.1; omega) (by omega) (by omega) rfl)
  have e80 : (mput M1 56 7 (dst (S (16 + c)) (aimF D S c))) o 5 = S 80 := hH2.2.1
  rw [e80]
  refine ⟨hR.2.1.1, ?_⟩
  have hH3 := (hH2.p56 ho 8 (iter (othS S c) n.toNat 0 0)).p56 ho 9 (S 80 % 100)
  have e81 := hH3.2.2
  have r81 := hR.2.2
  refine e_X8_nextDraw ho ?_
  rw [e81]
  refine ⟨by unfold cn; omega, by unfold cn; omega, by omega, by omega, ?_⟩
  refine hQ _ ?_ ?_ ?_
  · exact w2.tr ((WFr.put56 o _ _ _).tr ((WFr.put56 o _ _ _).tr ((WFr.put _ _ _ (by omega)).tr (WFr.put56 o _ _ _))))
  · exact (hH3.q6 h16 (drw S)).p56 ho 10 (drw S % 10)
  · intro j j0 j1
    have no : ¬ (56 = o) := by omega
    rcases (show j < 7 ∨ j = 7 ∨ j = 8 ∨ j = 9 ∨ j = 10 by omega) with q | rfl | rfl | rfl | rfl
    · rw [mput_ni _ _ _ _ (by omega), mput_ne _ _ _ _ no, mput_ni _ _ _ _ (by omega), mput_ni _ _ _ _ (by omega), mput_ni _ _ _ _ (by omega)]
      exact f0 j j0 q
    all_goals simp [mput, factF, no, drw]
theorem p_oneStep {Q : Int → Me → Prop} {M : Me} {a b : Int} (ha : pl a) (hb : pl b) (h : Q (stepV a b) M) : Calls 1 mX10_oneStep [.inl a, .inl b] M Q := by
  unfold pl at ha hb
  refine e_X10_oneStep ⟨hb.1, ha.1, p_compare ⟨hb.1, ha.1, p_compare ?_⟩⟩
  unfold stepV at h
  refine ⟨fun q => ?_, fun q => ?_⟩
  · have q' : a % 24 = b % 24 := by
      split at q
      · omega
      · split at q <;> omega
    rw [if_neg (by omega), if_neg (by omega)] at h
    rcases Int.lt_trichotomy (a / 24) (b / 24) with z | z | z
    · rw [if_pos z] at h
      rw [if_neg (by omega), if_neg (by omega)]
      exact ⟨by unfold cn; omega, by unfold cn; omega, h⟩
    · rw [if_neg (by omega), if_neg (by omega)] at h
      rw [if_neg (by omega), if_pos (by omega)]
      refine ⟨by unfold cn; omega, by unfold cn; omega, ?_⟩
      rw [show a + 24 * 0 = a by omega]
      exact h
    · rw [if_neg (by omega), if_pos z] at h
      rw [if_pos (by omega)]
      refine ⟨by unfold cn; omega, by unfold cn; omega, ?_⟩
      rw [show a + 24 * -1 = a - 24 by omega]
      exact h
  · rcases Int.lt_trichotomy (a % 24) (b % 24) with z | z | z
    · rw [if_pos z] at h
      rw [if_neg (by omega), if_neg (by omega)]
      exact ⟨by unfold cn; omega, h⟩
    · rw [if_neg (by omega), if_pos (by omega)] at q
      omega
    · rw [if_neg (by omega), if_pos z] at h
      rw [if_pos (by omega)]
      refine ⟨by unfold cn; omega, ?_⟩
      rw [show a + -1 = a - 1 by omega]
      exact h
theorem p_turn {Q : Int → Me → Prop} {M : Me} {o : Nat} (ho : isX8 o) {n : Int} {D L : Me} {S : Int → Int} (hD : Dk n D) (hs : StC n D L M) (hH : Hold n o M S) (hR : Rg n S) {c : Int} (c0 : 0 ≤ c) (c1 : c < n)
    (hQ : ∀ M', WFr o M M' → Hold n o M' (turnS D S c) → Q (turnN D S c) M') : Calls 1 mX10_turn [.inr 55, .inr o, .inl c] M Q := by
  have h16 := hD.1
  obtain ⟨g1, g2, g3, g4, g5⟩ := hH.1 c c0 c1
  obtain ⟨-, -, -, r4, r5⟩ := hR.1 c c0 c1
  refine e_X10_turn ho ⟨by omega, p_aim ho hD hs hH c0 c1 ?_⟩
  rw [g2, g4, g5]
  unfold turnS turnN at hQ
  refine ⟨fun q => ⟨by omega, by unfold cn; omega, by omega, by omega, fun q2 => ⟨by omega, by unfold cn; omega, by omega, by omega, ?_⟩, fun q2 => ?_⟩, fun q => ?_⟩
  · have z : S (64 + c) = 0 := by omega
    rw [if_pos q, if_pos z, if_pos ⟨q, z⟩] at hQ
    rw [z]
    refine hQ _ ((WFr.put _ _ _ (by omega)).tr ((WFr.put _ _ _ (by omega)).tr (WFr.put _ _ _ (by omega)))) ?_
    have hh := ((hH.p5 h16 c0 c1 (1 - 0)).p4 h16 c0 c1 (min (S (48 + c) + 1) 9999)).p3 h16 c0 c1 99
    have e : upS (upS (upS S (64 + c) (1 - 0)) (48 + c) (min (S (48 + c) + 1) 9999)) (32 + c) 99 = upS (upS (upS S (48 + c) (min (S (48 + c) + 1) 9999)) (32 + c) 99) (64 + c) 1 := by
      funext j
      simp only [upS]
      split <;> split <;> (try split) <;> first | rfl | (exfalso; omega)
    rw [e] at hh
    exact hh
  · have z : ¬ S (64 + c) = 0 := by omega
    rw [if_pos q, if_neg z, if_neg (fun y => z y.2)] at hQ
    rw [q2]
    exact hQ _ (WFr.put _ _ _ (by omega)) (hH.p5 h16 c0 c1 0)
  · rw [if_neg q, if_neg (fun y => q y.1)] at hQ
    exact hQ _ (WFr.rf _ _) hH
theorem l_goAbout {Q : Int → Me → Prop} {M0 : Me} {o : Nat} (ho : isX8 o) {n : Int} {D L : Me} (hD : Dk n D) (hs0 : StC n D L M0) {c x4 : Int} (c0 : 0 ≤ c) (c1 : c < n) (x10 : x4 ≤ 10) {T : Int → Int} {R : Int} (hQ : ∀ M', WFr o M0 M' → Hold n o M' T → Q R M') :
    ∀ (k : Nat) (i m : Int) (S : Int → Int) (M : Me), 0 ≤ i → (i + k = x4 ∨ (k = 0 ∧ x4 ≤ i)) → i ≤ 10 → 0 ≤ m → m ≤ i + 1 → WFr o M0 M → Hold n o M S → Rg n S → goP D c k S m = (T, R) → Go (km 2 mX10_goAbout Q) 43 [some (.inr 55), some (.inr o), some (.inl c), none, some (.inl x4), some (.inl m), some (.inl i)] [] M := by
  have h16 := hD.1
  intro k
  induction k with
  | zero =>
    intro i m S M i0 hk i10 m0 m1 f hH hR he
    simp only [goP, Prod.mk.injEq] at he
    refine s_X10_goAbout_43 ho _ _ _ _ M ⟨fun _ => ?_, fun q => by exfalso; omega⟩
    rw [he.2]
    exact hQ M f (he.1 ▸ hH)
  | succ k ih =>
    intro i m S M i0 hk i10 m0 m1 f hH hR he
    simp only [goP] at he
    obtain ⟨g1, g2, -⟩ := hH.1 c c0 c1
    refine s_X10_goAbout_43 ho _ _ _ _ M ⟨fun q => by exfalso; omega, fun _ => ⟨by omega, ?_⟩⟩
    rw [g2]
    refine p_aim ho hD (hs0.mv ho f) hH c0 c1 (p_oneStep (hR.1 c c0 c1).2.1 (aimF_pl hD c0 c1) ⟨by omega, ?_⟩)
    have f1 := f.tr (WFr.put (o := o) M (k := o + 2) c (stepV (S (16 + c)) (aimF D S c)) (by omega))
    refine p_turn ho hD (hs0.mv ho f1) (hH.p2 h16 c0 c1 (stepV (S (16 + c)) (aimF D S c))) (move_Rg hD hR c0 c1) c0 c1 (fun M' f' hH' => ?_)
    have b := turnN_b D (moveS D S c) c
    have b' : 0 ≤ turnN D (upS S (16 + c) (stepV (S (16 + c)) (aimF D S c))) c ∧ turnN D (upS S (16 + c) (stepV (S (16 + c)) (aimF D S c))) c ≤ 1 := b
    refine ⟨by unfold cn; omega, by unfold cn; omega, ?_⟩
    exact ih (i + 1) _ _ M' (by omega) (by omega) (by omega) (by omega) (by omega) (f1.tr f') hH' (turn_Rg hD (move_Rg hD hR c0 c1) c0 c1) he
theorem p_goAbout {Q : Int → Me → Prop} {M : Me} {o : Nat} (ho : isX8 o) {n : Int} {D L : Me} {S : Int → Int} (hD : Dk n D) (hs : StC n D L M) (hH : Hold n o M S) (hR : Rg n S) {c told : Int} (c0 : 0 ≤ c) (c1 : c < n) (t0 : 0 ≤ told) (t9 : told ≤ 9)
    (hQ : ∀ M', WFr o M M' → Hold n o M' (aboutP D S c told).1 → Q (aboutP D S c told).2 M') : Calls 2 mX10_goAbout [.inr 55, .inr o, .inl c, .inl told] M Q := by
  have h16 := hD.1
  obtain ⟨-, -, -, d4, d5⟩ := hs.2.1 c c0 c1
  obtain ⟨-, -, -, k4, k5⟩ := hD.2.2 c c0 c1
  have go : ∀ x4, x4 = manyF D c told → x4 ≤ 10 → 0 ≤ x4 → Calls 1 mX10_turn [.inr 55, .inr o, .inl c] M (fun r35 M35 => Go (km 2 mX10_goAbout Q) 43 [some (.inr 55), some (.inr o), some (.inl c), none, some (.inl x4), some (.inl r35), some (.inl 0)] [] M35) := fun x4 e x10 x0 => by
    refine p_turn ho hD hs hH hR c0 c1 (fun M' f' hH' => ?_)
    have b := turnN_b D S c
    exact l_goAbout ho hD hs c0 c1 x10 hQ x4.toNat 0 _ _ M' (by omega) (by omega) (by omega) (by omega) (by omega) f' hH' (turn_Rg hD hR c0 c1) (by rw [e]; rfl)
  unfold manyF at go
  refine e_X10_goAbout ho ?_
  rw [d4, d5]
  refine ⟨by omega, fun q => ⟨by omega, by unfold cn; omega, go _ (by rw [if_neg q]) (by omega) (by omega)⟩, fun q => ⟨t0, by omega, by unfold cn; omega, go _ (by rw [if_pos q]) (by omega) (by omega)⟩⟩
theorem p_forget {Q : Int → Me → Prop} {M : Me} {o : Nat} (ho : isX8 o) {n : Int} {D L : Me} {S : Int → Int} (hD : Dk n D) (hs : StC n D L M) (hH : Hold n o M S) (hR : Rg n S) {c told : Int} (c0 : 0 ≤ c) (c1 : c < n) (t0 : 0 ≤ told) (t9 : told ≤ 99)
    (hQ : ∀ M', WFr o M M' → Hold n o M' (forgS D S c told) → Q 0 M') : Calls 1 mX10_forget [.inr 55, .inr o, .inl c, .inl told] M Q := by
  have h16 := hD.1
  obtain ⟨g1, g2, g3, g4, g5⟩ := hH.1 c c0 c1
  obtain ⟨-, -, d3, -, -⟩ := hs.2.1 c c0 c1
  obtain ⟨-, -, r3, -, -⟩ := hR.1 c c0 c1
  have key : ∀ l, l = (if D 2 c = 1 then told / 2 else told) → (max 0 (S (32 + c) - l) ≠ 0 → Q 0 (mput M (o + 3) c (max 0 (S (32 + c) - l)))) ∧ (max 0 (S (32 + c) - l) = 0 → (0 ≤ c ∧ c < 16) ∧ Q 0 (mput (mput M (o + 3) c (max 0 (S (32 + c) - l))) (o + 1) c 3)) := fun l hl => by
    unfold forgS lessF at hQ
    rw [← hl] at hQ
    refine ⟨fun q => ?_, fun q => ⟨by omega, ?_⟩⟩
    · rw [if_neg q] at hQ
      exact hQ _ (WFr.put _ _ _ (by omega)) (hH.p3 h16 c0 c1 _)
    · rw [if_pos q] at hQ
      rw [q]
      exact hQ _ ((WFr.put _ _ _ (by omega)).tr (WFr.put _ _ _ (by omega))) ((hH.p3 h16 c0 c1 _).p1 h16 c0 c1 _)
  refine e_X10_forget ho ?_
  rw [d3, g3]
  refine ⟨by omega, fun q => ⟨by omega, by unfold cn; omega, by omega, by omega, key _ (by rw [if_neg q])⟩, fun q => ⟨t0, by omega, by unfold cn; omega, by omega, by omega, key _ (by rw [if_pos q])⟩⟩
theorem p_grow {Q : Int → Me → Prop} {M : Me} {o : Nat} (ho : isX8 o) {n : Int} {D L : Me} {S : Int → Int} (hW : LawW L) (hD : Dk n D) (hs : StC n D L M) (hH : Hold n o M S) (hR : Rg n S) {c : Int} (c0 : 0 ≤ c) (c1 : c < n) (h3 : S c < 3)
    (hQ : ∀ M', WFr o M M' → Hold n o M' (growP L D n S c).1 → Q (growP L D n S c).2 M') : Calls 4 mX10_grow [.inr 55, .inr o, .inl c] M Q := by
  have h16 := hD.1
  have w1 := wrt_b L (factF D n S c) 118 1 9 (by omega) (L 0 0).toNat 0
  have w2 := wrt_b L (factF D n S c) 102 0 99 (by omega) (L 0 0).toNat 0
  have r1 := (hR.1 c c0 c1).1
  have hR1 := hR.p81 h16 (drw_b S)
  refine e_X10_grow ho (p_tellValues ho hD hs hH hR c0 c1 (fun M1 f1 hH1 hF1 => ?_))
  have s1 := hs.mv ho f1
  refine p_X3_fells hW s1.2.2 hF1 (fun M2 f2 => ?_)
  have s2 := s1.mv ho (WFr.of28 o f2)
  have hF2 : ∀ j, 0 ≤ j → j < 11 → M2 56 j = factF D n S c j := fun j a b => by rw [f2 56 j (by first | omega | decide) (by first | omega | decide)]; exact hF1 j a b
  refine p_X3_worthOf (by first | omega | decide) hW s2.2.2 hF2 (fun M3 f3 => ?_)
  have s3 := s2.mv ho (WFr.of28 o f3)
  have hF3 : ∀ j, 0 ≤ j → j < 11 → M3 56 j = factF D n S c j := fun j a b => by rw [f3 56 j (by first | omega | decide) (by first | omega | decide)]; exact hF2 j a b
  refine p_X3_worthOf (by first | omega | decide) hW s3.2.2 hF3 (fun M4 f4 => ?_)
  have s4 := s3.mv ho (WFr.of28 o f4)
  have hH4 := ((hH1.of28 ho f2).of28 ho f3).of28 ho f4
  have fr : WFr o M M4 := f1.tr ((WFr.of28 o f2).tr ((WFr.of28 o f3).tr (WFr.of28 o f4)))
  obtain ⟨g1, -⟩ := hH4.1 c c0 c1
  rw [upS_ne _ _ (by omega)] at g1
  rw [g1]
  unfold growP at hQ
  refine ⟨fun q => ⟨by omega, fun q2 => ⟨by omega, fun q3 => ?_, fun q3 => ⟨by omega, ?_⟩⟩, fun q2 => ⟨by omega, ?_⟩⟩, fun q => ⟨by omega, ?_⟩⟩
  · rw [if_neg (fun z => z q), if_pos (show S c = 2 by omega)] at hQ
    refine p_goAbout ho hD s4 hH4 hR1 c0 c1 w1.1 w1.2 (fun M5 f5 hH5 => ?_)
    refine p_forget ho hD (s4.mv ho f5) hH5 (about_Rg hD hR1 c0 c1 w1.1 w1.2).1 c0 c1 w2.1 w2.2 (fun M6 f6 hH6 => ?_)
    exact hQ M6 (fr.tr (f5.tr f6)) hH6
  · rw [if_neg (fun z => z q), if_neg (show ¬ S c = 2 by omega)] at hQ
    have f5 : WFr o M4 (mput M4 (o + 1) c 2) := WFr.put _ _ _ (by omega)
    refine p_forget ho hD (s4.mv ho f5) (hH4.p1 h16 c0 c1 2) (hR1.p0 h16 c0 c1 (by omega)) c0 c1 w2.1 w2.2 (fun M6 f6 hH6 => ?_)
    rw [q3] at hQ
    exact hQ M6 (fr.tr (f5.tr f6)) hH6
  · rw [if_neg (fun z => z q), if_neg (show ¬ S c = 2 by omega)] at hQ
    have f5 : WFr o M4 (mput M4 (o + 1) c 1) := WFr.put _ _ _ (by omega)
    refine p_forget ho hD (s4.mv ho f5) (hH4.p1 h16 c0 c1 1) (hR1.p0 h16 c0 c1 (by omega)) c0 c1 w2.1 w2.2 (fun M6 f6 hH6 => ?_)
    rw [q2] at hQ
    exact hQ M6 (fr.tr (f5.tr f6)) hH6
  · rw [if_pos q] at hQ
    exact hQ _ (fr.tr (WFr.put _ _ _ (by omega))) (hH4.p1 h16 c0 c1 4)
theorem l_season {Q : Int → Me → Prop} {M0 : Me} {o : Nat} (ho : isX8 o) {n : Int} {D L : Me} (hW : LawW L) (hD : Dk n D) (hs0 : StC n D L M0) {T : Int → Int} {R : Int} (hT : T 80 ≤ 9998) (hT0 : 0 ≤ T 80) (hQ : ∀ M', WFr o M0 M' → Hold n o M' (upS T 80 (T 80 + 1)) → Q R M') :
    ∀ (k : Nat) (c m : Int) (S : Int → Int) (M : Me), 0 ≤ c → c + k = n → 0 ≤ m → m ≤ 11 * c → WFr o M0 M → Hold n o M S → Rg n S → seasG L D n k c S m = (T, R) → Go (km 5 mX10_season Q) 16 [some (.inr 55), some (.inr o), some (.inl m), some (.inl c)] [] M := by
  have h16 := hD.1
  intro k
  induction k with
  | zero =>
    intro c m S M c0 hc m0 m1 f hH hR he
    simp only [seasG, Prod.mk.injEq] at he
    rw [he.1] at hH
    refine s_X10_season_16 ho _ _ M ⟨fun _ => ?_, fun q => by rw [(hs0.mv ho f).1] at q; exfalso; omega⟩
    rw [hH.2.1, he.2]
    exact ⟨by unfold cn; omega, hQ _ (f.tr (WFr.put _ _ _ (by omega))) (hH.q5 h16 _)⟩
  | succ k ih =>
    intro c m S M c0 hc m0 m1 f hH hR he
    simp only [seasG] at he
    obtain ⟨g1, -⟩ := hH.1 c c0 (by omega)
    have r1 := (hR.1 c c0 (by omega)).1
    refine s_X10_season_16 ho _ _ M ⟨fun q => by rw [(hs0.mv ho f).1] at q; exfalso; omega, fun _ => ?_⟩
    rw [g1]
    have skip : ¬ S c < 3 → Go (km 5 mX10_season Q) 16 [some (.inr 55), some (.inr o), some (.inl m), some (.inl (c + 1))] [] M := fun q => by
      rw [if_neg q] at he
      exact ih (c + 1) m S M (by omega) (by omega) m0 (by omega) f hH hR he
    refine ⟨by omega, fun q => ⟨by unfold cn; omega, skip (by omega)⟩, fun q => ⟨by omega, fun q2 => ⟨by unfold cn; omega, skip (by omega)⟩, fun q2 => ?_⟩⟩
    have h3 : S c < 3 := by omega
    rw [if_pos h3] at he
    have gR := grow_Rg (L := L) hD hR c0 (by omega) h3
    refine p_grow ho hW hD (hs0.mv ho f) hH hR c0 (by omega) h3 (fun M' f' hH' => ⟨by unfold cn; omega, by unfold cn; omega, ?_⟩)
    exact ih (c + 1) _ _ M' (by omega) (by omega) (by omega) (by omega) (f.tr f') hH' gR.1 he
theorem p_season {Q : Int → Me → Prop} {M : Me} {o : Nat} (ho : isX8 o) {n : Int} {D L : Me} {S : Int → Int} (hW : LawW L) (hD : Dk n D) (hs : StC n D L M) (hH : Hold n o M S) (hR : Rg n S)
    (hQ : ∀ M', WFr o M M' → Hold n o M' (seasP L D n S).1 → Q (seasP L D n S).2 M') : Calls 5 mX10_season [.inr 55, .inr o] M Q := by
  have h0 := hD.2.1
  have r80 := hR.2.1
  refine e_X10_season ho ?_
  rw [hH.2.1]
  unfold seasP at hQ
  refine ⟨fun q => ?_, fun q => ?_⟩
  · rw [if_neg (by omega)] at hQ
    have e := seasG80 (L := L) (D := D) hD.1 n.toNat 0 S 0 (by omega) (by omega)
    exact l_season ho hW hD hs (T := (seasG L D n n.toNat 0 S 0).1) (R := (seasG L D n n.toNat 0 S 0).2) (by omega) (by omega) hQ n.toNat 0 0 S M (by omega) (by omega) (by omega) (by omega) (WFr.rf _ _) hH hR rfl
  · rw [if_pos q] at hQ
    exact hQ M (WFr.rf _ _) hH
theorem l_go {Q : Int → Me → Prop} {M0 : Me} {o : Nat} (ho : isX8 o) {n : Int} {D L : Me} (hW : LawW L) (hD : Dk n D) (hs0 : StC n D L M0) {a : Int} (a100 : a ≤ 100) {T : Int → Int} {R : Int} (hQ : ∀ M', WFr o M0 M' → Hold n o M' T → Q R M') :
    ∀ (k : Nat) (i m : Int) (S : Int → Int) (M : Me), 0 ≤ i → i + k = a → 0 ≤ m → m ≤ 176 * i → WFr o M0 M → Hold n o M S → Rg n S → goesP L D n k S m = (T, R) → Go (km 6 mX10_go Q) 5 [some (.inr 55), some (.inr o), some (.inl a), some (.inl m), some (.inl i)] [] M := by
  intro k
  induction k with
  | zero =>
    intro i m S M i0 hi m0 m1 f hH hR he
    simp only [goesP, Prod.mk.injEq] at he
    refine s_X10_go_5 ho _ _ _ M ⟨fun _ => ?_, fun q => by exfalso; omega⟩
    rw [he.2]
    exact hQ M f (he.1 ▸ hH)
  | succ k ih =>
    intro i m S M i0 hi m0 m1 f hH hR he
    simp only [goesP] at he
    have g := seas_Rg (L := L) hD hR
    refine s_X10_go_5 ho _ _ _ M ⟨fun q => by exfalso; omega, fun _ => ?_⟩
    refine p_season ho hW hD (hs0.mv ho f) hH hR (fun M' f' hH' => ⟨by unfold cn; omega, by unfold cn; omega, ?_⟩)
    exact ih (i + 1) _ _ M' (by omega) (by omega) (by omega) (by omega) (f.tr f') hH' g.1 he
theorem p_go {Q : Int → Me → Prop} {M : Me} {o : Nat} (ho : isX8 o) {n : Int} {D L : Me} {S : Int → Int} (hW : LawW L) (hD : Dk n D) (hs : StC n D L M) (hH : Hold n o M S) (hR : Rg n S) {a : Int} (a0 : 0 ≤ a) (a100 : a ≤ 100)
    (hQ : ∀ M', WFr o M M' → Hold n o M' (goesP L D n a.toNat S 0).1 → Q (goesP L D n a.toNat S 0).2 M') : Calls 6 mX10_go [.inr 55, .inr o, .inl a] M Q :=
  e_X10_go ho (l_go ho hW hD hs a100 hQ a.toNat 0 0 S M (by omega) (by omega) (by omega) (by omega) (WFr.rf _ _) hH hR rfl)
