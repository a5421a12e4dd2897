/-! ===== the first fault of a condition ===== -/
def CbC (S : Int → Int) (P : Option (Int × Int) → Int → Int → Int → Int → Prop) : Prop :=
  (∀ (o p n : Int), S p = 33 → 6 ≤ o → P none o p n (-1000 * 5 - p)) ∧
  (∀ (o p n f : Int), S p = 33 → o < 6 → P none (o + 1) (p + 1) n f → P none o p n f) ∧
  (∀ (o p n : Int), S p = 40 → 6 ≤ o → P none o p n (-1000 * 5 - p)) ∧
  (∀ (o p n f : Int), S p = 40 → o < 6 → P (some (0, 0)) (o + 1) (p + 1) n f → P none o p n f) ∧
  (∀ (L : Me) (o p n p1 n1 tP tW : Int), S p = 40 → o < 6 → Cz S L (some (tP, tW)) (o + 1) (p + 1) n p1 n1 → S p1 ≠ 41 → P none o p n (-1000 * 1 - p1)) ∧
  (∀ (o p n f : Int), S p ≠ 33 → S p ≠ 40 → Pb S (some (0, 0)) o p n f → P none o p n f) ∧
  (∀ (L : Me) (o p n p1 n1 : Int), S p ≠ 33 → S p ≠ 40 → Pz S L (some (0, 0)) o p n p1 n1 → ¬ isC (S p1) → P none o p n (-1000 * 1 - p1)) ∧
  (∀ (L : Me) (o p n p1 n1 f : Int), S p ≠ 33 → S p ≠ 40 → Pz S L (some (0, 0)) o p n p1 n1 → isC (S p1) → Pb S (some (0, 0)) o (p1 + 1) n1 f → P none o p n f) ∧
  (∀ (o p n f : Int), P none o p n f → P (some (0, 0)) o p n f) ∧
  (∀ (L : Me) (o p n p1 n1 f : Int), Cz S L none o p n p1 n1 → (S p1 = 38 ∨ S p1 = 124) → P (some (0, 0)) o (p1 + 1) (n1 + 1) f → P (some (0, 0)) o p n f)
def Cb (S : Int → Int) (x0 : Option (Int × Int)) (x1 : Int) (x2 : Int) (x3 : Int) (x4 : Int) : Prop := ∀ P : Option (Int × Int) → Int → Int → Int → Int → Prop, CbC S P → P x0 x1 x2 x3 x4
theorem Cb.nO {S : Int → Int} {o p n : Int} (h0 : S p = 33) (h1 : 6 ≤ o) : Cb S none o p n (-1000 * 5 - p) := fun P hP => hP.1 o p n h0 h1
theorem Cb.nI {S : Int → Int} {o p n f : Int} (h0 : S p = 33) (h1 : o < 6) (h2 : Cb S none (o + 1) (p + 1) n f) : Cb S none o p n f := fun P hP => hP.2.1 o p n f h0 h1 (h2 P hP)
theorem Cb.oO {S : Int → Int} {o p n : Int} (h0 : S p = 40) (h1 : 6 ≤ o) : Cb S none o p n (-1000 * 5 - p) := fun P hP => hP.2.2.1 o p n h0 h1
theorem Cb.oI {S : Int → Int} {o p n f : Int} (h0 : S p = 40) (h1 : o < 6) (h2 : Cb S (some (0, 0)) (o + 1) (p + 1) n f) : Cb S none o p n f := fun P hP => hP.2.2.2.1 o p n f h0 h1 (h2 P hP)
theorem Cb.oC {S : Int → Int} {L : Me} {o p n p1 n1 tP tW : Int} (h0 : S p = 40) (h1 : o < 6) (h2 : Cz S L (some (tP, tW)) (o + 1) (p + 1) n p1 n1) (h3 : S p1 ≠ 41) : Cb S none o p n (-1000 * 1 - p1) := fun P hP => hP.2.2.2.2.1 L o p n p1 n1 tP tW h0 h1 h2 h3
theorem Cb.c1 {S : Int → Int} {o p n f : Int} (h0 : S p ≠ 33) (h1 : S p ≠ 40) (h2 : Pb S (some (0, 0)) o p n f) : Cb S none o p n f := fun P hP => hP.2.2.2.2.2.1 o p n f h0 h1 h2
theorem Cb.c2 {S : Int → Int} {L : Me} {o p n p1 n1 : Int} (h0 : S p ≠ 33) (h1 : S p ≠ 40) (h2 : Pz S L (some (0, 0)) o p n p1 n1) (h3 : ¬ isC (S p1)) : Cb S none o p n (-1000 * 1 - p1) := fun P hP => hP.2.2.2.2.2.2.1 L o p n p1 n1 h0 h1 h2 h3
theorem Cb.c3 {S : Int → Int} {L : Me} {o p n p1 n1 f : Int} (h0 : S p ≠ 33) (h1 : S p ≠ 40) (h2 : Pz S L (some (0, 0)) o p n p1 n1) (h3 : isC (S p1)) (h4 : Pb S (some (0, 0)) o (p1 + 1) n1 f) : Cb S none o p n f := fun P hP => hP.2.2.2.2.2.2.2.1 L o p n p1 n1 f h0 h1 h2 h3 h4
theorem Cb.d1 {S : Int → Int} {o p n f : Int} (h0 : Cb S none o p n f) : Cb S (some (0, 0)) o p n f := fun P hP => hP.2.2.2.2.2.2.2.2.1 o p n f (h0 P hP)
theorem Cb.d2 {S : Int → Int} {L : Me} {o p n p1 n1 f : Int} (h0 : Cz S L none o p n p1 n1) (h1 : (S p1 = 38 ∨ S p1 = 124)) (h2 : Cb S (some (0, 0)) o (p1 + 1) (n1 + 1) f) : Cb S (some (0, 0)) o p n f := fun P hP => hP.2.2.2.2.2.2.2.2.2 L o p n p1 n1 f h0 h1 (h2 P hP)
theorem Cb.ind {S : Int → Int} {P : Option (Int × Int) → Int → Int → Int → Int → Prop} (c0 : ∀ (o p n : Int), S p = 33 → 6 ≤ o → P none o p n (-1000 * 5 - p)) (c1 : ∀ (o p n f : Int), S p = 33 → o < 6 → Cb S none (o + 1) (p + 1) n f → P none (o + 1) (p + 1) n f → P none o p n f) (c2 : ∀ (o p n : Int), S p = 40 → 6 ≤ o → P none o p n (-1000 * 5 - p)) (c3 : ∀ (o p n f : Int), S p = 40 → o < 6 → Cb S (some (0, 0)) (o + 1) (p + 1) n f → P (some (0, 0)) (o + 1) (p + 1) n f → P none o p n f) (c4 : ∀ (L : Me) (o p n p1 n1 tP tW : Int), S p = 40 → o < 6 → Cz S L (some (tP, tW)) (o + 1) (p + 1) n p1 n1 → S p1 ≠ 41 → P none o p n (-1000 * 1 - p1)) (c5 : ∀ (o p n f : Int), S p ≠ 33 → S p ≠ 40 → Pb S (some (0, 0)) o p n f → P none o p n f) (c6 : ∀ (L : Me) (o p n p1 n1 : Int), S p ≠ 33 → S p ≠ 40 → Pz S L (some (0, 0)) o p n p1 n1 → ¬ isC (S p1) → P none o p n (-1000 * 1 - p1)) (c7 : ∀ (L : Me) (o p n p1 n1 f : Int), S p ≠ 33 → S p ≠ 40 → Pz S L (some (0, 0)) o p n p1 n1 → isC (S p1) → Pb S (some (0, 0)) o (p1 + 1) n1 f → P none o p n f) (c8 : ∀ (o p n f : Int), Cb S none o p n f → P none o p n f → P (some (0, 0)) o p n f) (c9 : ∀ (L : Me) (o p n p1 n1 f : Int), Cz S L none o p n p1 n1 → (S p1 = 38 ∨ S p1 = 124) → Cb S (some (0, 0)) o (p1 + 1) (n1 + 1) f → P (some (0, 0)) o (p1 + 1) (n1 + 1) f → P (some (0, 0)) o p n f) {x0 : Option (Int × Int)} {x1 : Int} {x2 : Int} {x3 : Int} {x4 : Int} (h : Cb S x0 x1 x2 x3 x4) : P x0 x1 x2 x3 x4 :=
  (h (fun x0 x1 x2 x3 x4 => Cb S x0 x1 x2 x3 x4 ∧ P x0 x1 x2 x3 x4) ⟨fun o p n h0 h1 => ⟨Cb.nO h0 h1, c0 o p n h0 h1⟩,
    fun o p n f h0 h1 h2 => ⟨Cb.nI h0 h1 h2.1, c1 o p n f h0 h1 h2.1 h2.2⟩,
    fun o p n h0 h1 => ⟨Cb.oO h0 h1, c2 o p n h0 h1⟩,
    fun o p n f h0 h1 h2 => ⟨Cb.oI h0 h1 h2.1, c3 o p n f h0 h1 h2.1 h2.2⟩,
    fun L o p n p1 n1 tP tW h0 h1 h2 h3 => ⟨Cb.oC h0 h1 h2 h3, c4 L o p n p1 n1 tP tW h0 h1 h2 h3⟩,
    fun o p n f h0 h1 h2 => ⟨Cb.c1 h0 h1 h2, c5 o p n f h0 h1 h2⟩,
    fun L o p n p1 n1 h0 h1 h2 h3 => ⟨Cb.c2 h0 h1 h2 h3, c6 L o p n p1 n1 h0 h1 h2 h3⟩,
    fun L o p n p1 n1 f h0 h1 h2 h3 h4 => ⟨Cb.c3 h0 h1 h2 h3 h4, c7 L o p n p1 n1 f h0 h1 h2 h3 h4⟩,
    fun o p n f h0 => ⟨Cb.d1 h0.1, c8 o p n f h0.1 h0.2⟩,
    fun L o p n p1 n1 f h0 h1 h2 => ⟨Cb.d2 h0 h1 h2.1, c9 L o p n p1 n1 f h0 h1 h2.1 h2.2⟩⟩).2
/-! a fault leaves the reference's rows as they may be: what landing needs -/
theorem Cz.ok {S : Int → Int} {L : Me} {e : Int} (hS : Sg S e) {k : Option (Int × Int)} {o p n p' n' : Int} (h : Cz S L k o p n p' n') (o1 : 1 ≤ o) (o6 : o ≤ 6) (n0 : 0 ≤ n) (n1 : n' ≤ 240) : ∀ i, n ≤ i → i < n' → (0 ≤ L 5 i ∧ L 5 i ≤ 12) ∧ 0 ≤ L 6 i ∧ L 6 i < 1048576 := by
  have z : shN (L 5) n (n - n).toNat = 0 := by rw [show (n - n).toNat = 0 by omega]; rfl
  obtain ⟨-, a2, -⟩ := h.sh hS (sh := fun i => shN (L 5) n (i - n).toNat) (fun i x y => shN_s (L 5) n x) o1 o6 n0 n1 z
  intro i x y
  have := a2 n' (Int.le_refl _) i x y
  exact ⟨this.2.1, this.2.2.1⟩
def jW (op n : Int) (A : List Int) : Prop := A = [] ∨ ∃ i, A = [1048576 * op + i] ∧ 0 ≤ i ∧ i < n
def cdW (n : Int) (M : Me) : Prop := ∀ i, 0 ≤ i → i < n → 0 ≤ M 89 i ∧ M 89 i / 1048576 ≤ 12
theorem w_jA {T : Int → Int} {e p o n b op : Int} {A W : List Int} {M : Me} {Q : Int → Me → Prop} (hA : jW op n A) (h : RS T e p o n (A ++ W) M) (hc : cdW n M) (hl : W.length < 250) (hop : op = 11 ∨ (op = 12 ∧ b ≠ 0)) (n1 : n ≤ 250)
    (hQ : ∀ M', RS T e p o n W M' → cdW n M' → FRr M M' → Go (km 1 mX12_lands Q) 0 [some (.inr 76), some (.inl b), none] [] M') : Go (km 1 mX12_lands Q) 0 [some (.inr 76), some (.inl b), none] [] M := by
  rcases hA with hA | ⟨i, hA, i0, i1⟩
  · rw [hA] at h
    exact hQ M h hc (FRr.rf M)
  · rw [hA] at h
    have r : RS T e p o n ((1048576 * op + i) :: W) M := h
    obtain ⟨t1, t2, t3⟩ := r.top
    have hl' : ((1048576 * op + i) :: W).length ≤ 260 := by simp only [List.length_cons]; omega
    have hd : hdW ((1048576 * op + i) :: W) = op := by show (1048576 * op + i) / 1048576 = op; omega
    have em : (1048576 * op + i) % 1048576 = i := by omega
    have hx := hc i i0 i1
    have e20 : M 76 20 - 1 = (W.length : Int) := by omega
    have r3 := r.2.2.2.1
    have cont : Go (km 1 mX12_lands Q) 0 [some (.inr 76), some (.inl b), none] [] (mput (mput M 89 i (1048576 * (M 89 i / 1048576) + n)) 76 20 (W.length : Int)) := by
      have hf : FRr M (mput (mput M 89 i (1048576 * (M 89 i / 1048576) + n)) 76 20 (W.length : Int)) := (FRr.p89 M _ _).tr (FRr.p76 _ _ (by omega))
      refine hQ _ ?_ (fun i' x y => ?_) hf
      · obtain ⟨y0, y1, y2, y3, y4, y5, y6⟩ := r
        refine RS.mv (W := (1048576 * op + i) :: W) ⟨y0, y1, y2, y3, y4, y5, y6⟩ hf ?_ ?_ ?_ (mput_same ..) (fun w hw => y5 w (List.mem_cons_of_mem _ hw)) (stO_congr W (fun j _ _ => ?_) y6.2)
        · rw [mput_ni _ _ _ _ (by decide), mput_ne _ _ _ _ (by decide)]; exact y1
        · rw [mput_ni _ _ _ _ (by decide), mput_ne _ _ _ _ (by decide)]; exact y2
        · rw [mput_ni _ _ _ _ (by decide), mput_ne _ _ _ _ (by decide)]; exact y3
        · show mput (mput M 89 i (1048576 * (M 89 i / 1048576) + n)) 76 20 (W.length : Int) 90 (j + -1) = M 90 (j + -1)
          rw [mput_ne _ _ _ _ (by decide), mput_ne _ _ _ _ (by decide)]
      · rw [mput_ne _ _ _ _ (by decide)]
        by_cases q : i' = i
        · subst q
          rw [mput_same]
          omega
        · rw [mput_ni _ _ _ _ q]; exact hc i' x y
    refine s_X12_lands_0 _ M (q_top r hl' ?_)
    rw [hd, e20, t1, em, r3]
    refine ⟨fun _ => ⟨by unfold cn; omega, by omega, t3, by omega, hx.1, by unfold cn; omega, by unfold cn; omega, by omega, by unfold cn; omega, cont⟩, fun z => ⟨fun y => by exfalso; omega, fun _ => q_top r hl' ?_⟩⟩
    rw [hd, e20, t1, em, r3]
    exact ⟨fun y => by exfalso; omega, fun _ => ⟨by unfold cn; omega, by omega, t3, by omega, hx.1, by unfold cn; omega, by unfold cn; omega, by omega, by unfold cn; omega, cont⟩⟩
