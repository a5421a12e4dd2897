/-! ===== the reference reads a whole condition ===== -/
theorem RS.zero {T : Int → Int} {e p o n : Int} {W : List Int} {M : Me} (r : RS T e p o n W M) : RS T e p 0 n [] (mput (mput M 76 18 0) 76 20 0) ∧ FRr M (mput (mput M 76 18 0) 76 20 0) ∧ ∀ i, (mput (mput M 76 18 0) 76 20 0) 89 i = M 89 i := by
  have hf : FRr M (mput (mput M 76 18 0) 76 20 0) := (FRr.p76 M _ (by omega)).tr (FRr.p76 _ _ (by omega))
  refine ⟨r.mv hf ?_ ?_ ?_ (mput_same ..) (fun w hw => absurd hw (by simp)) trivial, hf, fun i => ?_⟩
  · rw [mput_ni _ _ _ _ (by decide), mput_ni _ _ _ _ (by decide)]; exact r.2.1
  · rw [mput_ni _ _ _ _ (by decide), mput_same]
  · rw [mput_ni _ _ _ _ (by decide), mput_ni _ _ _ _ (by decide)]; exact r.2.2.2.1
  · rw [mput_ne _ _ _ _ (by decide), mput_ne _ _ _ _ (by decide)]
theorem q_cond {T : Int → Int} {e : Int} {L : Me} {Q : Int → Me → Prop} (hS : Sg (Sx T e) e) (he : e ≤ 240) {tP tW p n p1 n1 o : Int} {W : List Int} {M : Me} (h : Cz (Sx T e) L (some (tP, tW)) 1 (p + 1) n p1 n1) (h40 : Sx T e p = 40) (h41 : Sx T e p1 = 41) (n0 : 0 ≤ n) (np : n ≤ p) (r : RS T e p o n W M)
    (hQ : ∀ M', RS T e (p1 + 1) 0 n1 [] M' → CO L n n1 [] M' → Fx n M M' → Q 1 M') : Calls 6 mX12_readsCondition [.inr 76] M Q := by
  have l := h.le hS
  have hp1 := hS.2 p1 (by omega)
  obtain ⟨r1, f1, g1⟩ := r.zero
  refine e_X12_readsCondition (q_hereS r (by omega) ⟨fun _ => ?_, fun z => absurd h40 z⟩)
  refine q_opens r1 (by simp) (by omega) (by omega) (by omega) (fun _ M2 r2 f2 g2 => ⟨fun _ => ?_, fun z => by exfalso; omega⟩) (fun z => by exfalso; omega)
  have ih := Cz.ref (Q := Q) (a := n) hS he n0 h
  simp only [MCs] at ih
  refine ih (by omega) (by omega) (Int.le_refl _) (by omega) [] [] [] M2 (Or.inl rfl) (Or.inl rfl) (by simp only [List.length_nil]; omega) ⟨r2, CO.new _ M2 n _⟩ (fun M3 A B hA hB hl c3 x3 _ _ => ?_)
  have lB := hB.len
  refine s_X12_readsCondition_92 M3 (q_hereS c3.1 (by omega) ⟨fun z => absurd h41 z, fun _ => Calls.of (by decide) (Nat.le_of_ble_eq_true rfl) ?_⟩)
  refine l_jA hA c3 (by simp only [List.length_append, List.length_cons, List.length_nil]; omega) (Or.inl rfl) n0 (by omega) (by omega) (Or.inl rfl) (fun M4 c4 x4 => ?_)
  refine l_jA hB c4 (by simp only [List.length_cons, List.length_nil]; omega) (by omega) n0 (by omega) (by omega) (Or.inl rfl) (fun M5 c5 x5 => ?_)
  have hd13 : hdW [1048576 * 13] = 13 := rfl
  refine l_stop c5.1 (by simp) (by rw [hd13]; decide) (by rw [hd13]; decide) ?_
  obtain ⟨t1, t2, t3⟩ := c5.1.top
  have hs := c5.1
  obtain ⟨y0, y1, y2, y3, y4, y5, y6⟩ := c5.1
  simp only [List.length_nil] at t2
  rw [t2, y2, y1, show ((0 : Nat) : Int) + 1 - 1 = 0 by decide, show (1 : Int) - 1 = 0 by decide]
  have hf : FRr M5 (mput (mput (mput M5 76 20 0) 76 18 0) 76 14 (p1 + 1)) := ((FRr.p76 M5 _ (by omega)).tr (FRr.p76 _ _ (by omega))).tr (FRr.p76 _ _ (by omega))
  have g : ∀ i, (mput (mput (mput M5 76 20 0) 76 18 0) 76 14 (p1 + 1)) 89 i = M5 89 i := fun i => by rw [mput_ne _ _ _ _ (by decide), mput_ne _ _ _ _ (by decide), mput_ne _ _ _ _ (by decide)]
  refine ⟨by unfold cn; omega, by unfold cn; omega, by unfold cn; omega, fun z => absurd rfl z, fun _ => hQ _ ?_ (fun i i0 i1 => ?_) ((((((Fx.nil f1 g1).tr (Fx.nil f2 g2)).tr x3).tr x4).tr x5).tr (Fx.nil hf g))⟩
  · refine hs.mv hf (mput_same ..) ?_ ?_ ?_ (fun w hw => absurd hw (by simp)) trivial
    · rw [mput_ni _ _ _ _ (by decide), mput_same]
    · rw [mput_ni _ _ _ _ (by decide), mput_ni _ _ _ _ (by decide), mput_ni _ _ _ _ (by decide)]; exact y3
    · rw [mput_ni _ _ _ _ (by decide), mput_ni _ _ _ _ (by decide), mput_same]; rfl
  · rw [g i]
    rcases c5.2 i i0 i1 with z | ⟨z1, z2, z3, z4⟩
    · exact Or.inl z
    · exfalso
      have := List.mem_singleton.mp z3
      omega
theorem q_condB {T : Int → Int} {e : Int} {Q : Int → Me → Prop} (hS : Sg (Sx T e) e) (he : e ≤ 240) {p n f o : Int} {W : List Int} {M : Me} (h : Cb (Sx T e) (some (0, 0)) 1 (p + 1) n f) (h40 : Sx T e p = 40) (n0 : 0 ≤ n) (np : n ≤ p) (r : RS T e p o n W M) (hc : cdW n M)
    (hQ : ∀ M', FRr M M' → M' 76 16 = f → Q 0 M') : Calls 6 mX12_readsCondition [.inr 76] M Q := by
  have hp := hS.2 p (by omega)
  obtain ⟨r1, f1, g1⟩ := r.zero
  refine e_X12_readsCondition (q_hereS r (by omega) ⟨fun _ => ?_, fun z => absurd h40 z⟩)
  refine q_opens r1 (by simp) (by omega) (by omega) (by omega) (fun _ M2 r2 f2 g2 => ⟨fun _ => ?_, fun z => by exfalso; omega⟩) (fun z => by exfalso; omega)
  have ih := Cb.ref (Q := Q) hS he h
  simp only [MDs] at ih
  exact ih (by omega) (by omega) n0 (by omega) (by omega) [] [] [] M2 (Or.inl rfl) (Or.inl rfl) (by simp only [List.length_nil]; omega) r2 ((hc.same g1).same g2) (fun M' f' g' => hQ M' ((f1.tr f2).tr f') g')
/-- the condition read well, but not closed -/
theorem q_condC {T : Int → Int} {e : Int} {L : Me} {Q : Int → Me → Prop} (hS : Sg (Sx T e) e) (he : e ≤ 240) {tP tW p n p1 n1 o : Int} {W : List Int} {M : Me} (h : Cz (Sx T e) L (some (tP, tW)) 1 (p + 1) n p1 n1) (h40 : Sx T e p = 40) (h41 : Sx T e p1 ≠ 41) (n0 : 0 ≤ n) (np : n ≤ p) (r : RS T e p o n W M)
    (hQ : ∀ M', FRr M M' → M' 76 16 = -1000 * 1 - p1 → Q 0 M') : Calls 6 mX12_readsCondition [.inr 76] M Q := by
  have l := h.le hS
  obtain ⟨r1, f1, g1⟩ := r.zero
  refine e_X12_readsCondition (q_hereS r (by omega) ⟨fun _ => ?_, fun z => absurd h40 z⟩)
  refine q_opens r1 (by simp) (by omega) (by omega) (by omega) (fun _ M2 r2 f2 g2 => ⟨fun _ => ?_, fun z => by exfalso; omega⟩) (fun z => by exfalso; omega)
  have ih := Cz.ref (Q := Q) (a := n) hS he n0 h
  simp only [MCs] at ih
  refine ih (by omega) (by omega) (Int.le_refl _) (by omega) [] [] [] M2 (Or.inl rfl) (Or.inl rfl) (by simp only [List.length_nil]; omega) ⟨r2, CO.new _ M2 n _⟩ (fun M3 A B hA hB hl c3 x3 a1 a2 => ?_)
  have p10 : 0 ≤ p1 := by omega
  refine s_X12_readsCondition_92 M3 (q_hereS c3.1 p10 ⟨fun _ => q_hereS c3.1 p10 ⟨fun z => absurd z a1, fun _ => q_hereS c3.1 p10 ⟨fun z => absurd z a2, fun _ => ?_⟩⟩, fun z => absurd z h41⟩)
  rw [c3.1.2.1]
  exact q_wrong (by omega) (by omega) ⟨Or.inl rfl, hQ _ (((f1.tr f2).tr x3.1).tr (FRr.p76 M3 _ (by omega))) (mput_same ..)⟩
