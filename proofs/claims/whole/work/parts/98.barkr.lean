/-! ===== bark: the reference ===== -/
def BFr (M M' : Me) : Prop := ∀ k i, (k = 76 → i ≠ 14 ∧ i ≠ 16 ∧ i ≠ 17) → M' k i = M k i
theorem BFr.rf (M : Me) : BFr M M := fun _ _ _ => rfl
theorem BFr.tr {A B C : Me} (h : BFr A B) (h' : BFr B C) : BFr A C := fun k i a => (h' k i a).trans (h k i a)
theorem BFr.p14 (M : Me) (v : Int) : BFr M (mput M 76 14 v) := fun k i a => by
  by_cases q : k = 76
  · subst q; exact mput_ni _ _ _ _ (a rfl).1
  · exact mput_ne _ _ _ _ q
theorem BFr.p16 (M : Me) (v : Int) : BFr M (mput M 76 16 v) := fun k i a => by
  by_cases q : k = 76
  · subst q; exact mput_ni _ _ _ _ (a rfl).2.1
  · exact mput_ne _ _ _ _ q
theorem BFr.p17 (M : Me) (v : Int) : BFr M (mput M 76 17 v) := fun k i a => by
  by_cases q : k = 76
  · subst q; exact mput_ni _ _ _ _ (a rfl).2.2
  · exact mput_ne _ _ _ _ q
theorem RT.mv {M M' : Me} {T : Int → Int} {e : Int} (h : RT M T e) (f : BFr M M') : RT M' T e :=
  ⟨by rw [f 76 15 (by first | omega | decide)]; exact h.1, h.2.1, fun i a b => by rw [f 88 i (by first | omega | decide)]; exact h.2.2 i a b⟩
theorem RT.put {M : Me} {T : Int → Int} {e : Int} (h : RT M T e) {k : Nat} (i v : Int) (hk : k ≠ 76 ∧ k ≠ 88) : RT (mput M k i v) T e :=
  ⟨by rw [mput_ne _ _ _ _ (fun q => hk.1 q.symm)]; exact h.1, h.2.1, fun j a b => by rw [mput_ne _ _ _ _ (fun q => hk.2 q.symm)]; exact h.2.2 j a b⟩
theorem l27 {M : Me} {T : Int → Int} {e hi fr : Int} {Q : Int → Me → Prop} (hT : RT M T e) (p0 : 0 ≤ M 76 14) (pe : M 76 14 ≤ e) (f0 : 0 ≤ fr) (fe : fr ≤ e) (n0 : 0 ≤ M 76 17 ∧ M 76 17 ≤ 99)
    (h0 : ¬ isD (sgS T e (M 76 14, 0)) → (M 76 17 ≤ hi → Q 1 M) ∧ (hi < M 76 17 → Q 0 (mput M 76 16 (-1000 * 3 - fr))))
    (h1 : isD (sgS T e (M 76 14, 0)) → (M 76 14 = fr + 2 → Q 0 (mput M 76 16 (-1000 * 2 - M 76 14))) ∧ (M 76 14 ≠ fr + 2 → Go (km 2 mX12_readsWithin Q) 27 [some (.inr 76), some (.inl hi), some (.inl fr)] [] (mput (mput M 76 17 (10 * M 76 17 + sgS T e (M 76 14, 0) - 48)) 76 14 (M 76 14 + 1)))) :
    Go (km 2 mX12_readsWithin Q) 27 [some (.inr 76), some (.inl hi), some (.inl fr)] [] M := by
  have h2 := hT.2.1
  refine s_X12_readsWithin_27 _ _ M (q_isDigit hT p0 (fun d => ⟨fun z => absurd z (by first | omega | decide), fun _ => ⟨by unfold cn; omega, fun z => ⟨by unfold cn; omega, q_here hT p0 ?_⟩, fun z => q_wrong (by omega) (by omega) ⟨Or.inl rfl, (h1 d).1 z⟩⟩⟩) (fun d => ⟨fun _ => ⟨(h0 d).1, fun z => q_wrong (by omega) (by omega) ⟨fun _ => (h0 d).2 z, fun y => absurd rfl y⟩⟩, fun z => absurd rfl z⟩))
  have d' := d
  unfold isD at d'
  exact ⟨by unfold cn; omega, by unfold cn; omega, by unfold cn; omega, (h1 d).2 z⟩
theorem sg_at {T : Int → Int} {e p : Int} (h : sgS T e (p, 0) ≠ -1) : 0 ≤ p ∧ p < e := ⟨(sg_pos h).2.1, (sg_pos h).2.2.1⟩
theorem D_ne {x : Int} (h : isD x) : x ≠ -1 := fun q => by rw [q] at h; exact not_isD_neg h
theorem L_ne {x : Int} (h : isL x) : x ≠ -1 := fun q => by rw [q] at h; exact not_isL_neg h
theorem q_within {M : Me} {T : Int → Int} {e hi : Int} {Q : Int → Me → Prop} (hT : RT M T e) (p0 : 0 ≤ M 76 14) (pe : M 76 14 ≤ e) (hi0 : 0 ≤ hi)
    (h1 : (nmS T e hi (M 76 14, 0)).2 = 0 → ∀ M', BFr M M' → M' 76 14 = (nmS T e hi (M 76 14, 0)).1 → M' 76 17 = nmV T e (M 76 14, 0) → Q 1 M')
    (h0 : (nmS T e hi (M 76 14, 0)).2 ≠ 0 → ∀ M', BFr M M' → M' 76 16 = (nmS T e hi (M 76 14, 0)).2 → Q 0 M') : Calls 2 mX12_readsWithin [.inr 76, .inl hi] M Q := by
  have h260 := hT.2.1
  obtain ⟨p, hp⟩ : ∃ p, p = M 76 14 := ⟨_, rfl⟩
  rw [← hp] at h1 h0 p0 pe
  refine e_X12_readsWithin (q_isDigit hT (by rw [← hp]; exact p0) (fun d => ⟨fun _ => ?_, fun z => absurd z (by first | omega | decide)⟩) (fun d => ⟨fun z => absurd rfl z, fun _ => q_wrong (by omega) (by omega) ⟨Or.inl rfl, ?_⟩⟩))
  · rw [← hp] at d ⊢
    have dd := d
    unfold isD at dd
    obtain ⟨pa, pb⟩ := sg_at (D_ne d)
    have w1 : dgS T e (p, 0) = (p + 1, 0) := by unfold dgS; rw [if_pos d]
    have v1 : dgV T e (p, 0) = sgS T e (p, 0) - 48 := by unfold dgV; rw [if_pos d]
    obtain ⟨M1, hM1⟩ : ∃ M1, M1 = mput M 76 17 0 := ⟨_, rfl⟩
    have f1 : BFr M M1 := by rw [hM1]; exact BFr.p17 _ _
    have p1 : M1 76 14 = p := by rw [hM1, mput_ni _ _ _ _ (by first | omega | decide)]; exact hp.symm
    have n1 : M1 76 17 = 0 := by rw [hM1, mput_same]
    rw [← hM1]
    refine l27 (hT.mv f1) (by omega) (by omega) p0 pe (by omega) (fun z => by rw [p1] at z; exact absurd d z) (fun _ => ⟨fun z => by exfalso; omega, fun _ => ?_⟩)
    rw [p1, n1]
    obtain ⟨M2, hM2⟩ : ∃ M2, M2 = mput (mput M1 76 17 (10 * 0 + sgS T e (p, 0) - 48)) 76 14 (p + 1) := ⟨_, rfl⟩
    have f2 : BFr M M2 := by rw [hM2]; exact f1.tr ((BFr.p17 _ _).tr (BFr.p14 _ _))
    have p2 : M2 76 14 = p + 1 := by rw [hM2, mput_same]
    have n2 : M2 76 17 = sgS T e (p, 0) - 48 := by rw [hM2, mput_ni _ _ _ _ (by first | omega | decide), mput_same]; omega
    rw [← hM2]
    refine l27 (hT.mv f2) (by omega) (by omega) p0 pe (by omega) (fun z => ?_) (fun d2 => ⟨fun z => by exfalso; omega, fun _ => ?_⟩)
    · rw [p2] at z
      have wA : nmA T e (p, 0) = (p + 1, 0) := by unfold nmA; rw [w1, if_neg z]
      have wB : nmB T e (p, 0) = (p + 1, 0) := by unfold nmB; rw [wA, if_neg z]
      have wV : nmV T e (p, 0) = sgS T e (p, 0) - 48 := by unfold nmV; rw [w1, if_neg z, v1]
      refine ⟨fun y => ?_, fun y => ?_⟩
      · have wS : nmS T e hi (p, 0) = (p + 1, 0) := by unfold nmS; rw [wV, if_neg (by omega), wB]
        rw [wS] at h1
        exact h1 rfl M2 f2 p2 (by rw [n2, wV])
      · have wS : nmS T e hi (p, 0) = (p + 1, -1000 * 3 - p) := by unfold nmS; rw [wV, if_pos (by omega), wB]; rfl
        rw [wS] at h0
        exact h0 (by simp only; omega) _ (f2.tr (BFr.p16 _ _)) (mput_same _ _ _ _)
    · rw [p2] at d2 ⊢
      have dd2 := d2
      unfold isD at dd2
      obtain ⟨pa2, pb2⟩ := sg_at (D_ne d2)
      have w2 : dgS T e (p + 1, 0) = (p + 2, 0) := by unfold dgS; rw [if_pos d2]; rw [show p + 1 + 1 = p + 2 by omega]
      have v2 : dgV T e (p + 1, 0) = sgS T e (p + 1, 0) - 48 := by unfold dgV; rw [if_pos d2]
      have wA : nmA T e (p, 0) = (p + 2, 0) := by unfold nmA; rw [w1, if_pos d2, w2]
      have wV : nmV T e (p, 0) = 10 * (sgS T e (p, 0) - 48) + (sgS T e (p + 1, 0) - 48) := by unfold nmV; rw [w1, if_pos d2, v1, v2]
      rw [n2]
      obtain ⟨M3, hM3⟩ : ∃ M3, M3 = mput (mput M2 76 17 (10 * (sgS T e (p, 0) - 48) + sgS T e (p + 1, 0) - 48)) 76 14 (p + 1 + 1) := ⟨_, rfl⟩
      have f3 : BFr M M3 := by rw [hM3]; exact f2.tr ((BFr.p17 _ _).tr (BFr.p14 _ _))
      have p3 : M3 76 14 = p + 2 := by rw [hM3, mput_same]; omega
      have n3 : M3 76 17 = nmV T e (p, 0) := by rw [hM3, mput_ni _ _ _ _ (by first | omega | decide), mput_same, wV]; omega
      have nb := nmV_b T e (p, 0)
      rw [← hM3]
      refine l27 (hT.mv f3) (by omega) (by omega) p0 pe (by omega) (fun z => ?_) (fun d3 => ⟨fun z => ?_, fun z => by exfalso; omega⟩)
      · rw [p3] at z
        have wB : nmB T e (p, 0) = (p + 2, 0) := by unfold nmB; rw [wA, if_neg z]
        refine ⟨fun y => ?_, fun y => ?_⟩
        · have wS : nmS T e hi (p, 0) = (p + 2, 0) := by unfold nmS; rw [if_neg (by omega), wB]
          rw [wS] at h1
          exact h1 rfl M3 f3 p3 n3
        · have wS : nmS T e hi (p, 0) = (p + 2, -1000 * 3 - p) := by unfold nmS; rw [if_pos (by omega), wB]; rfl
          rw [wS] at h0
          exact h0 (by simp only; omega) _ (f3.tr (BFr.p16 _ _)) (mput_same _ _ _ _)
      · rw [p3] at d3
        have wB : nmB T e (p, 0) = (p + 2, -1000 * 2 - (p + 2)) := by unfold nmB; rw [wA, if_pos d3]; rfl
        have wS : (nmS T e hi (p, 0)).2 = -1000 * 2 - (p + 2) := by
          unfold nmS
          rw [wB]
          split
          · rw [flS_k (by simp only; omega)]
          · rfl
        rw [wS] at h0
        refine h0 (by omega) _ (f3.tr (BFr.p16 _ _)) ?_
        rw [mput_same, p3]
  · rw [← hp] at d ⊢
    have w1 : dgS T e (p, 0) = (p, -1000 * 1 - p) := by unfold dgS; rw [if_neg d]; rfl
    have hk : (dgS T e (p, 0)).2 ≠ 0 := by rw [w1]; simp only; omega
    have v1 : dgV T e (p, 0) = 0 := by unfold dgV; rw [if_neg d]
    have wA : nmA T e (p, 0) = (p, -1000 * 1 - p) := by unfold nmA; rw [sg_f hk, if_neg not_isD_neg, w1]
    have wB : nmB T e (p, 0) = (p, -1000 * 1 - p) := by unfold nmB; rw [wA, sg_f (by simp only; omega), if_neg not_isD_neg]
    have wV : nmV T e (p, 0) = 0 := by unfold nmV; rw [sg_f hk, if_neg not_isD_neg, v1]
    have wS : nmS T e hi (p, 0) = (p, -1000 * 1 - p) := by unfold nmS; rw [wV, if_neg (by omega), wB]
    rw [wS] at h0
    exact h0 (by simp only; omega) _ (BFr.p16 _ _) (mput_same _ _ _ _)
/-! initials and dates -/
def IFr (c : Int) (M M' : Me) : Prop := ∀ k i, (k = 76 → i ≠ 14 ∧ i ≠ 16 ∧ i ≠ 17) → (k = 103 → i ≠ c) → (k = 104 → i ≠ c) → M' k i = M k i
theorem q_initials {M : Me} {T : Int → Int} {e c : Int} {Q : Int → Me → Prop} (hT : RT M T e) (hb : ∀ i, 0 ≤ i → i < e → 0 ≤ T i ∧ T i ≤ 255) (p0 : 0 ≤ M 76 14) (pe : M 76 14 ≤ e) (c0 : 0 ≤ c ∧ c < 16)
    (h1 : (seS T e (ltV T e (M 76 14, 0)) (ltS T e (M 76 14, 0))).2 = 0 → ∀ M', IFr c M M' → M' 76 14 = (seS T e (ltV T e (M 76 14, 0)) (ltS T e (M 76 14, 0))).1 → M' 103 c = ltV T e (M 76 14, 0) → M' 104 c = seV T e (ltS T e (M 76 14, 0)) → Q 1 M')
    (h0 : (seS T e (ltV T e (M 76 14, 0)) (ltS T e (M 76 14, 0))).2 ≠ 0 → ∀ M', IFr c M M' → M' 76 16 = (seS T e (ltV T e (M 76 14, 0)) (ltS T e (M 76 14, 0))).2 → Q 0 M') : Calls 2 mX12_readsInitials [.inr 76, .inl c] M Q := by
  have h260 := hT.2.1
  have sgb : ∀ q, -1 ≤ sgS T e (q, 0) ∧ sgS T e (q, 0) ≤ 255 := fun q => by
    unfold sgS
    split
    · next z => have := hb _ z.2.1 z.2.2; simp only at this ⊢; omega
    · omega
  obtain ⟨p, hp⟩ : ∃ p, p = M 76 14 := ⟨_, rfl⟩
  rw [← hp] at h1 h0 p0 pe
  refine e_X12_readsInitials (q_isLetter hT hb (by omega) (fun d => ⟨fun _ => ?_, fun z => absurd z (by first | omega | decide)⟩) (fun d => ⟨fun z => absurd rfl z, fun _ => q_wrong (by omega) (by omega) ⟨Or.inl rfl, ?_⟩⟩))
  · rw [← hp] at d
    have dd := d
    unfold isL at dd
    obtain ⟨pa, pb⟩ := sg_at (L_ne d)
    have w1 : ltS T e (p, 0) = (p + 1, 0) := by unfold ltS; rw [if_pos d]
    have v1 : ltV T e (p, 0) = sgS T e (p, 0) - 65 := by unfold ltV; rw [if_pos d]
    rw [w1] at h1 h0
    have sb := sgb p
    refine q_here hT (by omega) ?_
    rw [← hp]
    refine ⟨by unfold cn; omega, c0, by unfold cn; omega, ?_⟩
    rw [← v1]
    obtain ⟨M1, hM1⟩ : ∃ M1, M1 = mput (mput M 103 c (ltV T e (p, 0))) 76 14 (p + 1) := ⟨_, rfl⟩
    have f1 : IFr c M M1 := fun k i a b d => by
      rw [hM1]
      by_cases q : k = 76
      · subst q; rw [mput_ni _ _ _ _ (a rfl).1, mput_ne _ _ _ _ (by first | omega | decide)]
      · rw [mput_ne _ _ _ _ q]
        by_cases q2 : k = 103
        · subst q2; exact mput_ni _ _ _ _ (b rfl)
        · exact mput_ne _ _ _ _ q2
    have p1 : M1 76 14 = p + 1 := by rw [hM1, mput_same]
    have v103 : M1 103 c = ltV T e (p, 0) := by rw [hM1, mput_ne _ _ _ _ (by first | omega | decide), mput_same]
    have hT1 : RT M1 T e := by rw [hM1]; exact (hT.put _ _ (by first | omega | decide)).mv (BFr.p14 _ _)
    rw [← hM1]
    have tail : ∀ (M2 : Me) (p2 no : Int), IFr c M M2 → M2 76 14 = p2 → myS T e 38 (p + 1, 0) = (p2, 0) → no = (if myV T e 38 (p + 1, 0) = 0 then -2 else -3) → M2 103 c = ltV T e (p, 0) → M2 104 c = no → RT M2 T e → 0 ≤ p2 → p2 ≤ e → Go (km 2 mX12_readsInitials Q) 63 [some (.inr 76), some (.inl c)] [] M2 := fun M2 p2 no f2 e2 em hno e103 e104 hT2 q0 q1 => by
      refine s_X12_readsInitials_63 _ M2 (q_isLetter hT2 hb (by omega) (fun d2 => ⟨fun _ => ?_, fun z => absurd z (by first | omega | decide)⟩) (fun d2 => ⟨fun z => absurd rfl z, fun _ => ?_⟩))
      · rw [e2] at d2
        have dd2 := d2
        unfold isL at dd2
        obtain ⟨pa2, pb2⟩ := sg_at (L_ne d2)
        have v2 : ltV T e (p2, 0) = sgS T e (p2, 0) - 65 := by unfold ltV; rw [if_pos d2]
        have w2 : ltS T e (p2, 0) = (p2 + 1, 0) := by unfold ltS; rw [if_pos d2]
        have wV : seV T e (p + 1, 0) = ltV T e (p2, 0) := by unfold seV; rw [em, if_pos d2]
        refine q_here hT2 (by omega) ?_
        rw [e2, e103, ← v2]
        refine ⟨by unfold cn; omega, c0, fun z => q_here hT2 (by omega) ?_, fun z => q_wrong (by omega) (by omega) ⟨Or.inl rfl, ?_⟩⟩
        · rw [e2, ← v2]
          have wS : seS T e (ltV T e (p, 0)) (p + 1, 0) = (p2 + 1, 0) := by unfold seS; rw [em, if_pos d2, if_neg z, w2]
          rw [wS] at h1
          refine ⟨by unfold cn; omega, c0, by unfold cn; omega, h1 rfl _ (fun k i a b d => ?_) (mput_same _ _ _ _) ?_ ?_⟩
          · by_cases q : k = 76
            · subst q; rw [mput_ni _ _ _ _ (a rfl).1, mput_ne _ _ _ _ (by first | omega | decide)]; exact f2 _ _ a b d
            · rw [mput_ne _ _ _ _ q]
              by_cases q2 : k = 104
              · subst q2; rw [mput_ni _ _ _ _ (d rfl)]; exact f2 _ _ a b d
              · rw [mput_ne _ _ _ _ q2]; exact f2 _ _ a b d
          · rw [mput_ne _ _ _ _ (by first | omega | decide), mput_ne _ _ _ _ (by first | omega | decide)]; exact e103
          · rw [mput_ne _ _ _ _ (by first | omega | decide), mput_same, wV]
        · have wS : seS T e (ltV T e (p, 0)) (p + 1, 0) = (p2 + 1, -1000 * 6 - p2) := by unfold seS; rw [em, if_pos d2, if_pos z, w2]; rfl
          rw [wS] at h0
          exact h0 (by simp only; omega) _ (fun k i a b d => (BFr.p16 M2 _ k i a).trans (f2 k i a b d)) (mput_same _ _ _ _)
      · rw [e2] at d2
        have wV : seV T e (p + 1, 0) = no := by unfold seV; rw [em, if_neg d2, hno]
        have wS : seS T e (ltV T e (p, 0)) (p + 1, 0) = (p2, 0) := by unfold seS; rw [em, if_neg d2]
        rw [wS] at h1
        exact h1 rfl M2 f2 e2 e103 (by rw [e104, wV])
    have put104 : ∀ (M2 : Me) (v : Int), IFr c M M2 → IFr c M (mput M2 104 c v) := fun M2 v f2 k i a b d => by
      by_cases q2 : k = 104
      · subst q2; rw [mput_ni _ _ _ _ (d rfl)]; exact f2 _ _ a b d
      · rw [mput_ne _ _ _ _ q2]; exact f2 _ _ a b d
    refine q_passes hT1 (by omega) (by omega) (fun z => ⟨fun y => absurd rfl y, fun _ => ⟨c0, ?_⟩⟩) (fun z => ⟨fun _ => ⟨c0, ?_⟩, fun y => absurd y (by first | omega | decide)⟩)
    · rw [p1] at z ⊢
      obtain ⟨qa, qb⟩ := sg_at (T := T) (e := e) (p := p + 1) (by rw [z]; decide)
      refine tail _ (p + 1 + 1) (-3) (put104 _ _ (fun k i a b d => (BFr.p14 M1 _ k i a).trans (f1 k i a b d))) ?_ ?_ ?_ ?_ (mput_same _ _ _ _) ((hT1.mv (BFr.p14 _ _)).put _ _ (by first | omega | decide)) (by omega) (by omega)
      · rw [mput_ne _ _ _ _ (by first | omega | decide), mput_same]
      · unfold myS; rw [if_pos z]
      · unfold myV; rw [if_pos z, if_neg (by first | omega | decide)]
      · rw [mput_ne _ _ _ _ (by first | omega | decide), mput_ne _ _ _ _ (by first | omega | decide)]; exact v103
    · rw [p1] at z
      refine tail _ (p + 1) (-2) (put104 _ _ f1) ?_ ?_ ?_ ?_ (mput_same _ _ _ _) (hT1.put _ _ (by first | omega | decide)) (by omega) (by omega)
      · rw [mput_ne _ _ _ _ (by first | omega | decide)]; exact p1
      · unfold myS; rw [if_neg z]
      · unfold myV; rw [if_neg z, if_pos rfl]
      · rw [mput_ne _ _ _ _ (by first | omega | decide)]; exact v103
  · rw [← hp] at d ⊢
    have w1 : ltS T e (p, 0) = (p, -1000 * 1 - p) := by unfold ltS; rw [if_neg d]; rfl
    have hk : (ltS T e (p, 0)).2 ≠ 0 := by rw [w1]; simp only; omega
    rw [seS_k hk, w1] at h0
    exact h0 (by simp only; omega) _ (fun k i a _ _ => BFr.p16 M _ k i a) (mput_same _ _ _ _)
def DFr (c : Int) (M M' : Me) : Prop := ∀ k i, (k = 76 → i ≠ 14 ∧ i ≠ 16 ∧ i ≠ 17) → (k = 108 → i ≠ c) → M' k i = M k i
theorem q_date {M : Me} {T : Int → Int} {e c : Int} {Q : Int → Me → Prop} (hT : RT M T e) (p0 : 0 ≤ M 76 14) (pe : M 76 14 ≤ e) (c0 : 0 ≤ c ∧ c < 16)
    (h1 : (daS T e (M 76 14, 0)).2 = 0 → ∀ M', DFr c M M' → M' 76 14 = (daS T e (M 76 14, 0)).1 → M' 108 c = daV T e (M 76 14, 0) → Q 1 M')
    (h0 : (daS T e (M 76 14, 0)).2 ≠ 0 → ∀ M', DFr c M M' → M' 76 16 = (daS T e (M 76 14, 0)).2 → Q 0 M') : Calls 2 mX12_readsDate [.inr 76, .inl c] M Q := by
  have h260 := hT.2.1
  obtain ⟨p, hp⟩ : ∃ p, p = M 76 14 := ⟨_, rfl⟩
  rw [← hp] at h1 h0 p0 pe
  obtain ⟨M1, hM1⟩ : ∃ M1, M1 = mput M 108 c (-2) := ⟨_, rfl⟩
  have f1 : DFr c M M1 := fun k i a b => by
    rw [hM1]
    by_cases q : k = 108
    · subst q; exact mput_ni _ _ _ _ (b rfl)
    · exact mput_ne _ _ _ _ q
  have p1 : M1 76 14 = p := by rw [hM1, mput_ne _ _ _ _ (by first | omega | decide)]; exact hp.symm
  have hT1 : RT M1 T e := by rw [hM1]; exact hT.put _ _ (by first | omega | decide)
  refine e_X12_readsDate ⟨c0, ?_⟩
  rw [← hM1]
  refine q_isDigit hT1 (by omega) (fun d => ⟨fun _ => ?_, fun z => absurd z (by first | omega | decide)⟩) (fun d => ⟨fun z => absurd rfl z, fun _ => ?_⟩)
  · rw [p1] at d
    have dd := d
    unfold isD at dd
    obtain ⟨pa, pb⟩ := sg_at (D_ne d)
    have w1 : dgS T e (p, 0) = (p + 1, 0) := by unfold dgS; rw [if_pos d]
    have v1 : dgV T e (p, 0) = sgS T e (p, 0) - 48 := by unfold dgV; rw [if_pos d]
    refine q_here hT1 (by omega) ?_
    rw [p1, ← v1]
    have vb := dgV_b T e (p, 0)
    refine ⟨by unfold cn; omega, by unfold cn; omega, ?_⟩
    obtain ⟨M2, hM2⟩ : ∃ M2, M2 = mput M1 76 14 (p + 1) := ⟨_, rfl⟩
    have f2 : DFr c M M2 := fun k i a b => by rw [hM2]; exact (BFr.p14 M1 _ k i a).trans (f1 k i a b)
    have p2 : M2 76 14 = p + 1 := by rw [hM2, mput_same]
    have hT2 : RT M2 T e := by rw [hM2]; exact hT1.mv (BFr.p14 _ _)
    rw [← hM2]
    refine q_isDigit hT2 (by omega) (fun d2 => ⟨fun _ => ⟨by unfold cn; omega, q_here hT2 (by omega) ?_⟩, fun z => absurd z (by first | omega | decide)⟩) (fun d2 => ⟨fun z => absurd rfl z, fun _ => q_wrong (by omega) (by omega) ⟨Or.inl rfl, ?_⟩⟩)
    · rw [p2] at d2 ⊢
      have dd2 := d2
      unfold isD at dd2
      obtain ⟨pa2, pb2⟩ := sg_at (D_ne d2)
      have w2 : dgS T e (p + 1, 0) = (p + 1 + 1, 0) := by unfold dgS; rw [if_pos d2]
      have v2 : dgV T e (p + 1, 0) = sgS T e (p + 1, 0) - 48 := by unfold dgV; rw [if_pos d2]
      have wS : daS T e (p, 0) = (p + 1 + 1, 0) := by unfold daS; rw [if_pos d, w1, w2]
      have wV : daV T e (p, 0) = 10 * dgV T e (p, 0) + sgS T e (p + 1, 0) - 48 := by unfold daV; rw [if_pos d, w1, v2]; omega
      rw [wS] at h1
      refine ⟨by unfold cn; omega, by unfold cn; omega, c0, by unfold cn; omega, h1 rfl _ (fun k i a b => ?_) (mput_same _ _ _ _) ?_⟩
      · refine (BFr.p14 _ _ k i a).trans ?_
        by_cases q : k = 108
        · subst q; rw [mput_ni _ _ _ _ (b rfl)]; exact f2 _ _ a b
        · rw [mput_ne _ _ _ _ q]; exact f2 _ _ a b
      · rw [mput_ne _ _ _ _ (by first | omega | decide), mput_same, wV]
    · rw [p2] at d2
      have wS : daS T e (p, 0) = (p + 1, -1000 * 1 - (p + 1)) := by unfold daS; rw [if_pos d, w1]; unfold dgS; rw [if_neg d2]; rfl
      rw [wS] at h0
      refine h0 (by simp only; omega) _ (fun k i a b => (BFr.p16 M2 _ k i a).trans (f2 k i a b)) ?_
      rw [mput_same, p2]
  · rw [p1] at d
    have wS : daS T e (p, 0) = (p, 0) := by unfold daS; rw [if_neg d]
    have wV : daV T e (p, 0) = -2 := by unfold daV; rw [if_neg d]
    rw [wS] at h1
    refine h1 rfl M1 f1 p1 ?_
    rw [hM1, mput_same, wV]
/-! one cut -/
theorem b_keep {T : Int → Int} {e : Int} {s : Int × Int} : ((b1 T e s).2 ≠ 0 → b11 T e s = b1 T e s) ∧ ((b2 T e s).2 ≠ 0 → b11 T e s = b2 T e s) ∧ ((b3 T e s).2 ≠ 0 → b11 T e s = b3 T e s) ∧ ((b4 T e s).2 ≠ 0 → b11 T e s = b4 T e s) ∧ ((b8 T e s).2 ≠ 0 → b11 T e s = b8 T e s) ∧ ((b9 T e s).2 ≠ 0 → b11 T e s = b9 T e s) ∧ ((b10 T e s).2 ≠ 0 → b11 T e s = b10 T e s) := by
  have k10 : (b10 T e s).2 ≠ 0 → b11 T e s = b10 T e s := fun h => by unfold b11; rw [myS_k (by first | omega | decide) h]
  have k9 : (b9 T e s).2 ≠ 0 → b11 T e s = b9 T e s := fun h => by
    have e10 : b10 T e s = b9 T e s := by unfold b10; rw [daS_k h]
    rw [k10 (by rw [e10]; exact h), e10]
  have k8 : (b8 T e s).2 ≠ 0 → b11 T e s = b8 T e s := fun h => by
    have e9 : b9 T e s = b8 T e s := by
      unfold b9
      split
      · rw [tkS_k (by first | omega | decide) h]
      · rfl
    rw [k9 (by rw [e9]; exact h), e9]
  have k7 : (b7 T e s).2 ≠ 0 → b11 T e s = b7 T e s := fun h => by
    have e8 : b8 T e s = b7 T e s := by unfold b8; rw [seS_k h]
    rw [k8 (by rw [e8]; exact h), e8]
  have k6 : (b6 T e s).2 ≠ 0 → b11 T e s = b6 T e s := fun h => by
    have e7 : b7 T e s = b6 T e s := by unfold b7; rw [ltS_k h]
    rw [k7 (by rw [e7]; exact h), e7]
  have k5 : (b5 T e s).2 ≠ 0 → b11 T e s = b5 T e s := fun h => by
    have e6 : b6 T e s = b5 T e s := by unfold b6; rw [myS_k (by first | omega | decide) h]
    rw [k6 (by rw [e6]; exact h), e6]
  have k4 : (b4 T e s).2 ≠ 0 → b11 T e s = b4 T e s := fun h => by
    have e5 : b5 T e s = b4 T e s := by unfold b5; rw [myS_k (by first | omega | decide) h]
    rw [k5 (by rw [e5]; exact h), e5]
  have k3 : (b3 T e s).2 ≠ 0 → b11 T e s = b3 T e s := fun h => by
    have e4 : b4 T e s = b3 T e s := by unfold b4; rw [tkS_k (by first | omega | decide) h]
    rw [k4 (by rw [e4]; exact h), e4]
  have k2 : (b2 T e s).2 ≠ 0 → b11 T e s = b2 T e s := fun h => by
    have e3 : b3 T e s = b2 T e s := by unfold b3; rw [nmS_k (by first | omega | decide) h]
    rw [k3 (by rw [e3]; exact h), e3]
  have k1 : (b1 T e s).2 ≠ 0 → b11 T e s = b1 T e s := fun h => by
    have e2 : b2 T e s = b1 T e s := by unfold b2; rw [tkS_k (by first | omega | decide) h]
    rw [k2 (by rw [e2]; exact h), e2]
  exact ⟨k1, k2, k3, k4, k8, k9, k10⟩
