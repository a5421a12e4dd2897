/-! ===== bark: a cut of the reference, all cuts, both sides ===== -/
def KFr (c : Int) (M M' : Me) : Prop := ∀ k i, (k = 76 → i ≠ 14 ∧ i ≠ 16 ∧ i ≠ 17 ∧ i ≠ 43) → ((102 ≤ k ∧ k ≤ 108) → i ≠ c) → M' k i = M k i
theorem KFr.tr {c : Int} {A B C : Me} (h : KFr c A B) (h' : KFr c B C) : KFr c A C := fun k i a b => (h' k i a b).trans (h k i a b)
theorem KFr.ofB {c : Int} {A B : Me} (h : BFr A B) : KFr c A B := fun k i a _ => h k i (fun q => ⟨(a q).1, (a q).2.1, (a q).2.2.1⟩)
theorem KFr.ofI {c : Int} {A B : Me} (h : IFr c A B) : KFr c A B := fun k i a b => h k i (fun q => ⟨(a q).1, (a q).2.1, (a q).2.2.1⟩) (fun q => b (by omega)) (fun q => b (by omega))
theorem KFr.ofD {c : Int} {A B : Me} (h : DFr c A B) : KFr c A B := fun k i a b => h k i (fun q => ⟨(a q).1, (a q).2.1, (a q).2.2.1⟩) (fun q => b (by omega))
theorem KFr.p43 {c : Int} (M : Me) (v : Int) : KFr c M (mput M 76 43 v) := fun k i a _ => by
  by_cases q : k = 76
  · subst q; exact mput_ni _ _ _ _ (a rfl).2.2.2
  · exact mput_ne _ _ _ _ q
theorem KFr.pc {c : Int} (M : Me) {j : Nat} (v : Int) (hj : 102 ≤ j ∧ j ≤ 108) : KFr c M (mput M j c v) := fun k i _ b => by
  by_cases q : k = j
  · subst q; exact mput_ni _ _ _ _ (b hj)
  · exact mput_ne _ _ _ _ q
theorem pair_eq {s : Int × Int} {p : Int} (h1 : s.1 = p) (h2 : s.2 = 0) : s = (p, 0) := by
  obtain ⟨a, b⟩ := s
  simp only at h1 h2
  rw [h1, h2]
theorem q_cut {M : Me} {T : Int → Int} {e p c : Int} {Q : Int → Me → Prop} (hT : RT M T e) (hb : ∀ i, 0 ≤ i → i < e → 0 ≤ T i ∧ T i ≤ 255) (hp : M 76 14 = p) (hc : M 76 43 = c) (p0 : 0 ≤ p) (pe : p ≤ e) (c0 : 0 ≤ c) (c16 : c ≤ 16)
    (h1 : c < 16 → (b11 T e (p, 0)).2 = 0 → ∀ M', KFr c M M' → M' 76 14 = (b11 T e (p, 0)).1 → M' 76 43 = c + 1 → (∀ j : Nat, j ≤ 6 → M' (102 + j) c = cutW T e (p, 0) j) → Q 1 M')
    (h0 : c < 16 → (b11 T e (p, 0)).2 ≠ 0 → ∀ M', KFr c M M' → M' 76 16 = (b11 T e (p, 0)).2 → Q 0 M')
    (h16 : c = 16 → ∀ M', KFr c M M' → M' 76 16 = (b17 T e (p, 0)).2 → Q 0 M') : Calls 3 mX12_readsCut [.inr 76] M Q := by
  have h260 := hT.2.1
  obtain ⟨k1, k2, k3, k4, k8, k9, k10⟩ := b_keep (T := T) (e := e) (s := (p, 0))
  obtain ⟨o1, o2, o3, o4, o5, o6, o7, o8, o9, o10, o11⟩ := b_ok (T := T) (e := e) (s := (p, 0)) ⟨p0, pe, Int.le_refl _⟩
  refine e_X12_readsCut (q_isDigit hT (by omega) (fun d => ⟨fun _ => ?_, fun z => absurd z (by first | omega | decide)⟩) (fun d => ⟨fun z => absurd rfl z, fun _ => q_wrong (by omega) (by omega) ⟨Or.inl rfl, ?_⟩⟩))
  · rw [hp] at d
    rw [hc, hp]
    refine ⟨fun z => ⟨by unfold cn; omega, ?_⟩, fun z => q_wrong (by omega) (by omega) ⟨Or.inl rfl, h16 z _ (KFr.ofB (BFr.p16 _ _)) ?_⟩⟩
    · have cl : c < 16 := by omega
      have cc : 0 ≤ c ∧ c < 16 := ⟨c0, cl⟩
      obtain ⟨M1, hM1⟩ : ∃ M1, M1 = mput M 76 43 (c + 1) := ⟨_, rfl⟩
      have f1 : KFr c M M1 := by rw [hM1]; exact KFr.p43 _ _
      have g1 : M1 76 14 = p := by rw [hM1, mput_ni _ _ _ _ (by first | omega | decide)]; exact hp
      have c1 : M1 76 43 = c + 1 := by rw [hM1, mput_same]
      have hT1 : RT M1 T e := ⟨by rw [hM1, mput_ni _ _ _ _ (by first | omega | decide)]; exact hT.1, hT.2.1, fun i a b => by rw [hM1, mput_ne _ _ _ _ (by first | omega | decide)]; exact hT.2.2 i a b⟩
      rw [← hM1]
      have e1 : b1 T e (p, 0) = nmS T e 23 (p, 0) := rfl
      refine q_within hT1 (by omega) (by omega) (by first | omega | decide) (fun z2 M2 r2 g2 n2 => ⟨fun _ => ?_, fun y => absurd y (by first | omega | decide)⟩) (fun z2 M2 r2 g2 => ⟨fun y => absurd rfl y, fun _ => ?_⟩)
      · rw [g1, ← e1] at z2 g2
        rw [g1] at n2
        have f2 : KFr c M M2 := f1.tr (KFr.ofB r2)
        have c2 : M2 76 43 = c + 1 := by rw [r2 76 43 (by first | omega | decide)]; exact c1
        have hT2 := hT1.mv r2
        have s2 : b1 T e (p, 0) = (M2 76 14, 0) := pair_eq g2.symm z2
        have ob1 : 0 ≤ M2 76 14 ∧ M2 76 14 ≤ e := by rw [s2] at o1; exact ⟨o1.1, o1.2.1⟩
        have e2 : b2 T e (p, 0) = tkS T e 44 (M2 76 14, 0) := by rw [← s2]; rfl
        refine q_takes hT2 ob1.1 ob1.2 (fun y => ⟨fun x => absurd x (by first | omega | decide), fun _ => ?_⟩) (fun y => ⟨fun _ => ?_, fun x => absurd rfl x⟩)
        · have s3 : b2 T e (p, 0) = (M2 76 14 + 1, 0) := by rw [e2]; unfold tkS; rw [if_pos y]
          obtain ⟨M3, hM3⟩ : ∃ M3, M3 = mput M2 76 14 (M2 76 14 + 1) := ⟨_, rfl⟩
          have r3 : BFr M2 M3 := by rw [hM3]; exact BFr.p14 _ _
          have g3 : M3 76 14 = M2 76 14 + 1 := by rw [hM3, mput_same]
          have s3' : b2 T e (p, 0) = (M3 76 14, 0) := by rw [g3]; exact s3
          have ob2 : 0 ≤ M3 76 14 ∧ M3 76 14 ≤ e := by rw [s3'] at o2; exact ⟨o2.1, o2.2.1⟩
          have e3 : b3 T e (p, 0) = nmS T e 15 (M3 76 14, 0) := by rw [← s3']; rfl
          have hT3 := hT2.mv r3
          rw [← hM3]
          refine q_within hT3 ob2.1 ob2.2 (by first | omega | decide) (fun z4 M4 r4 g4 n4 => ⟨fun _ => ?_, fun y => absurd y (by first | omega | decide)⟩) (fun z4 M4 r4 g4 => ⟨fun y => absurd rfl y, fun _ => ?_⟩)
          · rw [← e3] at z4 g4
            rw [← s3'] at n4
            have vb1 := nmV_b T e (p, 0)
            have vb2 := nmV_b T e (b2 T e (p, 0))
            rw [n2, n4]
            refine ⟨by unfold cn; omega, by unfold cn; omega, cc, ?_⟩
            obtain ⟨M5, hM5⟩ : ∃ M5, M5 = mput M4 102 c (24 * nmV T e (b2 T e (p, 0)) + nmV T e (p, 0)) := ⟨_, rfl⟩
            have f5 : KFr c M M5 := by rw [hM5]; exact f2.tr ((KFr.ofB (r3.tr r4)).tr (KFr.pc _ _ (by first | omega | decide)))
            have g5 : M5 76 14 = (b3 T e (p, 0)).1 := by rw [hM5, mput_ne _ _ _ _ (by first | omega | decide)]; exact g4
            have c5 : M5 76 43 = c + 1 := by rw [hM5, mput_ne _ _ _ _ (by first | omega | decide), r4 76 43 (by first | omega | decide), r3 76 43 (by first | omega | decide)]; exact c2
            have w0 : M5 102 c = cutW T e (p, 0) 0 := by rw [hM5, mput_same]; rfl
            have s5 : b3 T e (p, 0) = (M5 76 14, 0) := pair_eq g5.symm z4
            have ob3 : 0 ≤ M5 76 14 ∧ M5 76 14 ≤ e := by rw [s5] at o3; exact ⟨o3.1, o3.2.1⟩
            have hT5 : RT M5 T e := by rw [hM5]; exact (hT3.mv r4).put _ _ (by first | omega | decide)
            have e4 : b4 T e (p, 0) = tkS T e 58 (M5 76 14, 0) := by rw [← s5]; rfl
            rw [← hM5]
            refine q_takes hT5 ob3.1 ob3.2 (fun y5 => ⟨fun _ => ?_, fun x => absurd x (by first | omega | decide)⟩) (fun y5 => ⟨fun x => absurd rfl x, fun _ => ?_⟩)
            · obtain ⟨M6, hM6⟩ : ∃ M6, M6 = mput M5 76 14 (M5 76 14 + 1) := ⟨_, rfl⟩
              have r6 : BFr M5 M6 := by rw [hM6]; exact BFr.p14 _ _
              have g6 : M6 76 14 = M5 76 14 + 1 := by rw [hM6, mput_same]
              have s6 : b4 T e (p, 0) = (M6 76 14, 0) := by rw [e4, g6]; unfold tkS; rw [if_pos y5]
              have ob4 : 0 ≤ M6 76 14 ∧ M6 76 14 ≤ e := by rw [s6] at o4; exact ⟨o4.1, o4.2.1⟩
              have hT6 := hT5.mv r6
              rw [← hM6]
              have pass1 : ∀ (M7 : Me) (r : Int), BFr M6 M7 → b5 T e (p, 0) = (M7 76 14, 0) → r = cutW T e (p, 0) 4 → (0 ≤ c ∧ c < 16) ∧ Calls 1 mX12_passes [.inr 76, .inl 91] (mput M7 106 c r) (fun r133 M133 => (0 ≤ c ∧ c < 16) ∧ Calls 2 mX12_readsInitials [.inr 76, .inl c] (mput M133 105 c r133) (fun r139 M139 => ((r139 ≠ 0 → (0 ≤ c ∧ c < 16) ∧ ((M139 105 c ≠ 1 → Go (km 3 mX12_readsCut Q) 168 [some (.inr 76), some (.inl c), none] [] M139) ∧ (M139 105 c = 1 → Calls 1 mX12_takes [.inr 76, .inl 93] M139 (fun r160 M160 => ((r160 ≠ 0 → Go (km 3 mX12_readsCut Q) 168 [some (.inr 76), some (.inl c), none] [] M160) ∧ (r160 = 0 → Q 0 M160)))))) ∧ (r139 = 0 → Q 0 M139)))) := fun M7 r r7 s7 hr => by
                refine ⟨cc, ?_⟩
                obtain ⟨M8, hM8⟩ : ∃ M8, M8 = mput M7 106 c r := ⟨_, rfl⟩
                have f8 : KFr c M M8 := by rw [hM8]; exact f5.tr ((KFr.ofB (r6.tr r7)).tr (KFr.pc _ _ (by first | omega | decide)))
                have g8 : M8 76 14 = M7 76 14 := by rw [hM8, mput_ne _ _ _ _ (by first | omega | decide)]
                have c8 : M8 76 43 = c + 1 := by rw [hM8, mput_ne _ _ _ _ (by first | omega | decide), r7 76 43 (by first | omega | decide), r6 76 43 (by first | omega | decide)]; exact c5
                have w0' : M8 102 c = cutW T e (p, 0) 0 := by rw [hM8, mput_ne _ _ _ _ (by first | omega | decide), r7 102 c (by first | omega | decide), r6 102 c (by first | omega | decide)]; exact w0
                have w4 : M8 106 c = cutW T e (p, 0) 4 := by rw [hM8, mput_same]; exact hr
                have s8 : b5 T e (p, 0) = (M8 76 14, 0) := by rw [g8]; exact s7
                have ob5 : 0 ≤ M8 76 14 ∧ M8 76 14 ≤ e := by rw [s8] at o5; exact ⟨o5.1, o5.2.1⟩
                have hT8 : RT M8 T e := by rw [hM8]; exact (hT6.mv r7).put _ _ (by first | omega | decide)
                rw [← hM8]
                have pass2 : ∀ (M9 : Me) (r : Int), BFr M8 M9 → b6 T e (p, 0) = (M9 76 14, 0) → r = cutW T e (p, 0) 3 → (0 ≤ c ∧ c < 16) ∧ Calls 2 mX12_readsInitials [.inr 76, .inl c] (mput M9 105 c r) (fun r139 M139 => ((r139 ≠ 0 → (0 ≤ c ∧ c < 16) ∧ ((M139 105 c ≠ 1 → Go (km 3 mX12_readsCut Q) 168 [some (.inr 76), some (.inl c), none] [] M139) ∧ (M139 105 c = 1 → Calls 1 mX12_takes [.inr 76, .inl 93] M139 (fun r160 M160 => ((r160 ≠ 0 → Go (km 3 mX12_readsCut Q) 168 [some (.inr 76), some (.inl c), none] [] M160) ∧ (r160 = 0 → Q 0 M160)))))) ∧ (r139 = 0 → Q 0 M139))) := fun M9 r r9 s9 hr => by
                  refine ⟨cc, ?_⟩
                  obtain ⟨Ma, hMa⟩ : ∃ Ma, Ma = mput M9 105 c r := ⟨_, rfl⟩
                  have fa : KFr c M Ma := by rw [hMa]; exact f8.tr ((KFr.ofB r9).tr (KFr.pc _ _ (by first | omega | decide)))
                  have ga : Ma 76 14 = M9 76 14 := by rw [hMa, mput_ne _ _ _ _ (by first | omega | decide)]
                  have ca : Ma 76 43 = c + 1 := by rw [hMa, mput_ne _ _ _ _ (by first | omega | decide), r9 76 43 (by first | omega | decide)]; exact c8
                  have w0a : Ma 102 c = cutW T e (p, 0) 0 := by rw [hMa, mput_ne _ _ _ _ (by first | omega | decide), r9 102 c (by first | omega | decide)]; exact w0'
                  have w4a : Ma 106 c = cutW T e (p, 0) 4 := by rw [hMa, mput_ne _ _ _ _ (by first | omega | decide), r9 106 c (by first | omega | decide)]; exact w4
                  have w3a : Ma 105 c = cutW T e (p, 0) 3 := by rw [hMa, mput_same]; exact hr
                  have sa : b6 T e (p, 0) = (Ma 76 14, 0) := by rw [ga]; exact s9
                  have ob6 : 0 ≤ Ma 76 14 ∧ Ma 76 14 ≤ e := by rw [sa] at o6; exact ⟨o6.1, o6.2.1⟩
                  have hTa : RT Ma T e := by rw [hMa]; exact (hT8.mv r9).put _ _ (by first | omega | decide)
                  have e8 : b8 T e (p, 0) = seS T e (ltV T e (Ma 76 14, 0)) (ltS T e (Ma 76 14, 0)) := by rw [← sa]; rfl
                  have w1e : cutW T e (p, 0) 1 = ltV T e (Ma 76 14, 0) := by rw [← sa]; rfl
                  have w2e : cutW T e (p, 0) 2 = seV T e (ltS T e (Ma 76 14, 0)) := by rw [← sa]; rfl
                  rw [← hMa]
                  refine q_initials hTa hb ob6.1 ob6.2 cc (fun zb Mb rb gb v1b v2b => ⟨fun _ => ⟨cc, ?_⟩, fun y => absurd y (by first | omega | decide)⟩) (fun zb Mb rb gb => ⟨fun y => absurd rfl y, fun _ => ?_⟩)
                  · rw [← e8] at zb gb
                    rw [← w1e] at v1b
                    rw [← w2e] at v2b
                    have fb := fa.tr (KFr.ofI rb)
                    have cb : Mb 76 43 = c + 1 := by rw [rb 76 43 (by first | omega | decide) (by first | omega | decide) (by first | omega | decide)]; exact ca
                    have w0b : Mb 102 c = cutW T e (p, 0) 0 := by rw [rb 102 c (by first | omega | decide) (by first | omega | decide) (by first | omega | decide)]; exact w0a
                    have w3b : Mb 105 c = cutW T e (p, 0) 3 := by rw [rb 105 c (by first | omega | decide) (by first | omega | decide) (by first | omega | decide)]; exact w3a
                    have w4b : Mb 106 c = cutW T e (p, 0) 4 := by rw [rb 106 c (by first | omega | decide) (by first | omega | decide) (by first | omega | decide)]; exact w4a
                    have sb : b8 T e (p, 0) = (Mb 76 14, 0) := pair_eq gb.symm zb
                    have ob8 : 0 ≤ Mb 76 14 ∧ Mb 76 14 ≤ e := by rw [sb] at o8; exact ⟨o8.1, o8.2.1⟩
                    have hTb : RT Mb T e := ⟨by rw [rb 76 15 (by first | omega | decide) (by first | omega | decide) (by first | omega | decide)]; exact hTa.1, hTa.2.1, fun i x y => by rw [rb 88 i (by first | omega | decide) (by first | omega | decide) (by first | omega | decide)]; exact hTa.2.2 i x y⟩
                    have e3' : cutW T e (p, 0) 3 = myV T e 91 (b5 T e (p, 0)) := rfl
                    have tail : ∀ (Md : Me), BFr Mb Md → b9 T e (p, 0) = (Md 76 14, 0) → Go (km 3 mX12_readsCut Q) 168 [some (.inr 76), some (.inl c), none] [] Md := fun Md rd sd => by
                      have ob9 : 0 ≤ Md 76 14 ∧ Md 76 14 ≤ e := by rw [sd] at o9; exact ⟨o9.1, o9.2.1⟩
                      have hTd := hTb.mv rd
                      have e10 : b10 T e (p, 0) = daS T e (Md 76 14, 0) := by rw [← sd]; rfl
                      have w6e : cutW T e (p, 0) 6 = daV T e (Md 76 14, 0) := by rw [← sd]; rfl
                      refine s_X12_readsCut_168 _ Md (q_date hTd ob9.1 ob9.2 cc (fun ze Me' re ge ve => ⟨fun _ => ?_, fun y => absurd y (by first | omega | decide)⟩) (fun ze Me' re ge => ⟨fun y => absurd rfl y, fun _ => ?_⟩))
                      · rw [← e10] at ze ge
                        rw [← w6e] at ve
                        have fe := fb.tr ((KFr.ofB rd).tr (KFr.ofD re))
                        have se : b10 T e (p, 0) = (Me' 76 14, 0) := pair_eq ge.symm ze
                        have ob10 : 0 ≤ Me' 76 14 ∧ Me' 76 14 ≤ e := by rw [se] at o10; exact ⟨o10.1, o10.2.1⟩
                        have hTe : RT Me' T e := ⟨by rw [re 76 15 (by first | omega | decide) (by first | omega | decide)]; exact hTd.1, hTd.2.1, fun i x y => by rw [re 88 i (by first | omega | decide) (by first | omega | decide)]; exact hTd.2.2 i x y⟩
                        have e11 : b11 T e (p, 0) = myS T e 62 (Me' 76 14, 0) := by rw [← se]; rfl
                        have w5e : cutW T e (p, 0) 5 = myV T e 62 (Me' 76 14, 0) := by rw [← se]; rfl
                        have cE : Me' 76 43 = c + 1 := by rw [re 76 43 (by first | omega | decide) (by first | omega | decide), rd 76 43 (by first | omega | decide)]; exact cb
                        have keep : ∀ j : Nat, 102 ≤ j → j ≤ 107 → Me' j c = Mb j c := fun j j0 j1 => by rw [re j c (by omega) (by omega), rd j c (by omega)]
                        have final : ∀ (Mf : Me) (r : Int), BFr Me' Mf → b11 T e (p, 0) = (Mf 76 14, 0) → r = cutW T e (p, 0) 5 → (0 ≤ c ∧ c < 16) ∧ Q 1 (mput Mf 107 c r) := fun Mf r rf sf hr => by
                          refine ⟨cc, h1 cl (by rw [sf]) _ (fe.tr ((KFr.ofB rf).tr (KFr.pc _ _ (by first | omega | decide)))) ?_ ?_ ?_⟩
                          · rw [mput_ne _ _ _ _ (by first | omega | decide), sf]
                          · rw [mput_ne _ _ _ _ (by first | omega | decide), rf 76 43 (by first | omega | decide)]; exact cE
                          · intro j j6
                            by_cases q5 : j = 5
                            · subst q5
                              rw [show 102 + 5 = 107 from rfl, mput_same]; exact hr
                            · rw [mput_ne _ _ _ _ (by omega), rf (102 + j) c (by omega)]
                              by_cases q6 : j = 6
                              · subst q6; exact ve
                              · rw [keep (102 + j) (by omega) (by omega)]
                                rcases (show j = 0 ∨ j = 1 ∨ j = 2 ∨ j = 3 ∨ j = 4 by omega) with rfl | rfl | rfl | rfl | rfl
                                · exact w0b
                                · exact v1b
                                · exact v2b
                                · exact w3b
                                · exact w4b
                        refine q_passes hTe ob10.1 ob10.2 (fun y => ?_) (fun y => ?_)
                        · refine final _ 1 (BFr.p14 _ _) ?_ ?_
                          · rw [e11, mput_same]; unfold myS; rw [if_pos y]
                          · rw [w5e]; unfold myV; rw [if_pos y]
                        · refine final _ 0 (BFr.rf _) ?_ ?_
                          · rw [e11]; unfold myS; rw [if_neg y]
                          · rw [w5e]; unfold myV; rw [if_neg y]
                      · rw [← e10] at ze ge
                        exact h0 cl (by rw [k10 ze]; exact ze) Me' (fb.tr ((KFr.ofB rd).tr (KFr.ofD re))) (by rw [k10 ze]; exact ge)
                    rw [w3b, e3']
                    have e9 : b9 T e (p, 0) = if myV T e 91 (b5 T e (p, 0)) = 1 then tkS T e 93 (b8 T e (p, 0)) else b8 T e (p, 0) := rfl
                    refine ⟨fun y => ?_, fun y => ?_⟩
                    · rw [if_neg y] at e9
                      exact tail Mb (BFr.rf _) (by rw [e9]; exact sb)
                    · rw [if_pos y, sb] at e9
                      refine q_takes hTb ob8.1 ob8.2 (fun y2 => ⟨fun _ => ?_, fun x => absurd x (by first | omega | decide)⟩) (fun y2 => ⟨fun x => absurd rfl x, fun _ => ?_⟩)
                      · refine tail _ (BFr.p14 _ _) ?_
                        rw [e9, mput_same]; unfold tkS; rw [if_pos y2]
                      · have s9' : b9 T e (p, 0) = (Mb 76 14, -1000 * 1 - Mb 76 14) := by rw [e9]; unfold tkS; rw [if_neg y2]; rfl
                        have hz : (b9 T e (p, 0)).2 ≠ 0 := by rw [s9']; simp only; omega
                        exact h0 cl (by rw [k9 hz]; exact hz) _ (fb.tr (KFr.ofB (BFr.p16 _ _))) (by rw [k9 hz, s9', mput_same])
                  · rw [← e8] at zb gb
                    exact h0 cl (by rw [k8 zb]; exact zb) Mb (fa.tr (KFr.ofI rb)) (by rw [k8 zb]; exact gb)
                have e6 : b6 T e (p, 0) = myS T e 91 (M8 76 14, 0) := by rw [← s8]; rfl
                have w3e : cutW T e (p, 0) 3 = myV T e 91 (M8 76 14, 0) := by rw [← s8]; rfl
                refine q_passes hT8 ob5.1 ob5.2 (fun y => ?_) (fun y => ?_)
                · refine pass2 _ 1 (BFr.p14 _ _) ?_ ?_
                  · rw [e6, mput_same]; unfold myS; rw [if_pos y]
                  · rw [w3e]; unfold myV; rw [if_pos y]
                · refine pass2 _ 0 (BFr.rf _) ?_ ?_
                  · rw [e6]; unfold myS; rw [if_neg y]
                  · rw [w3e]; unfold myV; rw [if_neg y]
              have e5 : b5 T e (p, 0) = myS T e 120 (M6 76 14, 0) := by rw [← s6]; rfl
              have w4e : cutW T e (p, 0) 4 = myV T e 120 (M6 76 14, 0) := by rw [← s6]; rfl
              refine q_passes hT6 ob4.1 ob4.2 (fun y => ?_) (fun y => ?_)
              · refine pass1 _ 1 (BFr.p14 _ _) ?_ ?_
                · rw [e5, mput_same]; unfold myS; rw [if_pos y]
                · rw [w4e]; unfold myV; rw [if_pos y]
              · refine pass1 _ 0 (BFr.rf _) ?_ ?_
                · rw [e5]; unfold myS; rw [if_neg y]
                · rw [w4e]; unfold myV; rw [if_neg y]
            · have s4' : b4 T e (p, 0) = (M5 76 14, -1000 * 1 - M5 76 14) := by rw [e4]; unfold tkS; rw [if_neg y5]; rfl
              have hz : (b4 T e (p, 0)).2 ≠ 0 := by rw [s4']; simp only; omega
              exact h0 cl (by rw [k4 hz]; exact hz) _ (f5.tr (KFr.ofB (BFr.p16 _ _))) (by rw [k4 hz, s4', mput_same])
          · rw [← e3] at z4 g4
            exact h0 cl (by rw [k3 z4]; exact z4) M4 (f2.tr (KFr.ofB (r3.tr r4))) (by rw [k3 z4]; exact g4)
        · have s2' : b2 T e (p, 0) = (M2 76 14, -1000 * 1 - M2 76 14) := by rw [e2]; unfold tkS; rw [if_neg y]; rfl
          have hz : (b2 T e (p, 0)).2 ≠ 0 := by rw [s2']; simp only; omega
          exact h0 cl (by rw [k2 hz]; exact hz) _ (f2.tr (KFr.ofB (BFr.p16 _ _))) (by rw [k2 hz, s2', mput_same])
      · rw [g1, ← e1] at z2 g2
        exact h0 cl (by rw [k1 z2]; exact z2) M2 (f1.tr (KFr.ofB r2)) (by rw [k1 z2]; exact g2)
    · rw [mput_same]
      unfold b17 flS flF
      rw [if_pos rfl, if_pos d]
  · rw [hp] at d ⊢
    by_cases z : c = 16
    · refine h16 z _ (KFr.ofB (BFr.p16 _ _)) ?_
      rw [mput_same]
      unfold b17 flS flF
      rw [if_pos rfl, if_neg d]
    · have w1 : dgS T e (p, 0) = (p, -1000 * 1 - p) := by unfold dgS; rw [if_neg d]; rfl
      have hk : (dgS T e (p, 0)).2 ≠ 0 := by rw [w1]; simp only; omega
      have v1 : dgV T e (p, 0) = 0 := by unfold dgV; rw [if_neg d]
      have wA : nmA T e (p, 0) = (p, -1000 * 1 - p) := by unfold nmA; rw [sg_f hk, if_neg not_isD_neg, w1]
      have wB : nmB T e (p, 0) = (p, -1000 * 1 - p) := by unfold nmB; rw [wA, sg_f (by simp only; omega), if_neg not_isD_neg]
      have wV : nmV T e (p, 0) = 0 := by unfold nmV; rw [sg_f hk, if_neg not_isD_neg, v1]
      have wS : b1 T e (p, 0) = (p, -1000 * 1 - p) := by unfold b1 nmS; rw [wV, if_neg (by omega), wB]
      have hz : (b1 T e (p, 0)).2 ≠ 0 := by rw [wS]; simp only; omega
      exact h0 (by omega) (by rw [k1 hz]; exact hz) _ (KFr.ofB (BFr.p16 _ _)) (by rw [k1 hz, wS, mput_same])
