/-! ===== the reference reads a rule: faults ===== -/
def Rk (S : Int → Int) (L : Me) (p n ph h : Int) : Prop := (S p = 120 ∧ ph = p + 1 ∧ h = n) ∨ (S p ≠ 120 ∧ Pz S L (some (0, 0)) 0 (p + 1) n ph h)
def Rb (S : Int → Int) (m p n f : Int) : Prop :=
  (¬ (S p = 118 ∨ S p = 102 ∨ S p = 120) ∧ f = -1000 * 1 - p) ∨ ((S p = 118 ∨ S p = 102 ∨ S p = 120) ∧
    ((m = 16 ∧ f = -1000 * 4 - p) ∨ (m < 16 ∧ ((S p ≠ 120 ∧ Pb S (some (0, 0)) 0 (p + 1) n f) ∨
      ∃ L ph h, Rk S L p n ph h ∧ ((S ph ≠ 40 ∧ f = -1000 * 1 - ph) ∨ (S ph = 40 ∧ (Cb S (some (0, 0)) 1 (ph + 1) h f ∨
        ∃ tP tW p1 n1, Cz S L (some (tP, tW)) 1 (ph + 1) h p1 n1 ∧ S p1 ≠ 41 ∧ f = -1000 * 1 - p1)))))))
theorem Pz.ok {S : Int → Int} {L : Me} {e : Int} (hS : Sg S e) {p n p' n' : Int} (h : Pz S L (some (0, 0)) 0 p n p' n') (n0 : 0 ≤ n) (n1 : n' ≤ 240) : ∀ i, n ≤ i → i < n' → (0 ≤ L 5 i ∧ L 5 i ≤ 12) ∧ 0 ≤ L 6 i ∧ L 6 i < 1048576 := by
  obtain ⟨sh, w⟩ := h.wf hS n0 n1
  intro i x y
  have := w.2.2.2.2.2.2 i x y
  exact ⟨this.2.1, this.2.2.1⟩
theorem q_ruleB {T : Int → Int} {e : Int} {Q : Int → Me → Prop} (hS : Sg (Sx T e) e) (he : e ≤ 240) {p n f m : Int} {M : Me} (hz : Rb (Sx T e) m p n f) (n0 : 0 ≤ n) (np : n ≤ p) (pe : p ≤ e) (r : RB T e p n M) (hc : cdW n M) (hm : M 76 21 = m) (m0 : 0 ≤ m ∧ m ≤ 16)
    (hQ : ∀ M', FRq m M M' → M' 76 16 = f → Q 0 M') : Calls 7 mX12_readsRule [.inr 76] M Q := by
  have p0 : 0 ≤ p := by omega
  have fq : ∀ A B : Me, FRr A B → FRq m A B := fun A B g k i a b c d => g k i a b (fun z => ⟨(c z).1, (c z).2.1, (c z).2.2.1, (c z).2.2.2.1, (c z).2.2.2.2.1, (c z).2.2.2.2.2.1⟩)
  have ftr : ∀ A B C : Me, FRq m A B → FRq m B C → FRq m A C := fun A B C g g' k i a b c d => (g' k i a b c d).trans (g k i a b c d)
  have r3 := r.2.2
  have r1 := r.2.1
  rcases hz with ⟨hk, hf⟩ | ⟨hk, hz⟩
  · refine e_X12_readsRule (q_hereB r p0 ⟨fun z => by exfalso; omega, fun _ => ⟨fun z => by exfalso; omega, fun _ => ⟨fun z => by exfalso; omega, fun _ => ?_⟩⟩⟩)
    rw [r1]
    exact q_wrong (by omega) (by omega) ⟨Or.inl rfl, hQ _ (fq _ _ (FRr.p76 M _ (by omega))) (by rw [mput_same, hf])⟩
  · have hp := hS.2 p (by omega)
    obtain ⟨M1, hM1⟩ : ∃ M1, (mput (mput (mput (mput (mput M 91 m (Sx T e p)) 76 14 (p + 1)) 92 m n) 76 18 0) 76 20 0) = M1 := ⟨_, rfl⟩
    have k89 : ∀ i, M1 89 i = M 89 i := fun i => by
      rw [← hM1, mput_ne _ _ _ _ (by decide), mput_ne _ _ _ _ (by decide), mput_ne _ _ _ _ (by decide), mput_ne _ _ _ _ (by decide), mput_ne _ _ _ _ (by decide)]
    have f1 : FRq m M M1 := fun k i a b c d => by
      rw [← hM1]
      unfold mput
      rw [if_neg (fun z => (c z.1).2.2.2.2.2.1 z.2), if_neg (fun z => (c z.1).2.2.2.1 z.2), if_neg (fun z => d (by omega) z.2), if_neg (fun z => (c z.1).1 z.2), if_neg (fun z => d (by omega) z.2)]
    have a21 : M1 76 21 = m := by rw [← hM1, mput_ni _ _ _ _ (by decide), mput_ni _ _ _ _ (by decide), mput_ne _ _ _ _ (by decide), mput_ni _ _ _ _ (by decide), mput_ne _ _ _ _ (by decide)]; exact hm
    have rs1 : RS T e (p + 1) 0 n [] M1 := by
      refine ⟨⟨?_, r.1.2.1, fun i x y => ?_⟩, ?_, ?_, ?_, ?_, fun w hw => absurd hw (by simp), trivial⟩
      · rw [f1 76 15 (by decide) (by decide) (by decide) (fun z => by omega)]; exact r.1.1
      · rw [f1 88 i (by decide) (by decide) (fun z => absurd z (by decide)) (fun z => by omega)]; exact r.1.2.2 i x y
      · rw [← hM1, mput_ni _ _ _ _ (by decide), mput_ni _ _ _ _ (by decide), mput_ne _ _ _ _ (by decide), mput_same]
      · rw [← hM1, mput_ni _ _ _ _ (by decide), mput_same]
      · rw [← hM1, mput_ni _ _ _ _ (by decide), mput_ni _ _ _ _ (by decide), mput_ne _ _ _ _ (by decide), mput_ni _ _ _ _ (by decide), mput_ne _ _ _ _ (by decide)]; exact r3
      · rw [← hM1, mput_same]; rfl
    have m33 : Go (km 7 mX12_readsRule Q) 33 [some (.inr 76), some (.inl (Sx T e p))] [] M := by
      refine s_X12_readsRule_33 _ M ⟨fun y => ?_, fun y => ?_⟩
      · rw [hm, r1, r3, hM1]
        rcases hz with ⟨a, -⟩ | ⟨ml, hz⟩
        · exact absurd (hm.trans a) y
        refine ⟨by omega, by unfold cn; omega, by omega, ?_⟩
        rcases hz with ⟨a, b⟩ | ⟨L, ph, h, hk2, hz⟩
        · exact ⟨fun z => absurd z a, fun _ => q_sumB hS he b (by omega) (by omega) n0 (by omega) (by omega) (by simp only [List.length_nil]; omega) (Or.inl (by decide)) rs1 (fun M2 f2 g2 => ⟨fun z => absurd rfl z, fun _ => hQ M2 (ftr _ _ _ f1 (fq _ _ f2)) g2⟩)⟩
        · have nh : n ≤ h ∧ h ≤ ph ∧ p < ph ∧ ph ≤ e := by
            rcases hk2 with ⟨-, a, b⟩ | ⟨-, a⟩
            · omega
            · have := a.le hS
              have e0 : pk (some (0, 0)) = 0 := by decide
              omega
          have ok : ∀ i, n ≤ i → i < h → (0 ≤ L 5 i ∧ L 5 i ≤ 12) ∧ 0 ≤ L 6 i ∧ L 6 i < 1048576 := by
            rcases hk2 with ⟨-, a, b⟩ | ⟨-, a⟩
            · intro i x y; omega
            · exact a.ok hS n0 (by omega)
          have tail : ∀ (M2 : Me), RS T e ph 0 h [] M2 → Ex L M1 n M2 h → Go (km 7 mX12_readsRule Q) 118 [some (.inr 76), none] [.inl m, .inr 93] M2 := fun M2 r2 x2 => by
            refine s_X12_readsRule_118 _ M2 ⟨by omega, ?_⟩
            rw [r2.2.2.2.1]
            have r2' : RS T e ph 0 h [] (mput M2 93 m h) := by
              obtain ⟨y0, y1, y2, y3, y4, y5, y6⟩ := r2
              refine ⟨⟨?_, y0.2.1, fun i x y => ?_⟩, ?_, ?_, ?_, ?_, y5, trivial⟩
              · rw [mput_ne _ _ _ _ (by decide)]; exact y0.1
              · rw [mput_ne _ _ _ _ (by decide)]; exact y0.2.2 i x y
              · rw [mput_ne _ _ _ _ (by decide)]; exact y1
              · rw [mput_ne _ _ _ _ (by decide)]; exact y2
              · rw [mput_ne _ _ _ _ (by decide)]; exact y3
              · rw [mput_ne _ _ _ _ (by decide)]; exact y4
            have hc2 : cdW h (mput M2 93 m h) := fun i i0 i1 => by
              rw [mput_ne _ _ _ _ (by decide)]
              by_cases q : i < n
              · rw [x2.2.1 i q, k89]; exact hc i i0 q
              · have := ok i (by omega) i1
                rw [x2.2.2 i (by omega) i1]; omega
            have f93 : FRq m M2 (mput M2 93 m h) := fun k i a b c d => by
              unfold mput
              rw [if_neg (fun z => d (by omega) z.2)]
            have ff : FRq m M (mput M2 93 m h) := ftr _ _ _ (ftr _ _ _ f1 (fq _ _ x2.1)) f93
            have fin : ∀ M', FRr (mput M2 93 m h) M' → M' 76 16 = f → ((0 : Int) ≠ 0 → (0 ≤ M' 76 21 ∧ M' 76 21 < 16) ∧ cn (M' 76 21 + 1) ∧ Q 1 (mput (mput M' 94 (M' 76 21) (M' 76 19)) 76 21 (M' 76 21 + 1))) ∧ ((0 : Int) = 0 → Q 0 M') := fun M' g1 g2 => ⟨fun z => absurd rfl z, fun _ => hQ M' (ftr _ _ _ ff (fq _ _ g1)) g2⟩
            rcases hz with ⟨a, b⟩ | ⟨h40, b | ⟨tP, tW, p1, n1, b, c, d⟩⟩
            · refine e_X12_readsCondition (q_hereS r2' (by omega) ⟨fun z => absurd z a, fun _ => ?_⟩)
              rw [r2'.2.1]
              exact q_wrong (by omega) (by omega) ⟨Or.inl rfl, fin _ (FRr.p76 _ _ (by omega)) (by rw [mput_same, b])⟩
            · exact q_condB hS he b h40 (by omega) (by omega) r2' hc2 fin
            · exact q_condC hS he b h40 c (by omega) (by omega) r2' (fun M' g1 g2 => fin M' g1 (by rw [g2, d]))
          refine ⟨fun z => ?_, fun z => ?_⟩
          · rcases hk2 with ⟨-, a, b⟩ | ⟨a, -⟩
            · subst a b
              exact tail M1 rs1 (Ex.rf L M1 _)
            · exact absurd z a
          · rcases hk2 with ⟨a, -⟩ | ⟨-, a⟩
            · exact absurd a z
            · refine q_sum hS he a (by omega) (by omega) n0 (by omega) (by simp only [List.length_nil]; omega) (Or.inl (by decide)) rs1 (fun M2 r2 x2 => ⟨fun _ => ?_, fun y => by exfalso; omega⟩)
              rw [x2.1 76 21 (by decide) (by decide) (by decide), a21]
              exact tail M2 r2 x2
      · rcases hz with ⟨a, b⟩ | ⟨ml, -⟩
        · rw [r1]
          exact q_wrong (by omega) (by omega) ⟨Or.inl rfl, hQ _ (fq _ _ (FRr.p76 M _ (by omega))) (by rw [mput_same, b])⟩
        · exfalso; omega
    exact e_X12_readsRule (q_hereB r p0 ⟨fun _ => m33, fun y1 => ⟨fun _ => m33, fun y2 => ⟨fun _ => m33, fun y3 => by rcases hk with q | q | q; exact absurd q y1; exact absurd q y2; exact absurd q y3⟩⟩⟩)
