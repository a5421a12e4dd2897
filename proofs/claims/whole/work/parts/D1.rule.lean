/-! ===== the reference reads a rule ===== -/
def Rz (S : Int → Int) (L : Me) (p n h p' n' : Int) : Prop := (S p = 118 ∨ S p = 102 ∨ S p = 120) ∧ ∃ ph p1 tP tW, ((S p = 120 ∧ ph = p + 1 ∧ h = n) ∨ (S p ≠ 120 ∧ Pz S L (some (0, 0)) 0 (p + 1) n ph h)) ∧ S ph = 40 ∧ Cz S L (some (tP, tW)) 1 (ph + 1) h p1 n' ∧ S p1 = 41 ∧ p' = p1 + 1
def FRq (m : Int) (M M' : Me) : Prop := ∀ k i, k ≠ 89 → k ≠ 90 → (k = 76 → i ≠ 14 ∧ i ≠ 16 ∧ i ≠ 17 ∧ i ≠ 18 ∧ i ≠ 19 ∧ i ≠ 20 ∧ i ≠ 21) → (k = 91 ∨ k = 92 ∨ k = 93 ∨ k = 94 → i ≠ m) → M' k i = M k i
def RB (T : Int → Int) (e p n : Int) (M : Me) : Prop := RT M T e ∧ M 76 14 = p ∧ M 76 19 = n
theorem RS.rb {T : Int → Int} {e p o n : Int} {W : List Int} {M : Me} (h : RS T e p o n W M) : RB T e p n M := ⟨h.1, h.2.1, h.2.2.2.1⟩
theorem q_hereB {T : Int → Int} {e p n : Int} {M : Me} {Q : Int → Me → Prop} (h : RB T e p n M) (p0 : 0 ≤ p) (hQ : Q (Sx T e p) M) : Calls 0 mX12_here [.inr 76] M Q := by
  refine q_here h.1 (by rw [h.2.1]; exact p0) ?_
  rw [h.2.1]; exact hQ
theorem q_rule {T : Int → Int} {e : Int} {L : Me} {Q : Int → Me → Prop} (hS : Sg (Sx T e) e) (he : e ≤ 240) {p n h p' n' m : Int} {M : Me} (hz : Rz (Sx T e) L p n h p' n') (n0 : 0 ≤ n) (np : n ≤ p) (r : RB T e p n M) (hm : M 76 21 = m) (m0 : 0 ≤ m ∧ m < 16)
    (hQ : ∀ M', RS T e p' 0 n' [] M' → M' 76 21 = m + 1 → M' 91 m = Sx T e p → M' 92 m = n → M' 93 m = h → M' 94 m = n' → (∀ i, i < n → M' 89 i = M 89 i) → (∀ i, n ≤ i → i < h → M' 89 i = 1048576 * L 5 i + L 6 i) → CO L h n' [] M' → FRq m M M' → Q 1 M') : Calls 7 mX12_readsRule [.inr 76] M Q := by
  obtain ⟨hk, ph, p1, tP, tW, hw, h40, hc, h41, rfl⟩ := hz
  have hp := hS.2 p (by omega)
  have hph := hS.2 ph (by omega)
  have hp1 := hS.2 p1 (by omega)
  have lc := hc.le hS
  have p0 : 0 ≤ p := by omega
  have nh : n ≤ h ∧ h ≤ ph ∧ p < ph := by
    rcases hw with ⟨-, a, b⟩ | ⟨-, a⟩
    · omega
    · have := a.le hS
      have e0 : pk (some (0, 0)) = 0 := by decide
      omega
  have r3 := r.2.2
  have r1 := r.2.1
  obtain ⟨M1, hM1⟩ : ∃ M1, (mput (mput (mput (mput (mput M 91 m (Sx T e p)) 76 14 (p + 1)) 92 m n) 76 18 0) 76 20 0) = M1 := ⟨_, rfl⟩
  have k89 : ∀ i, M1 89 i = M 89 i := fun i => by
    rw [← hM1, mput_ne _ _ _ _ (by decide), mput_ne _ _ _ _ (by decide), mput_ne _ _ _ _ (by decide), mput_ne _ _ _ _ (by decide), mput_ne _ _ _ _ (by decide)]
  have f1 : FRq m M M1 := fun k i a b c d => by
    rw [← hM1]
    unfold mput
    rw [if_neg (fun z => (c z.1).2.2.2.2.2.1 z.2), if_neg (fun z => (c z.1).2.2.2.1 z.2), if_neg (fun z => d (by omega) z.2), if_neg (fun z => (c z.1).1 z.2), if_neg (fun z => d (by omega) z.2)]
  have a91 : M1 91 m = Sx T e p := by rw [← hM1, mput_ne _ _ _ _ (by decide), mput_ne _ _ _ _ (by decide), mput_ne _ _ _ _ (by decide), mput_ne _ _ _ _ (by decide), mput_same]
  have a92 : M1 92 m = n := by rw [← hM1, mput_ne _ _ _ _ (by decide), mput_ne _ _ _ _ (by decide), mput_same]
  have a21 : M1 76 21 = m := by rw [← hM1, mput_ni _ _ _ _ (by decide), mput_ni _ _ _ _ (by decide), mput_ne _ _ _ _ (by decide), mput_ni _ _ _ _ (by decide), mput_ne _ _ _ _ (by decide)]; exact hm
  have rs1 : RS T e (p + 1) 0 n [] M1 := by
    refine ⟨⟨?_, r.1.2.1, fun i x y => ?_⟩, ?_, ?_, ?_, ?_, fun w hw => absurd hw (by simp), trivial⟩
    · rw [f1 76 15 (by decide) (by decide) (by decide) (fun z => by omega)]; exact r.1.1
    · rw [f1 88 i (by decide) (by decide) (fun z => absurd z (by decide)) (fun z => by omega)]; exact r.1.2.2 i x y
    · rw [← hM1, mput_ni _ _ _ _ (by decide), mput_ni _ _ _ _ (by decide), mput_ne _ _ _ _ (by decide), mput_same]
    · rw [← hM1, mput_ni _ _ _ _ (by decide), mput_same]
    · rw [← hM1, mput_ni _ _ _ _ (by decide), mput_ni _ _ _ _ (by decide), mput_ne _ _ _ _ (by decide), mput_ni _ _ _ _ (by decide), mput_ne _ _ _ _ (by decide)]; exact r3
    · rw [← hM1, mput_same]; rfl
  -- the test
  have tail : ∀ (M2 : Me), RS T e ph 0 h [] M2 → Ex L M1 n M2 h → Go (km 7 mX12_readsRule Q) 118 [some (.inr 76), none] [.inl m, .inr 93] M2 := fun M2 r2 x2 => by
    refine s_X12_readsRule_118 _ M2 ⟨m0, ?_⟩
    rw [r2.2.2.2.1]
    have r2' : RS T e ph 0 h [] (mput M2 93 m h) := by
      obtain ⟨y0, y1, y2, y3, y4, y5, y6⟩ := r2
      refine ⟨⟨?_, y0.2.1, fun i x y => ?_⟩, ?_, ?_, ?_, ?_, y5, trivial⟩
      · rw [mput_ne _ _ _ _ (by decide)]; exact y0.1
      · rw [mput_ne _ _ _ _ (by decide)]; exact y0.2.2 i x y
      · rw [mput_ne _ _ _ _ (by decide)]; exact y1
      · rw [mput_ne _ _ _ _ (by decide)]; exact y2
      · rw [mput_ne _ _ _ _ (by decide)]; exact y3
      · rw [mput_ne _ _ _ _ (by decide)]; exact y4
    refine q_cond hS he hc h40 h41 (by omega) (by omega) r2' (fun M3 r3' c3 x3 => ⟨fun _ => ?_, fun z => by exfalso; omega⟩)
    have q21 : M3 76 21 = m := by rw [x3.1 76 21 (by decide) (by decide) (by decide), mput_ne _ _ _ _ (by decide), x2.1 76 21 (by decide) (by decide) (by decide)]; exact a21
    have k9 : ∀ k, k = 91 ∨ k = 92 → ∀ i, M3 k i = M1 k i := fun k hk i => by rw [x3.1 k i (by omega) (by omega) (fun z => by omega), mput_ne _ _ _ _ (by omega), x2.1 k i (by omega) (by omega) (fun z => by omega)]
    rw [q21, r3'.2.2.2.1]
    refine ⟨m0, by unfold cn; omega, hQ _ ?_ (mput_same ..) ?_ ?_ ?_ ?_ (fun i x => ?_) (fun i x y => ?_) (fun i x y => ?_) (fun k i a b c d => ?_)⟩
    · obtain ⟨y0, y1, y2, y3, y4, y5, y6⟩ := r3'
      refine ⟨⟨?_, y0.2.1, fun i x y => ?_⟩, ?_, ?_, ?_, ?_, y5, trivial⟩
      · rw [mput_ni _ _ _ _ (by decide), mput_ne _ _ _ _ (by decide)]; exact y0.1
      · rw [mput_ne _ _ _ _ (by decide), mput_ne _ _ _ _ (by decide)]; exact y0.2.2 i x y
      · rw [mput_ni _ _ _ _ (by decide), mput_ne _ _ _ _ (by decide)]; exact y1
      · rw [mput_ni _ _ _ _ (by decide), mput_ne _ _ _ _ (by decide)]; exact y2
      · rw [mput_ni _ _ _ _ (by decide), mput_ne _ _ _ _ (by decide)]; exact y3
      · rw [mput_ni _ _ _ _ (by decide), mput_ne _ _ _ _ (by decide)]; exact y4
    · rw [mput_ne _ _ _ _ (by decide), mput_ne _ _ _ _ (by decide), k9 91 (by omega)]; exact a91
    · rw [mput_ne _ _ _ _ (by decide), mput_ne _ _ _ _ (by decide), k9 92 (by omega)]; exact a92
    · rw [mput_ne _ _ _ _ (by decide), mput_ne _ _ _ _ (by decide), x3.1 93 m (by decide) (by decide) (fun z => absurd z (by decide)), mput_same]
    · rw [mput_ne _ _ _ _ (by decide), mput_same]
    · rw [mput_ne _ _ _ _ (by decide), mput_ne _ _ _ _ (by decide), x3.2 i (by omega), mput_ne _ _ _ _ (by decide), x2.2.1 i x, k89]
    · rw [mput_ne _ _ _ _ (by decide), mput_ne _ _ _ _ (by decide), x3.2 i y, mput_ne _ _ _ _ (by decide)]; exact x2.2.2 i x y
    · rw [mput_ne _ _ _ _ (by decide), mput_ne _ _ _ _ (by decide)]; exact c3 i x y
    · have h1 : ∀ A : Me, mput (mput A 94 m n') 76 21 (m + 1) k i = A k i := fun A => by
        unfold mput
        rw [if_neg (fun z => (c z.1).2.2.2.2.2.2 z.2), if_neg (fun z => d (by omega) z.2)]
      have h2 : ∀ A : Me, mput A 93 m h k i = A k i := fun A => by
        unfold mput
        rw [if_neg (fun z => d (by omega) z.2)]
      have c' : k = 76 → i ≠ 14 ∧ i ≠ 16 ∧ i ≠ 17 ∧ i ≠ 18 ∧ i ≠ 19 ∧ i ≠ 20 := fun z => ⟨(c z).1, (c z).2.1, (c z).2.2.1, (c z).2.2.2.1, (c z).2.2.2.2.1, (c z).2.2.2.2.2.1⟩
      rw [h1, x3.1 k i a b c', h2, x2.1 k i a b c', f1 k i a b c d]
  have m33 : Go (km 7 mX12_readsRule Q) 33 [some (.inr 76), some (.inl (Sx T e p))] [] M := by
    refine s_X12_readsRule_33 _ M ⟨fun _ => ?_, fun z => by exfalso; omega⟩
    rw [hm, r1, r3, hM1]
    refine ⟨m0, by unfold cn; omega, m0, fun z => ?_, fun z => ?_⟩
    · rcases hw with ⟨-, a, b⟩ | ⟨a, -⟩
      · subst a b
        exact tail M1 rs1 (Ex.rf L M1 _)
      · exact absurd z a
    · rcases hw with ⟨a, -⟩ | ⟨-, a⟩
      · exact absurd a z
      · refine q_sum hS he a (by omega) (by omega) n0 (by omega) (by simp only [List.length_nil]; omega) (Or.inl (by decide)) rs1 (fun M2 r2 x2 => ⟨fun _ => ?_, fun y => by exfalso; omega⟩)
        rw [x2.1 76 21 (by decide) (by decide) (by decide), a21]
        exact tail M2 r2 x2
  exact e_X12_readsRule (q_hereB r p0 ⟨fun _ => m33, fun y1 => ⟨fun _ => m33, fun y2 => ⟨fun _ => m33, fun y3 => by exfalso; omega⟩⟩⟩)
